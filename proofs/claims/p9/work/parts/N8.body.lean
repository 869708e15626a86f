/-! FeatherBench$Bodies.enterFunc -/
def v_6_45 (T : Nat → List Value → zS → (Option Value → zS → Prop) → Prop) (P : Nat) (R45 : Int32 → Int32 → Int32 → zS → Prop) (a1 : Int32) (a2 : Int32) (a3 : Int32) (s : zS) (Q : Option Value → zS → Prop) : Prop :=
  ((zg s (P + 22) a2).toInt ≤ a3.toInt → ∀ s2, s2 = zf s 84 5 (zg s (P + 26) (a1 * 10 + 7)) → ∀ x3 : Int32, (-2147483648 ≤ a1.toInt * 10 ∧ a1.toInt * 10 ≤ 2147483647 → x3.toInt = a1.toInt * 10) → ∀ x4 : Int32, (-2147483648 ≤ x3.toInt + 8 ∧ x3.toInt + 8 ≤ 2147483647 → x4.toInt = x3.toInt + 8) → ∀ x5 : Int32, (0 ≤ (s2.1 (P + 34) 2).toInt → x5.toInt = (s2.1 (P + 34) 2).toInt / 6) → (-1 ≤ x5.toInt ∧ x5.toInt ≤ 5000) ∧ (∀ s6, s6 = zt s2 (P + 26) x4 x5 → Q none s6)) ∧ (¬ ((zg s (P + 22) a2).toInt ≤ a3.toInt) → ∀ x7 : Int32, (-2147483648 ≤ (s.1 84 7).toInt + 1 ∧ (s.1 84 7).toInt + 1 ≤ 2147483647 → x7.toInt = (s.1 84 7).toInt + 1) → ∀ x8 : Int32, (-2147483648 ≤ x7.toInt + a3.toInt ∧ x7.toInt + a3.toInt ≤ 2147483647 → x8.toInt = x7.toInt + a3.toInt) → ∀ x9 : Int32, (-2147483648 ≤ 24 + a3.toInt ∧ 24 + a3.toInt ≤ 2147483647 → x9.toInt = 24 + a3.toInt) → (x8.toInt < 0 ∨ 18 ≤ x8.toInt) ∧ (∀ s10, s10 = zt s (P + 18) x8 x9 → ∀ x11 : Int32, (-2147483648 ≤ a3.toInt + 1 ∧ a3.toInt + 1 ≤ 2147483647 → x11.toInt = a3.toInt + 1) → R45 a1 a2 x11 s10))
def vl_6_45 (T : Nat → List Value → zS → (Option Value → zS → Prop) → Prop) (P : Nat)  (a1 : Int32) (a2 : Int32) (a3 : Int32) (s : zS) (Q : Option Value → zS → Prop) : Prop :=
  ∃ (I : Int32 → Int32 → Int32 → zS → Prop) (μ : Int32 → Int32 → Int32 → zS → Nat), I a1 a2 a3 s ∧ ∀ (a1 : Int32) (a2 : Int32) (a3 : Int32) (s : zS), I a1 a2 a3 s → v_6_45 T P (fun a1' a2' a3' s' => I a1' a2' a3' s' ∧ μ a1' a2' a3' s' < μ a1 a2 a3 s) a1 a2 a3 s Q
def v_6_0 (T : Nat → List Value → zS → (Option Value → zS → Prop) → Prop) (P : Nat)  (a1 : Int32) (s : zS) (Q : Option Value → zS → Prop) : Prop :=
  ∀ s1, s1 = zf s 84 6 a1 → T 82 [.ref 75, .int (zg s1 (P + 26) (a1 * 10 + 2)), .int (zg s1 (P + 26) (a1 * 10 + 3)), .int (zg s1 (P + 26) (a1 * 10 + 5))] s1 (fun v5 s6 => v5 = none ∧ (∀ s7, s7 = zf s6 84 7 18 → ∀ x8 : Int32, (-2147483648 ≤ 19 + (zg s7 (P + 22) (zg s1 (P + 26) (a1 * 10 + 2))).toInt ∧ 19 + (zg s7 (P + 22) (zg s1 (P + 26) (a1 * 10 + 2))).toInt ≤ 2147483647 → x8.toInt = 19 + (zg s7 (P + 22) (zg s1 (P + 26) (a1 * 10 + 2))).toInt) → ∀ s9, s9 = zf s7 75 3 x8 → ((s9.1 84 7).toInt < 0 ∨ 18 ≤ (s9.1 84 7).toInt) ∧ (∀ s10, s10 = zt s9 (P + 18) (s9.1 84 7) (zg s1 (P + 26) (a1 * 10 + 2)) → vl_6_45 T P  a1 (zg s1 (P + 26) (a1 * 10 + 2)) 0 s10 Q)))
set_option maxRecDepth 20000 in
theorem m_6_45_3 {d d0 : Nat} (hd : d = d0 + 8) {R45 : Int32 → Int32 → Int32 → zS → Prop} {a1 : Int32} {a2 : Int32} {a3 : Int32} {s : zS} {Q : Option Value → zS → Prop} (r45 : ∀ a1 a2 a3 s, R45 a1 a2 a3 s → Zn d [] [(3, 99), (3, 98)] ([(84, 2, 3), (84, 3, 4), (84, 4, 7), (83, 1, 3), (83, 2, 4), (75, 0, 3), (75, 1, 21), (75, 2, 25)] : zW) ([(84, 2, 3), (84, 3, 4), (84, 4, 7), (83, 1, 3), (83, 2, 4), (75, 0, 3), (75, 1, 21), (75, 2, 25)] : zW) xL_1 4 (none) xE_6 (xE_6.drop 45) [.ref 84, .int a1, .int a2, .int a3, .null, .null] [] s Q) (h : v_6_45 (fun j => Zt d (wd 3 j) j) 3 R45 a1 a2 a3 s Q) : Zn d [] [(3, 99), (3, 98)] ([(84, 2, 3), (84, 3, 4), (84, 4, 7), (83, 1, 3), (83, 2, 4), (75, 0, 3), (75, 1, 21), (75, 2, 25)] : zW) ([(84, 2, 3), (84, 3, 4), (84, 4, 7), (83, 1, 3), (83, 2, 4), (75, 0, 3), (75, 1, 21), (75, 2, 25)] : zW) xL_1 4 (none) xE_6 (xE_6.drop 45) [.ref 84, .int a1, .int a2, .int a3, .null, .null] [] s Q := by
  unfold v_6_45 at h
  refine zn_ld rfl rfl rfl ?_
  refine zn_ld rfl rfl rfl ?_
  refine zn_get (v := .ref 3) rfl (zv_C (a := 84) (n := 0) rfl rfl rfl) ?_
  refine zn_get (v := .ref 25) rfl (zv_R (a := 3) rfl rfl) ?_
  refine zn_ld rfl rfl rfl ?_
  refine zn_row a2 [.int a3] (a := 25) hd rfl rfl rfl rfl ?_
  change Zn _ _ _ _ _ _ _ _ _ _ _ [.int (zg s 25 a2), .int a3] _ _
  refine zn_brP rfl rfl ⟨fun hcn => ?_, fun hcn => ?_⟩
  · replace h := h.1 ((i_le (x := zg s 25 a2) (y := a3) rfl rfl).mp hcn)
    refine zn_ld rfl rfl rfl ?_
    refine zn_ld rfl rfl rfl ?_
    refine zn_get (v := .ref 3) rfl (zv_C (a := 84) (n := 0) rfl rfl rfl) ?_
    refine zn_ld rfl rfl rfl ?_
    refine zn_c [.int 7, .int a1, .ref 3, .ref 84] (xo_push (.int 7)) rfl rfl ?_
    refine zn_zt [.ref 3, .int a1, .int 7] [.ref 84] (c := []) rfl rfl rfl rfl rfl (Zt.imp (zp_40 hd (Or.inl rfl)) (fun vq sq hq => ?_))
    obtain ⟨rfl, hq⟩ := hq
    rw [hq]
    change Zn _ _ _ _ _ _ _ _ _ _ _ [.int (zg s 29 (a1 * 10 + 7)), .ref 84] _ _
    refine zn_putI (a := 84) rfl rfl rfl rfl ⟨Int32.le_toInt _, Int.le_of_lt_add_one (Int32.toInt_lt _)⟩ rfl rfl rfl ?_
    replace h := h _ rfl
    refine zn_ld rfl rfl rfl ?_
    refine zn_get (v := .ref 3) rfl (zv_C (a := 84) (n := 0) rfl rfl rfl) ?_
    refine zn_get (v := .ref 29) rfl (zv_R (a := 3) rfl rfl) ?_
    refine zn_ld rfl rfl rfl ?_
    refine zn_c [.int 10, .int a1, .ref 29] (xo_push (.int 10)) rfl rfl ?_
    replace h := h _ (i_mul (x := a1) (y := 10) rfl (show (10 : Int32).toInt = 10 by decide))
    refine zn_c [.int (a1 * 10), .ref 29] xo_imul rfl rfl ?_
    refine zn_c [.int 8, .int (a1 * 10), .ref 29] (xo_push (.int 8)) rfl rfl ?_
    replace h := h _ (i_add (x := (a1 * 10)) (y := 8) rfl (show (8 : Int32).toInt = 8 by decide))
    refine zn_c [.int ((a1 * 10) + 8), .ref 29] xo_iadd rfl rfl ?_
    refine zn_ld rfl rfl rfl ?_
    refine zn_get (v := .ref 3) rfl (zv_C (a := 84) (n := 0) rfl rfl rfl) ?_
    refine zn_get (v := .ref 37) rfl (zv_R (a := 3) rfl rfl) ?_
    refine zn_get (v := .int ((zf s 84 5 (zg s 29 (a1 * 10 + 7))).1 37 2)) rfl (zv_I (a := 37) rfl rfl) ?_
    refine zn_c [.int 6, .int ((zf s 84 5 (zg s 29 (a1 * 10 + 7))).1 37 2), .int ((a1 * 10) + 8), .ref 29] (xo_push (.int 6)) rfl rfl ?_
    replace h := h (((zf s 84 5 (zg s 29 (a1 * 10 + 7))).1 37 2) / 6) (i_dv (x := (zf s 84 5 (zg s 29 (a1 * 10 + 7))).1 37 2) (y := 6) rfl (show (6 : Int32).toInt = 6 by decide) (by decide))
    refine zn_c [.int (((zf s 84 5 (zg s 29 (a1 * 10 + 7))).1 37 2) / 6), .int ((a1 * 10) + 8), .ref 29] xo_idiv rfl (o_idiv (by decide)) ?_
    refine zn_set ((a1 * 10) + 8) (((zf s 84 5 (zg s 29 (a1 * 10 + 7))).1 37 2) / 6) [] (a := 29) hd rfl rfl rfl rfl h.1 rfl rfl ?_
    replace h := h.2
    replace h := h _ rfl
    exact zn_ret0 rfl h
  · replace h := h.2 (fun q => hcn ((i_le (x := zg s 25 a2) (y := a3) rfl rfl).mpr q))
    refine zn_ld rfl rfl rfl ?_
    refine zn_get (v := .ref 3) rfl (zv_C (a := 84) (n := 0) rfl rfl rfl) ?_
    refine zn_get (v := .ref 21) rfl (zv_R (a := 3) rfl rfl) ?_
    refine zn_ld rfl rfl rfl ?_
    refine zn_get (v := .int (s.1 84 7)) rfl (zv_I (a := 84) rfl rfl) ?_
    refine zn_c [.int 1, .int (s.1 84 7), .ref 21] (xo_push (.int 1)) rfl rfl ?_
    replace h := h _ (i_add (x := s.1 84 7) (y := 1) rfl (show (1 : Int32).toInt = 1 by decide))
    refine zn_c [.int ((s.1 84 7) + 1), .ref 21] xo_iadd rfl rfl ?_
    refine zn_ld rfl rfl rfl ?_
    replace h := h _ (i_add (x := ((s.1 84 7) + 1)) (y := a3) rfl rfl)
    refine zn_c [.int (((s.1 84 7) + 1) + a3), .ref 21] xo_iadd rfl rfl ?_
    refine zn_c [.int 24, .int (((s.1 84 7) + 1) + a3), .ref 21] (xo_push (.int 24)) rfl rfl ?_
    refine zn_ld rfl rfl rfl ?_
    replace h := h _ (i_add (x := 24) (y := a3) (show (24 : Int32).toInt = 24 by decide) rfl)
    refine zn_c [.int (24 + a3), .int (((s.1 84 7) + 1) + a3), .ref 21] xo_iadd rfl rfl ?_
    obtain ⟨hx18, h⟩ := h
    refine zn_set (((s.1 84 7) + 1) + a3) (24 + a3) [] (a := 21) hd rfl rfl rfl rfl ⟨Int32.le_toInt _, Int.le_of_lt_add_one (Int32.toInt_lt _)⟩ rfl rfl ?_ (hx := Or.inr hx18)
    replace h := h _ rfl
    replace h := h _ (i_add (x := a3) (y := 1) rfl (show (1 : Int32).toInt = 1 by decide))
    refine zn_inc [.ref 84, .int a1, .int a2, .int (a3 + 1), .null, .null] rfl rfl rfl rfl ?_
    refine zn_go rfl ?_
    exact r45 a1 a2 (a3 + 1) (zt s 21 (((s.1 84 7) + 1) + a3) (24 + a3)) h
theorem ml_6_45_3 {d d0 : Nat} (hd : d = d0 + 8)  {a1 : Int32} {a2 : Int32} {a3 : Int32} {s : zS} {Q : Option Value → zS → Prop}  (h : vl_6_45 (fun j => Zt d (wd 3 j) j) 3  a1 a2 a3 s Q) : Zn d [] [(3, 99), (3, 98)] ([(84, 2, 3), (84, 3, 4), (84, 4, 7), (83, 1, 3), (83, 2, 4), (75, 0, 3), (75, 1, 21), (75, 2, 25)] : zW) ([(84, 2, 3), (84, 3, 4), (84, 4, 7), (83, 1, 3), (83, 2, 4), (75, 0, 3), (75, 1, 21), (75, 2, 25)] : zW) xL_1 4 (none) xE_6 (xE_6.drop 45) [.ref 84, .int a1, .int a2, .int a3, .null, .null] [] s Q := by
  obtain ⟨I, μ, h0, h1⟩ := h
  have key : ∀ (n : Nat) (a1 : Int32) (a2 : Int32) (a3 : Int32) (s : zS), μ a1 a2 a3 s = n → I a1 a2 a3 s → Zn d [] [(3, 99), (3, 98)] ([(84, 2, 3), (84, 3, 4), (84, 4, 7), (83, 1, 3), (83, 2, 4), (75, 0, 3), (75, 1, 21), (75, 2, 25)] : zW) ([(84, 2, 3), (84, 3, 4), (84, 4, 7), (83, 1, 3), (83, 2, 4), (75, 0, 3), (75, 1, 21), (75, 2, 25)] : zW) xL_1 4 (none) xE_6 (xE_6.drop 45) [.ref 84, .int a1, .int a2, .int a3, .null, .null] [] s Q := by
    intro n
    induction n using Nat.strongRecOn with
    | ind n ih =>
      intro a1 a2 a3 s e hI
      exact m_6_45_3 hd (fun a1' a2' a3' s' q => ih _ (by rw [← e]; exact q.2) a1' a2' a3' s' rfl q.1) (h1 a1 a2 a3 s hI)
  exact key _ a1 a2 a3 s rfl h0
set_option maxRecDepth 20000 in
theorem m_6_0_3 {d d0 : Nat} (hd : d = d0 + 8)  {a1 : Int32} {s : zS} {Q : Option Value → zS → Prop}  (h : v_6_0 (fun j => Zt d (wd 3 j) j) 3  a1 s Q) : Zn d [] [(3, 99), (3, 98)] ([(84, 2, 3), (84, 3, 4), (84, 4, 7), (83, 1, 3), (83, 2, 4), (75, 0, 3), (75, 1, 21), (75, 2, 25)] : zW) ([(84, 2, 3), (84, 3, 4), (84, 4, 7), (83, 1, 3), (83, 2, 4), (75, 0, 3), (75, 1, 21), (75, 2, 25)] : zW) xL_1 4 (none) xE_6 (xE_6.drop 0) [.ref 84, .int a1, .null, .null, .null, .null] [] s Q := by
  unfold v_6_0 at h
  refine zn_ld rfl rfl rfl ?_
  refine zn_ld rfl rfl rfl ?_
  refine zn_putI (a := 84) rfl rfl rfl rfl ⟨Int32.le_toInt _, Int.le_of_lt_add_one (Int32.toInt_lt _)⟩ rfl rfl rfl ?_
  replace h := h _ rfl
  refine zn_ld rfl rfl rfl ?_
  refine zn_get (v := .ref 3) rfl (zv_C (a := 84) (n := 0) rfl rfl rfl) ?_
  refine zn_ld rfl rfl rfl ?_
  refine zn_c [.int 2, .int a1, .ref 3] (xo_push (.int 2)) rfl rfl ?_
  refine zn_zt [.ref 3, .int a1, .int 2] [] (c := []) rfl rfl rfl rfl rfl (Zt.imp (zp_40 hd (Or.inl rfl)) (fun vq sq hq => ?_))
  obtain ⟨rfl, hq⟩ := hq
  rw [hq]
  change Zn _ _ _ _ _ _ _ _ _ _ _ [.int (zg (zf s 84 6 a1) 29 (a1 * 10 + 2))] _ _
  refine zn_st [.ref 84, .int a1, .int (zg (zf s 84 6 a1) 29 (a1 * 10 + 2)), .null, .null, .null] rfl rfl rfl ?_
  refine zn_ld rfl rfl rfl ?_
  refine zn_get (v := .ref 75) rfl (zv_R (a := 84) rfl rfl) ?_
  refine zn_ld rfl rfl rfl ?_
  refine zn_ld rfl rfl rfl ?_
  refine zn_get (v := .ref 3) rfl (zv_C (a := 84) (n := 0) rfl rfl rfl) ?_
  refine zn_ld rfl rfl rfl ?_
  refine zn_c [.int 3, .int a1, .ref 3, .int (zg (zf s 84 6 a1) 29 (a1 * 10 + 2)), .ref 75] (xo_push (.int 3)) rfl rfl ?_
  refine zn_zt [.ref 3, .int a1, .int 3] [.int (zg (zf s 84 6 a1) 29 (a1 * 10 + 2)), .ref 75] (c := []) rfl rfl rfl rfl rfl (Zt.imp (zp_40 hd (Or.inl rfl)) (fun vq sq hq => ?_))
  obtain ⟨rfl, hq⟩ := hq
  rw [hq]
  change Zn _ _ _ _ _ _ _ _ _ _ _ [.int (zg (zf s 84 6 a1) 29 (a1 * 10 + 3)), .int (zg (zf s 84 6 a1) 29 (a1 * 10 + 2)), .ref 75] _ _
  refine zn_ld rfl rfl rfl ?_
  refine zn_get (v := .ref 3) rfl (zv_C (a := 84) (n := 0) rfl rfl rfl) ?_
  refine zn_ld rfl rfl rfl ?_
  refine zn_c [.int 5, .int a1, .ref 3, .int (zg (zf s 84 6 a1) 29 (a1 * 10 + 3)), .int (zg (zf s 84 6 a1) 29 (a1 * 10 + 2)), .ref 75] (xo_push (.int 5)) rfl rfl ?_
  refine zn_zt [.ref 3, .int a1, .int 5] [.int (zg (zf s 84 6 a1) 29 (a1 * 10 + 3)), .int (zg (zf s 84 6 a1) 29 (a1 * 10 + 2)), .ref 75] (c := []) rfl rfl rfl rfl rfl (Zt.imp (zp_40 hd (Or.inl rfl)) (fun vq sq hq => ?_))
  obtain ⟨rfl, hq⟩ := hq
  rw [hq]
  change Zn _ _ _ _ _ _ _ _ _ _ _ [.int (zg (zf s 84 6 a1) 29 (a1 * 10 + 5)), .int (zg (zf s 84 6 a1) 29 (a1 * 10 + 3)), .int (zg (zf s 84 6 a1) 29 (a1 * 10 + 2)), .ref 75] _ _
  refine zn_zt [.ref 75, .int (zg (zf s 84 6 a1) 29 (a1 * 10 + 2)), .int (zg (zf s 84 6 a1) 29 (a1 * 10 + 3)), .int (zg (zf s 84 6 a1) 29 (a1 * 10 + 5))] [] rfl rfl rfl rfl rfl (Zt.imp h (fun v5 s6 h => ?_))
  obtain ⟨rfl, h⟩ := h
  change Zn _ _ _ _ _ _ _ _ _ _ _ [] _ _
  refine zn_ld rfl rfl rfl ?_
  refine zn_c [.int 18, .ref 84] (xo_push (.int 18)) rfl rfl ?_
  refine zn_putI (a := 84) rfl rfl rfl rfl ⟨Int32.le_toInt _, Int.le_of_lt_add_one (Int32.toInt_lt _)⟩ rfl rfl rfl ?_
  replace h := h _ rfl
  refine zn_ld rfl rfl rfl ?_
  refine zn_get (v := .ref 75) rfl (zv_R (a := 84) rfl rfl) ?_
  refine zn_c [.int 19, .ref 75] (xo_push (.int 19)) rfl rfl ?_
  refine zn_ld rfl rfl rfl ?_
  refine zn_get (v := .ref 3) rfl (zv_C (a := 84) (n := 0) rfl rfl rfl) ?_
  refine zn_get (v := .ref 25) rfl (zv_R (a := 3) rfl rfl) ?_
  refine zn_ld rfl rfl rfl ?_
  refine zn_row (zg (zf s 84 6 a1) 29 (a1 * 10 + 2)) [.int 19, .ref 75] (a := 25) hd rfl rfl rfl rfl ?_
  change Zn _ _ _ _ _ _ _ _ _ _ _ [.int (zg (zf s6 84 7 18) 25 (zg (zf s 84 6 a1) 29 (a1 * 10 + 2))), .int 19, .ref 75] _ _
  replace h := h _ (i_add (x := 19) (y := zg (zf s6 84 7 18) 25 (zg (zf s 84 6 a1) 29 (a1 * 10 + 2))) (show (19 : Int32).toInt = 19 by decide) rfl)
  refine zn_c [.int (19 + (zg (zf s6 84 7 18) 25 (zg (zf s 84 6 a1) 29 (a1 * 10 + 2)))), .ref 75] xo_iadd rfl rfl ?_
  refine zn_putI (a := 75) rfl rfl rfl rfl ⟨Int32.le_toInt _, Int.le_of_lt_add_one (Int32.toInt_lt _)⟩ rfl rfl rfl ?_
  replace h := h _ rfl
  refine zn_ld rfl rfl rfl ?_
  refine zn_get (v := .ref 3) rfl (zv_C (a := 84) (n := 0) rfl rfl rfl) ?_
  refine zn_get (v := .ref 21) rfl (zv_R (a := 3) rfl rfl) ?_
  refine zn_ld rfl rfl rfl ?_
  refine zn_get (v := .int ((zf (zf s6 84 7 18) 75 3 (19 + (zg (zf s6 84 7 18) 25 (zg (zf s 84 6 a1) 29 (a1 * 10 + 2))))).1 84 7)) rfl (zv_I (a := 84) rfl rfl) ?_
  refine zn_ld rfl rfl rfl ?_
  obtain ⟨hx18, h⟩ := h
  refine zn_set ((zf (zf s6 84 7 18) 75 3 (19 + (zg (zf s6 84 7 18) 25 (zg (zf s 84 6 a1) 29 (a1 * 10 + 2))))).1 84 7) (zg (zf s 84 6 a1) 29 (a1 * 10 + 2)) [] (a := 21) hd rfl rfl rfl rfl ⟨Int32.le_toInt _, Int.le_of_lt_add_one (Int32.toInt_lt _)⟩ rfl rfl ?_ (hx := Or.inr hx18)
  replace h := h _ rfl
  refine zn_c [.int 0] (xo_push (.int 0)) rfl rfl ?_
  refine zn_st [.ref 84, .int a1, .int (zg (zf s 84 6 a1) 29 (a1 * 10 + 2)), .int 0, .null, .null] rfl rfl rfl ?_
  exact ml_6_45_3 hd  h
theorem zq_6_3 {d : Nat} {a1 : Int32} {s : zS} {Q : Option Value → zS → Prop} (h : v_6_0 (fun j => Zt (d + 8) (wd 3 j) j) 3 a1 s Q) : Zt (d + 9) ([(84, 2, 3), (84, 3, 4), (84, 4, 7), (83, 1, 3), (83, 2, 4), (75, 0, 3), (75, 1, 21), (75, 2, 25)] : zW) 6 [.ref 84, .int a1] s Q := zt_of (E := xE_6) (L := xL_1) (ml := 4) (ret := none) rfl rfl rfl (m_6_0_3 rfl h)
set_option maxRecDepth 20000 in
theorem m_6_45_39 {d d0 : Nat} (hd : d = d0 + 8) {R45 : Int32 → Int32 → Int32 → zS → Prop} {a1 : Int32} {a2 : Int32} {a3 : Int32} {s : zS} {Q : Option Value → zS → Prop} (r45 : ∀ a1 a2 a3 s, R45 a1 a2 a3 s → Zn d [] [(39, 99), (39, 98)] ([(84, 2, 39), (84, 3, 40), (84, 4, 43), (83, 1, 39), (83, 2, 40), (75, 0, 39), (75, 1, 57), (75, 2, 61)] : zW) ([(84, 2, 39), (84, 3, 40), (84, 4, 43), (83, 1, 39), (83, 2, 40), (75, 0, 39), (75, 1, 57), (75, 2, 61)] : zW) xL_1 4 (none) xE_6 (xE_6.drop 45) [.ref 84, .int a1, .int a2, .int a3, .null, .null] [] s Q) (h : v_6_45 (fun j => Zt d (wd 39 j) j) 39 R45 a1 a2 a3 s Q) : Zn d [] [(39, 99), (39, 98)] ([(84, 2, 39), (84, 3, 40), (84, 4, 43), (83, 1, 39), (83, 2, 40), (75, 0, 39), (75, 1, 57), (75, 2, 61)] : zW) ([(84, 2, 39), (84, 3, 40), (84, 4, 43), (83, 1, 39), (83, 2, 40), (75, 0, 39), (75, 1, 57), (75, 2, 61)] : zW) xL_1 4 (none) xE_6 (xE_6.drop 45) [.ref 84, .int a1, .int a2, .int a3, .null, .null] [] s Q := by
  unfold v_6_45 at h
  refine zn_ld rfl rfl rfl ?_
  refine zn_ld rfl rfl rfl ?_
  refine zn_get (v := .ref 39) rfl (zv_C (a := 84) (n := 0) rfl rfl rfl) ?_
  refine zn_get (v := .ref 61) rfl (zv_R (a := 39) rfl rfl) ?_
  refine zn_ld rfl rfl rfl ?_
  refine zn_row a2 [.int a3] (a := 61) hd rfl rfl rfl rfl ?_
  change Zn _ _ _ _ _ _ _ _ _ _ _ [.int (zg s 61 a2), .int a3] _ _
  refine zn_brP rfl rfl ⟨fun hcn => ?_, fun hcn => ?_⟩
  · replace h := h.1 ((i_le (x := zg s 61 a2) (y := a3) rfl rfl).mp hcn)
    refine zn_ld rfl rfl rfl ?_
    refine zn_ld rfl rfl rfl ?_
    refine zn_get (v := .ref 39) rfl (zv_C (a := 84) (n := 0) rfl rfl rfl) ?_
    refine zn_ld rfl rfl rfl ?_
    refine zn_c [.int 7, .int a1, .ref 39, .ref 84] (xo_push (.int 7)) rfl rfl ?_
    refine zn_zt [.ref 39, .int a1, .int 7] [.ref 84] (c := []) rfl rfl rfl rfl rfl (Zt.imp (zp_40 hd (Or.inr rfl)) (fun vq sq hq => ?_))
    obtain ⟨rfl, hq⟩ := hq
    rw [hq]
    change Zn _ _ _ _ _ _ _ _ _ _ _ [.int (zg s 65 (a1 * 10 + 7)), .ref 84] _ _
    refine zn_putI (a := 84) rfl rfl rfl rfl ⟨Int32.le_toInt _, Int.le_of_lt_add_one (Int32.toInt_lt _)⟩ rfl rfl rfl ?_
    replace h := h _ rfl
    refine zn_ld rfl rfl rfl ?_
    refine zn_get (v := .ref 39) rfl (zv_C (a := 84) (n := 0) rfl rfl rfl) ?_
    refine zn_get (v := .ref 65) rfl (zv_R (a := 39) rfl rfl) ?_
    refine zn_ld rfl rfl rfl ?_
    refine zn_c [.int 10, .int a1, .ref 65] (xo_push (.int 10)) rfl rfl ?_
    replace h := h _ (i_mul (x := a1) (y := 10) rfl (show (10 : Int32).toInt = 10 by decide))
    refine zn_c [.int (a1 * 10), .ref 65] xo_imul rfl rfl ?_
    refine zn_c [.int 8, .int (a1 * 10), .ref 65] (xo_push (.int 8)) rfl rfl ?_
    replace h := h _ (i_add (x := (a1 * 10)) (y := 8) rfl (show (8 : Int32).toInt = 8 by decide))
    refine zn_c [.int ((a1 * 10) + 8), .ref 65] xo_iadd rfl rfl ?_
    refine zn_ld rfl rfl rfl ?_
    refine zn_get (v := .ref 39) rfl (zv_C (a := 84) (n := 0) rfl rfl rfl) ?_
    refine zn_get (v := .ref 73) rfl (zv_R (a := 39) rfl rfl) ?_
    refine zn_get (v := .int ((zf s 84 5 (zg s 65 (a1 * 10 + 7))).1 73 2)) rfl (zv_I (a := 73) rfl rfl) ?_
    refine zn_c [.int 6, .int ((zf s 84 5 (zg s 65 (a1 * 10 + 7))).1 73 2), .int ((a1 * 10) + 8), .ref 65] (xo_push (.int 6)) rfl rfl ?_
    replace h := h (((zf s 84 5 (zg s 65 (a1 * 10 + 7))).1 73 2) / 6) (i_dv (x := (zf s 84 5 (zg s 65 (a1 * 10 + 7))).1 73 2) (y := 6) rfl (show (6 : Int32).toInt = 6 by decide) (by decide))
    refine zn_c [.int (((zf s 84 5 (zg s 65 (a1 * 10 + 7))).1 73 2) / 6), .int ((a1 * 10) + 8), .ref 65] xo_idiv rfl (o_idiv (by decide)) ?_
    refine zn_set ((a1 * 10) + 8) (((zf s 84 5 (zg s 65 (a1 * 10 + 7))).1 73 2) / 6) [] (a := 65) hd rfl rfl rfl rfl h.1 rfl rfl ?_
    replace h := h.2
    replace h := h _ rfl
    exact zn_ret0 rfl h
  · replace h := h.2 (fun q => hcn ((i_le (x := zg s 61 a2) (y := a3) rfl rfl).mpr q))
    refine zn_ld rfl rfl rfl ?_
    refine zn_get (v := .ref 39) rfl (zv_C (a := 84) (n := 0) rfl rfl rfl) ?_
    refine zn_get (v := .ref 57) rfl (zv_R (a := 39) rfl rfl) ?_
    refine zn_ld rfl rfl rfl ?_
    refine zn_get (v := .int (s.1 84 7)) rfl (zv_I (a := 84) rfl rfl) ?_
    refine zn_c [.int 1, .int (s.1 84 7), .ref 57] (xo_push (.int 1)) rfl rfl ?_
    replace h := h _ (i_add (x := s.1 84 7) (y := 1) rfl (show (1 : Int32).toInt = 1 by decide))
    refine zn_c [.int ((s.1 84 7) + 1), .ref 57] xo_iadd rfl rfl ?_
    refine zn_ld rfl rfl rfl ?_
    replace h := h _ (i_add (x := ((s.1 84 7) + 1)) (y := a3) rfl rfl)
    refine zn_c [.int (((s.1 84 7) + 1) + a3), .ref 57] xo_iadd rfl rfl ?_
    refine zn_c [.int 24, .int (((s.1 84 7) + 1) + a3), .ref 57] (xo_push (.int 24)) rfl rfl ?_
    refine zn_ld rfl rfl rfl ?_
    replace h := h _ (i_add (x := 24) (y := a3) (show (24 : Int32).toInt = 24 by decide) rfl)
    refine zn_c [.int (24 + a3), .int (((s.1 84 7) + 1) + a3), .ref 57] xo_iadd rfl rfl ?_
    obtain ⟨hx18, h⟩ := h
    refine zn_set (((s.1 84 7) + 1) + a3) (24 + a3) [] (a := 57) hd rfl rfl rfl rfl ⟨Int32.le_toInt _, Int.le_of_lt_add_one (Int32.toInt_lt _)⟩ rfl rfl ?_ (hx := Or.inr hx18)
    replace h := h _ rfl
    replace h := h _ (i_add (x := a3) (y := 1) rfl (show (1 : Int32).toInt = 1 by decide))
    refine zn_inc [.ref 84, .int a1, .int a2, .int (a3 + 1), .null, .null] rfl rfl rfl rfl ?_
    refine zn_go rfl ?_
    exact r45 a1 a2 (a3 + 1) (zt s 57 (((s.1 84 7) + 1) + a3) (24 + a3)) h
theorem ml_6_45_39 {d d0 : Nat} (hd : d = d0 + 8)  {a1 : Int32} {a2 : Int32} {a3 : Int32} {s : zS} {Q : Option Value → zS → Prop}  (h : vl_6_45 (fun j => Zt d (wd 39 j) j) 39  a1 a2 a3 s Q) : Zn d [] [(39, 99), (39, 98)] ([(84, 2, 39), (84, 3, 40), (84, 4, 43), (83, 1, 39), (83, 2, 40), (75, 0, 39), (75, 1, 57), (75, 2, 61)] : zW) ([(84, 2, 39), (84, 3, 40), (84, 4, 43), (83, 1, 39), (83, 2, 40), (75, 0, 39), (75, 1, 57), (75, 2, 61)] : zW) xL_1 4 (none) xE_6 (xE_6.drop 45) [.ref 84, .int a1, .int a2, .int a3, .null, .null] [] s Q := by
  obtain ⟨I, μ, h0, h1⟩ := h
  have key : ∀ (n : Nat) (a1 : Int32) (a2 : Int32) (a3 : Int32) (s : zS), μ a1 a2 a3 s = n → I a1 a2 a3 s → Zn d [] [(39, 99), (39, 98)] ([(84, 2, 39), (84, 3, 40), (84, 4, 43), (83, 1, 39), (83, 2, 40), (75, 0, 39), (75, 1, 57), (75, 2, 61)] : zW) ([(84, 2, 39), (84, 3, 40), (84, 4, 43), (83, 1, 39), (83, 2, 40), (75, 0, 39), (75, 1, 57), (75, 2, 61)] : zW) xL_1 4 (none) xE_6 (xE_6.drop 45) [.ref 84, .int a1, .int a2, .int a3, .null, .null] [] s Q := by
    intro n
    induction n using Nat.strongRecOn with
    | ind n ih =>
      intro a1 a2 a3 s e hI
      exact m_6_45_39 hd (fun a1' a2' a3' s' q => ih _ (by rw [← e]; exact q.2) a1' a2' a3' s' rfl q.1) (h1 a1 a2 a3 s hI)
  exact key _ a1 a2 a3 s rfl h0
set_option maxRecDepth 20000 in
theorem m_6_0_39 {d d0 : Nat} (hd : d = d0 + 8)  {a1 : Int32} {s : zS} {Q : Option Value → zS → Prop}  (h : v_6_0 (fun j => Zt d (wd 39 j) j) 39  a1 s Q) : Zn d [] [(39, 99), (39, 98)] ([(84, 2, 39), (84, 3, 40), (84, 4, 43), (83, 1, 39), (83, 2, 40), (75, 0, 39), (75, 1, 57), (75, 2, 61)] : zW) ([(84, 2, 39), (84, 3, 40), (84, 4, 43), (83, 1, 39), (83, 2, 40), (75, 0, 39), (75, 1, 57), (75, 2, 61)] : zW) xL_1 4 (none) xE_6 (xE_6.drop 0) [.ref 84, .int a1, .null, .null, .null, .null] [] s Q := by
  unfold v_6_0 at h
  refine zn_ld rfl rfl rfl ?_
  refine zn_ld rfl rfl rfl ?_
  refine zn_putI (a := 84) rfl rfl rfl rfl ⟨Int32.le_toInt _, Int.le_of_lt_add_one (Int32.toInt_lt _)⟩ rfl rfl rfl ?_
  replace h := h _ rfl
  refine zn_ld rfl rfl rfl ?_
  refine zn_get (v := .ref 39) rfl (zv_C (a := 84) (n := 0) rfl rfl rfl) ?_
  refine zn_ld rfl rfl rfl ?_
  refine zn_c [.int 2, .int a1, .ref 39] (xo_push (.int 2)) rfl rfl ?_
  refine zn_zt [.ref 39, .int a1, .int 2] [] (c := []) rfl rfl rfl rfl rfl (Zt.imp (zp_40 hd (Or.inr rfl)) (fun vq sq hq => ?_))
  obtain ⟨rfl, hq⟩ := hq
  rw [hq]
  change Zn _ _ _ _ _ _ _ _ _ _ _ [.int (zg (zf s 84 6 a1) 65 (a1 * 10 + 2))] _ _
  refine zn_st [.ref 84, .int a1, .int (zg (zf s 84 6 a1) 65 (a1 * 10 + 2)), .null, .null, .null] rfl rfl rfl ?_
  refine zn_ld rfl rfl rfl ?_
  refine zn_get (v := .ref 75) rfl (zv_R (a := 84) rfl rfl) ?_
  refine zn_ld rfl rfl rfl ?_
  refine zn_ld rfl rfl rfl ?_
  refine zn_get (v := .ref 39) rfl (zv_C (a := 84) (n := 0) rfl rfl rfl) ?_
  refine zn_ld rfl rfl rfl ?_
  refine zn_c [.int 3, .int a1, .ref 39, .int (zg (zf s 84 6 a1) 65 (a1 * 10 + 2)), .ref 75] (xo_push (.int 3)) rfl rfl ?_
  refine zn_zt [.ref 39, .int a1, .int 3] [.int (zg (zf s 84 6 a1) 65 (a1 * 10 + 2)), .ref 75] (c := []) rfl rfl rfl rfl rfl (Zt.imp (zp_40 hd (Or.inr rfl)) (fun vq sq hq => ?_))
  obtain ⟨rfl, hq⟩ := hq
  rw [hq]
  change Zn _ _ _ _ _ _ _ _ _ _ _ [.int (zg (zf s 84 6 a1) 65 (a1 * 10 + 3)), .int (zg (zf s 84 6 a1) 65 (a1 * 10 + 2)), .ref 75] _ _
  refine zn_ld rfl rfl rfl ?_
  refine zn_get (v := .ref 39) rfl (zv_C (a := 84) (n := 0) rfl rfl rfl) ?_
  refine zn_ld rfl rfl rfl ?_
  refine zn_c [.int 5, .int a1, .ref 39, .int (zg (zf s 84 6 a1) 65 (a1 * 10 + 3)), .int (zg (zf s 84 6 a1) 65 (a1 * 10 + 2)), .ref 75] (xo_push (.int 5)) rfl rfl ?_
  refine zn_zt [.ref 39, .int a1, .int 5] [.int (zg (zf s 84 6 a1) 65 (a1 * 10 + 3)), .int (zg (zf s 84 6 a1) 65 (a1 * 10 + 2)), .ref 75] (c := []) rfl rfl rfl rfl rfl (Zt.imp (zp_40 hd (Or.inr rfl)) (fun vq sq hq => ?_))
  obtain ⟨rfl, hq⟩ := hq
  rw [hq]
  change Zn _ _ _ _ _ _ _ _ _ _ _ [.int (zg (zf s 84 6 a1) 65 (a1 * 10 + 5)), .int (zg (zf s 84 6 a1) 65 (a1 * 10 + 3)), .int (zg (zf s 84 6 a1) 65 (a1 * 10 + 2)), .ref 75] _ _
  refine zn_zt [.ref 75, .int (zg (zf s 84 6 a1) 65 (a1 * 10 + 2)), .int (zg (zf s 84 6 a1) 65 (a1 * 10 + 3)), .int (zg (zf s 84 6 a1) 65 (a1 * 10 + 5))] [] rfl rfl rfl rfl rfl (Zt.imp h (fun v5 s6 h => ?_))
  obtain ⟨rfl, h⟩ := h
  change Zn _ _ _ _ _ _ _ _ _ _ _ [] _ _
  refine zn_ld rfl rfl rfl ?_
  refine zn_c [.int 18, .ref 84] (xo_push (.int 18)) rfl rfl ?_
  refine zn_putI (a := 84) rfl rfl rfl rfl ⟨Int32.le_toInt _, Int.le_of_lt_add_one (Int32.toInt_lt _)⟩ rfl rfl rfl ?_
  replace h := h _ rfl
  refine zn_ld rfl rfl rfl ?_
  refine zn_get (v := .ref 75) rfl (zv_R (a := 84) rfl rfl) ?_
  refine zn_c [.int 19, .ref 75] (xo_push (.int 19)) rfl rfl ?_
  refine zn_ld rfl rfl rfl ?_
  refine zn_get (v := .ref 39) rfl (zv_C (a := 84) (n := 0) rfl rfl rfl) ?_
  refine zn_get (v := .ref 61) rfl (zv_R (a := 39) rfl rfl) ?_
  refine zn_ld rfl rfl rfl ?_
  refine zn_row (zg (zf s 84 6 a1) 65 (a1 * 10 + 2)) [.int 19, .ref 75] (a := 61) hd rfl rfl rfl rfl ?_
  change Zn _ _ _ _ _ _ _ _ _ _ _ [.int (zg (zf s6 84 7 18) 61 (zg (zf s 84 6 a1) 65 (a1 * 10 + 2))), .int 19, .ref 75] _ _
  replace h := h _ (i_add (x := 19) (y := zg (zf s6 84 7 18) 61 (zg (zf s 84 6 a1) 65 (a1 * 10 + 2))) (show (19 : Int32).toInt = 19 by decide) rfl)
  refine zn_c [.int (19 + (zg (zf s6 84 7 18) 61 (zg (zf s 84 6 a1) 65 (a1 * 10 + 2)))), .ref 75] xo_iadd rfl rfl ?_
  refine zn_putI (a := 75) rfl rfl rfl rfl ⟨Int32.le_toInt _, Int.le_of_lt_add_one (Int32.toInt_lt _)⟩ rfl rfl rfl ?_
  replace h := h _ rfl
  refine zn_ld rfl rfl rfl ?_
  refine zn_get (v := .ref 39) rfl (zv_C (a := 84) (n := 0) rfl rfl rfl) ?_
  refine zn_get (v := .ref 57) rfl (zv_R (a := 39) rfl rfl) ?_
  refine zn_ld rfl rfl rfl ?_
  refine zn_get (v := .int ((zf (zf s6 84 7 18) 75 3 (19 + (zg (zf s6 84 7 18) 61 (zg (zf s 84 6 a1) 65 (a1 * 10 + 2))))).1 84 7)) rfl (zv_I (a := 84) rfl rfl) ?_
  refine zn_ld rfl rfl rfl ?_
  obtain ⟨hx18, h⟩ := h
  refine zn_set ((zf (zf s6 84 7 18) 75 3 (19 + (zg (zf s6 84 7 18) 61 (zg (zf s 84 6 a1) 65 (a1 * 10 + 2))))).1 84 7) (zg (zf s 84 6 a1) 65 (a1 * 10 + 2)) [] (a := 57) hd rfl rfl rfl rfl ⟨Int32.le_toInt _, Int.le_of_lt_add_one (Int32.toInt_lt _)⟩ rfl rfl ?_ (hx := Or.inr hx18)
  replace h := h _ rfl
  refine zn_c [.int 0] (xo_push (.int 0)) rfl rfl ?_
  refine zn_st [.ref 84, .int a1, .int (zg (zf s 84 6 a1) 65 (a1 * 10 + 2)), .int 0, .null, .null] rfl rfl rfl ?_
  exact ml_6_45_39 hd  h
theorem zq_6_39 {d : Nat} {a1 : Int32} {s : zS} {Q : Option Value → zS → Prop} (h : v_6_0 (fun j => Zt (d + 8) (wd 39 j) j) 39 a1 s Q) : Zt (d + 9) ([(84, 2, 39), (84, 3, 40), (84, 4, 43), (83, 1, 39), (83, 2, 40), (75, 0, 39), (75, 1, 57), (75, 2, 61)] : zW) 6 [.ref 84, .int a1] s Q := zt_of (E := xE_6) (L := xL_1) (ml := 4) (ret := none) rfl rfl rfl (m_6_0_39 rfl h)
theorem zc_6 {d P : Nat} (hP : P = 3 ∨ P = 39) {a1 : Int32} {s : zS} {Q : Option Value → zS → Prop} (h : v_6_0 (fun j => Zt (d + 8) (wd P j) j) P a1 s Q) : Zt (d + 9) (wd P 6) 6 [.ref 84, .int a1] s Q := by
  rcases hP with rfl | rfl
  · exact zq_6_3 h
  · exact zq_6_39 h
/-! FeatherBench$Bodies.value -/
def v_7_63 (T : Nat → List Value → zS → (Option Value → zS → Prop) → Prop) (P : Nat)  (a1 : Int32) (a2 : Int32) (a3 : Int32) (a4 : Int32) (a5 : Int32) (s : zS) (Q : Option Value → zS → Prop) : Prop :=
  Q (some (.int a4)) s
def v_7_38 (T : Nat → List Value → zS → (Option Value → zS → Prop) → Prop) (P : Nat) (R38 : Int32 → Int32 → Int32 → Int32 → Int32 → zS → Prop) (a1 : Int32) (a2 : Int32) (a3 : Int32) (a4 : Int32) (a5 : Int32) (s : zS) (Q : Option Value → zS → Prop) : Prop :=
  (20 ≤ a5.toInt → v_7_63 T P  a1 a2 a3 a4 a5 s Q) ∧ (¬ (20 ≤ a5.toInt) → (¬ ((s.1 P 14).toInt = 0) → v_7_63 T P  a1 a2 a3 a4 a5 s Q) ∧ ((s.1 P 14).toInt = 0 → (¬ ((zg s (P + 4) (s.1 84 5)).toInt = 46) → v_7_63 T P  a1 a2 a3 a4 a5 s Q) ∧ ((zg s (P + 4) (s.1 84 5)).toInt = 46 → T 8 [.ref 84, .int a4, .int a1] s (fun v1 s2 => ∃ x3, v1 = some (.int x3) ∧ (T 91 [.ref 75, .int x3, .int a2] s2 (fun v4 s5 => ∃ x6, v4 = some (.int x6) ∧ (∀ x7 : Int32, (-2147483648 ≤ a5.toInt + 1 ∧ a5.toInt + 1 ≤ 2147483647 → x7.toInt = a5.toInt + 1) → R38 a1 a2 a3 x6 x7 s5)))))))
def vl_7_38 (T : Nat → List Value → zS → (Option Value → zS → Prop) → Prop) (P : Nat)  (a1 : Int32) (a2 : Int32) (a3 : Int32) (a4 : Int32) (a5 : Int32) (s : zS) (Q : Option Value → zS → Prop) : Prop :=
  ∃ (I : Int32 → Int32 → Int32 → Int32 → Int32 → zS → Prop) (μ : Int32 → Int32 → Int32 → Int32 → Int32 → zS → Nat), I a1 a2 a3 a4 a5 s ∧ ∀ (a1 : Int32) (a2 : Int32) (a3 : Int32) (a4 : Int32) (a5 : Int32) (s : zS), I a1 a2 a3 a4 a5 s → v_7_38 T P (fun a1' a2' a3' a4' a5' s' => I a1' a2' a3' a4' a5' s' ∧ μ a1' a2' a3' a4' a5' s' < μ a1 a2 a3 a4 a5 s) a1 a2 a3 a4 a5 s Q
def v_7_35 (T : Nat → List Value → zS → (Option Value → zS → Prop) → Prop) (P : Nat)  (a1 : Int32) (a2 : Int32) (a3 : Int32) (t0 : Int32) (s : zS) (Q : Option Value → zS → Prop) : Prop :=
  vl_7_38 T P  a1 a2 a3 t0 0 s Q
def v_7_29 (T : Nat → List Value → zS → (Option Value → zS → Prop) → Prop) (P : Nat)  (a1 : Int32) (a2 : Int32) (a3 : Int32) (s : zS) (Q : Option Value → zS → Prop) : Prop :=
  T 10 [.ref 84, .int a1] s (fun v1 s2 => ∃ x3, v1 = some (.int x3) ∧ (v_7_35 T P  a1 a2 a3 x3 s2 Q))
def v_7_0 (T : Nat → List Value → zS → (Option Value → zS → Prop) → Prop) (P : Nat)  (a1 : Int32) (s : zS) (Q : Option Value → zS → Prop) : Prop :=
  (a1.toInt ≤ 10 → ∀ x1 : Int32, (-2147483648 ≤ (s.1 84 5).toInt + 1 ∧ (s.1 84 5).toInt + 1 ≤ 2147483647 → x1.toInt = (s.1 84 5).toInt + 1) → ((zg s (P + 4) x1).toInt = 123 → v_7_29 T P  a1 (s.1 75 3) (zg s (P + 4) x1) s Q) ∧ (¬ ((zg s (P + 4) x1).toInt = 123) → (¬ ((zg s (P + 4) x1).toInt = 91) → T 9 [.ref 84] s (fun v2 s3 => ∃ x4, v2 = some (.int x4) ∧ (v_7_35 T P  a1 (s.1 75 3) (zg s (P + 4) x1) x4 s3 Q))) ∧ ((zg s (P + 4) x1).toInt = 91 → v_7_29 T P  a1 (s.1 75 3) (zg s (P + 4) x1) s Q))) ∧ (¬ (a1.toInt ≤ 10) → T 38 [.ref P, .int 5, .int (s.1 84 5)] s (fun v5 s6 => v5 = none ∧ (Q (some (.int (s.1 75 3))) s6)))
set_option maxRecDepth 20000 in
theorem m_7_63_3 {d d0 : Nat} (hd : d = d0 + 8)  {a1 : Int32} {a2 : Int32} {a3 : Int32} {a4 : Int32} {a5 : Int32} {s : zS} {Q : Option Value → zS → Prop}  (h : v_7_63 (fun j => Zt d (wd 3 j) j) 3  a1 a2 a3 a4 a5 s Q) : Zn d [] [(3, 99), (3, 98)] ([(84, 2, 3), (84, 3, 4), (84, 4, 7), (83, 1, 3), (83, 2, 4), (75, 0, 3), (75, 1, 21), (75, 2, 25)] : zW) ([(84, 2, 3), (84, 3, 4), (84, 4, 7), (83, 1, 3), (83, 2, 4), (75, 0, 3), (75, 1, 21), (75, 2, 25)] : zW) xL_1 6 (some .int) xE_7 (xE_7.drop 63) [.ref 84, .int a1, .int a2, .int a3, .int a4, .int a5, .null, .null] [] s Q := by
  unfold v_7_63 at h
  refine zn_ld rfl rfl rfl ?_
  exact zn_retI rfl h
set_option maxRecDepth 20000 in
theorem m_7_38_3 {d d0 : Nat} (hd : d = d0 + 8) {R38 : Int32 → Int32 → Int32 → Int32 → Int32 → zS → Prop} {a1 : Int32} {a2 : Int32} {a3 : Int32} {a4 : Int32} {a5 : Int32} {s : zS} {Q : Option Value → zS → Prop} (r38 : ∀ a1 a2 a3 a4 a5 s, R38 a1 a2 a3 a4 a5 s → Zn d [] [(3, 99), (3, 98)] ([(84, 2, 3), (84, 3, 4), (84, 4, 7), (83, 1, 3), (83, 2, 4), (75, 0, 3), (75, 1, 21), (75, 2, 25)] : zW) ([(84, 2, 3), (84, 3, 4), (84, 4, 7), (83, 1, 3), (83, 2, 4), (75, 0, 3), (75, 1, 21), (75, 2, 25)] : zW) xL_1 6 (some .int) xE_7 (xE_7.drop 38) [.ref 84, .int a1, .int a2, .int a3, .int a4, .int a5, .null, .null] [] s Q) (h : v_7_38 (fun j => Zt d (wd 3 j) j) 3 R38 a1 a2 a3 a4 a5 s Q) : Zn d [] [(3, 99), (3, 98)] ([(84, 2, 3), (84, 3, 4), (84, 4, 7), (83, 1, 3), (83, 2, 4), (75, 0, 3), (75, 1, 21), (75, 2, 25)] : zW) ([(84, 2, 3), (84, 3, 4), (84, 4, 7), (83, 1, 3), (83, 2, 4), (75, 0, 3), (75, 1, 21), (75, 2, 25)] : zW) xL_1 6 (some .int) xE_7 (xE_7.drop 38) [.ref 84, .int a1, .int a2, .int a3, .int a4, .int a5, .null, .null] [] s Q := by
  unfold v_7_38 at h
  refine zn_ld rfl rfl rfl ?_
  refine zn_c [.int 20, .int a5] (xo_push (.int 20)) rfl rfl ?_
  refine zn_brP rfl rfl ⟨fun hcn => ?_, fun hcn => ?_⟩
  · replace h := h.1 ((i_le (x := 20) (y := a5) (show (20 : Int32).toInt = 20 by decide) rfl).mp hcn)
    exact m_7_63_3 hd  h
  · replace h := h.2 (fun q => hcn ((i_le (x := 20) (y := a5) (show (20 : Int32).toInt = 20 by decide) rfl).mpr q))
    refine zn_ld rfl rfl rfl ?_
    refine zn_get (v := .ref 3) rfl (zv_C (a := 84) (n := 0) rfl rfl rfl) ?_
    refine zn_get (v := .int (s.1 3 14)) rfl (zv_I (a := 3) rfl rfl) ?_
    refine zn_brN rfl rfl ⟨fun hcn => ?_, fun hcn => ?_⟩
    · replace h := h.1 (fun q => hcn ((i_eq (x := s.1 3 14) (y := 0) rfl (show (0 : Int32).toInt = 0 by decide)).mpr q))
      exact m_7_63_3 hd  h
    · replace h := h.2 ((i_eq (x := s.1 3 14) (y := 0) rfl (show (0 : Int32).toInt = 0 by decide)).mp hcn)
      refine zn_ld rfl rfl rfl ?_
      refine zn_get (v := .ref 7) rfl (zv_C (a := 84) (n := 2) rfl rfl rfl) ?_
      refine zn_ld rfl rfl rfl ?_
      refine zn_get (v := .int (s.1 84 5)) rfl (zv_I (a := 84) rfl rfl) ?_
      refine zn_row (s.1 84 5) [] (a := 7) hd rfl rfl rfl rfl ?_
      change Zn _ _ _ _ _ _ _ _ _ _ _ [.int (zg s 7 (s.1 84 5))] _ _
      refine zn_c [.int 46, .int (zg s 7 (s.1 84 5))] (xo_push (.int 46)) rfl rfl ?_
      refine zn_brN rfl rfl ⟨fun hcn => ?_, fun hcn => ?_⟩
      · replace h := h.1 (fun q => hcn ((i_eq (x := zg s 7 (s.1 84 5)) (y := 46) rfl (show (46 : Int32).toInt = 46 by decide)).mpr q))
        exact m_7_63_3 hd  h
      · replace h := h.2 ((i_eq (x := zg s 7 (s.1 84 5)) (y := 46) rfl (show (46 : Int32).toInt = 46 by decide)).mp hcn)
        refine zn_ld rfl rfl rfl ?_
        refine zn_get (v := .ref 75) rfl (zv_R (a := 84) rfl rfl) ?_
        refine zn_ld rfl rfl rfl ?_
        refine zn_ld rfl rfl rfl ?_
        refine zn_ld rfl rfl rfl ?_
        refine zn_zt [.ref 84, .int a4, .int a1] [.ref 75] rfl rfl rfl rfl rfl (Zt.imp h (fun v1 s2 h => ?_))
        obtain ⟨x3, rfl, h⟩ := h
        change Zn _ _ _ _ _ _ _ _ _ _ _ [.int x3, .ref 75] _ _
        refine zn_ld rfl rfl rfl ?_
        refine zn_zt [.ref 75, .int x3, .int a2] [] rfl rfl rfl rfl rfl (Zt.imp h (fun v4 s5 h => ?_))
        obtain ⟨x6, rfl, h⟩ := h
        change Zn _ _ _ _ _ _ _ _ _ _ _ [.int x6] _ _
        refine zn_st [.ref 84, .int a1, .int a2, .int a3, .int x6, .int a5, .null, .null] rfl rfl rfl ?_
        replace h := h _ (i_add (x := a5) (y := 1) rfl (show (1 : Int32).toInt = 1 by decide))
        refine zn_inc [.ref 84, .int a1, .int a2, .int a3, .int x6, .int (a5 + 1), .null, .null] rfl rfl rfl rfl ?_
        refine zn_go rfl ?_
        exact r38 a1 a2 a3 x6 (a5 + 1) s5 h
theorem ml_7_38_3 {d d0 : Nat} (hd : d = d0 + 8)  {a1 : Int32} {a2 : Int32} {a3 : Int32} {a4 : Int32} {a5 : Int32} {s : zS} {Q : Option Value → zS → Prop}  (h : vl_7_38 (fun j => Zt d (wd 3 j) j) 3  a1 a2 a3 a4 a5 s Q) : Zn d [] [(3, 99), (3, 98)] ([(84, 2, 3), (84, 3, 4), (84, 4, 7), (83, 1, 3), (83, 2, 4), (75, 0, 3), (75, 1, 21), (75, 2, 25)] : zW) ([(84, 2, 3), (84, 3, 4), (84, 4, 7), (83, 1, 3), (83, 2, 4), (75, 0, 3), (75, 1, 21), (75, 2, 25)] : zW) xL_1 6 (some .int) xE_7 (xE_7.drop 38) [.ref 84, .int a1, .int a2, .int a3, .int a4, .int a5, .null, .null] [] s Q := by
  obtain ⟨I, μ, h0, h1⟩ := h
  have key : ∀ (n : Nat) (a1 : Int32) (a2 : Int32) (a3 : Int32) (a4 : Int32) (a5 : Int32) (s : zS), μ a1 a2 a3 a4 a5 s = n → I a1 a2 a3 a4 a5 s → Zn d [] [(3, 99), (3, 98)] ([(84, 2, 3), (84, 3, 4), (84, 4, 7), (83, 1, 3), (83, 2, 4), (75, 0, 3), (75, 1, 21), (75, 2, 25)] : zW) ([(84, 2, 3), (84, 3, 4), (84, 4, 7), (83, 1, 3), (83, 2, 4), (75, 0, 3), (75, 1, 21), (75, 2, 25)] : zW) xL_1 6 (some .int) xE_7 (xE_7.drop 38) [.ref 84, .int a1, .int a2, .int a3, .int a4, .int a5, .null, .null] [] s Q := by
    intro n
    induction n using Nat.strongRecOn with
    | ind n ih =>
      intro a1 a2 a3 a4 a5 s e hI
      exact m_7_38_3 hd (fun a1' a2' a3' a4' a5' s' q => ih _ (by rw [← e]; exact q.2) a1' a2' a3' a4' a5' s' rfl q.1) (h1 a1 a2 a3 a4 a5 s hI)
  exact key _ a1 a2 a3 a4 a5 s rfl h0
set_option maxRecDepth 20000 in
theorem m_7_35_3 {d d0 : Nat} (hd : d = d0 + 8)  {a1 : Int32} {a2 : Int32} {a3 : Int32} {t0 : Int32} {s : zS} {Q : Option Value → zS → Prop}  (h : v_7_35 (fun j => Zt d (wd 3 j) j) 3  a1 a2 a3 t0 s Q) : Zn d [] [(3, 99), (3, 98)] ([(84, 2, 3), (84, 3, 4), (84, 4, 7), (83, 1, 3), (83, 2, 4), (75, 0, 3), (75, 1, 21), (75, 2, 25)] : zW) ([(84, 2, 3), (84, 3, 4), (84, 4, 7), (83, 1, 3), (83, 2, 4), (75, 0, 3), (75, 1, 21), (75, 2, 25)] : zW) xL_1 6 (some .int) xE_7 (xE_7.drop 35) [.ref 84, .int a1, .int a2, .int a3, .null, .null, .null, .null] [.int t0] s Q := by
  unfold v_7_35 at h
  refine zn_st [.ref 84, .int a1, .int a2, .int a3, .int t0, .null, .null, .null] rfl rfl rfl ?_
  refine zn_c [.int 0] (xo_push (.int 0)) rfl rfl ?_
  refine zn_st [.ref 84, .int a1, .int a2, .int a3, .int t0, .int 0, .null, .null] rfl rfl rfl ?_
  exact ml_7_38_3 hd  h
set_option maxRecDepth 20000 in
theorem m_7_29_3 {d d0 : Nat} (hd : d = d0 + 8)  {a1 : Int32} {a2 : Int32} {a3 : Int32} {s : zS} {Q : Option Value → zS → Prop}  (h : v_7_29 (fun j => Zt d (wd 3 j) j) 3  a1 a2 a3 s Q) : Zn d [] [(3, 99), (3, 98)] ([(84, 2, 3), (84, 3, 4), (84, 4, 7), (83, 1, 3), (83, 2, 4), (75, 0, 3), (75, 1, 21), (75, 2, 25)] : zW) ([(84, 2, 3), (84, 3, 4), (84, 4, 7), (83, 1, 3), (83, 2, 4), (75, 0, 3), (75, 1, 21), (75, 2, 25)] : zW) xL_1 6 (some .int) xE_7 (xE_7.drop 29) [.ref 84, .int a1, .int a2, .int a3, .null, .null, .null, .null] [] s Q := by
  unfold v_7_29 at h
  refine zn_ld rfl rfl rfl ?_
  refine zn_ld rfl rfl rfl ?_
  refine zn_zt [.ref 84, .int a1] [] rfl rfl rfl rfl rfl (Zt.imp h (fun v1 s2 h => ?_))
  obtain ⟨x3, rfl, h⟩ := h
  change Zn _ _ _ _ _ _ _ _ _ _ _ [.int x3] _ _
  refine zn_go rfl ?_
  exact m_7_35_3 hd  h
set_option maxRecDepth 20000 in
theorem m_7_0_3 {d d0 : Nat} (hd : d = d0 + 8)  {a1 : Int32} {s : zS} {Q : Option Value → zS → Prop}  (h : v_7_0 (fun j => Zt d (wd 3 j) j) 3  a1 s Q) : Zn d [] [(3, 99), (3, 98)] ([(84, 2, 3), (84, 3, 4), (84, 4, 7), (83, 1, 3), (83, 2, 4), (75, 0, 3), (75, 1, 21), (75, 2, 25)] : zW) ([(84, 2, 3), (84, 3, 4), (84, 4, 7), (83, 1, 3), (83, 2, 4), (75, 0, 3), (75, 1, 21), (75, 2, 25)] : zW) xL_1 6 (some .int) xE_7 (xE_7.drop 0) [.ref 84, .int a1, .null, .null, .null, .null, .null, .null] [] s Q := by
  unfold v_7_0 at h
  refine zn_ld rfl rfl rfl ?_
  refine zn_get (v := .ref 75) rfl (zv_R (a := 84) rfl rfl) ?_
  refine zn_get (v := .int (s.1 75 3)) rfl (zv_I (a := 75) rfl rfl) ?_
  refine zn_st [.ref 84, .int a1, .int (s.1 75 3), .null, .null, .null, .null, .null] rfl rfl rfl ?_
  refine zn_ld rfl rfl rfl ?_
  refine zn_c [.int 10, .int a1] (xo_push (.int 10)) rfl rfl ?_
  refine zn_brP rfl rfl ⟨fun hcn => ?_, fun hcn => ?_⟩
  · replace h := h.1 ((i_le (x := a1) (y := 10) rfl (show (10 : Int32).toInt = 10 by decide)).mp hcn)
    refine zn_ld rfl rfl rfl ?_
    refine zn_get (v := .ref 7) rfl (zv_C (a := 84) (n := 2) rfl rfl rfl) ?_
    refine zn_ld rfl rfl rfl ?_
    refine zn_get (v := .int (s.1 84 5)) rfl (zv_I (a := 84) rfl rfl) ?_
    refine zn_c [.int 1, .int (s.1 84 5), .ref 7] (xo_push (.int 1)) rfl rfl ?_
    replace h := h _ (i_add (x := s.1 84 5) (y := 1) rfl (show (1 : Int32).toInt = 1 by decide))
    refine zn_c [.int ((s.1 84 5) + 1), .ref 7] xo_iadd rfl rfl ?_
    refine zn_row ((s.1 84 5) + 1) [] (a := 7) hd rfl rfl rfl rfl ?_
    change Zn _ _ _ _ _ _ _ _ _ _ _ [.int (zg s 7 ((s.1 84 5) + 1))] _ _
    refine zn_st [.ref 84, .int a1, .int (s.1 75 3), .int (zg s 7 ((s.1 84 5) + 1)), .null, .null, .null, .null] rfl rfl rfl ?_
    refine zn_ld rfl rfl rfl ?_
    refine zn_c [.int 123, .int (zg s 7 ((s.1 84 5) + 1))] (xo_push (.int 123)) rfl rfl ?_
    refine zn_brP rfl rfl ⟨fun hcn => ?_, fun hcn => ?_⟩
    · replace h := h.1 ((i_eq (x := zg s 7 ((s.1 84 5) + 1)) (y := 123) rfl (show (123 : Int32).toInt = 123 by decide)).mp hcn)
      exact m_7_29_3 hd  h
    · replace h := h.2 (fun q => hcn ((i_eq (x := zg s 7 ((s.1 84 5) + 1)) (y := 123) rfl (show (123 : Int32).toInt = 123 by decide)).mpr q))
      refine zn_ld rfl rfl rfl ?_
      refine zn_c [.int 91, .int (zg s 7 ((s.1 84 5) + 1))] (xo_push (.int 91)) rfl rfl ?_
      refine zn_brN rfl rfl ⟨fun hcn => ?_, fun hcn => ?_⟩
      · replace h := h.1 (fun q => hcn ((i_eq (x := zg s 7 ((s.1 84 5) + 1)) (y := 91) rfl (show (91 : Int32).toInt = 91 by decide)).mpr q))
        refine zn_ld rfl rfl rfl ?_
        refine zn_zt [.ref 84] [] rfl rfl rfl rfl rfl (Zt.imp h (fun v2 s3 h => ?_))
        obtain ⟨x4, rfl, h⟩ := h
        change Zn _ _ _ _ _ _ _ _ _ _ _ [.int x4] _ _
        exact m_7_35_3 hd  h
      · replace h := h.2 ((i_eq (x := zg s 7 ((s.1 84 5) + 1)) (y := 91) rfl (show (91 : Int32).toInt = 91 by decide)).mp hcn)
        exact m_7_29_3 hd  h
  · replace h := h.2 (fun q => hcn ((i_le (x := a1) (y := 10) rfl (show (10 : Int32).toInt = 10 by decide)).mpr q))
    refine zn_ld rfl rfl rfl ?_
    refine zn_get (v := .ref 3) rfl (zv_C (a := 84) (n := 0) rfl rfl rfl) ?_
    refine zn_c [.int 5, .ref 3] (xo_push (.int 5)) rfl rfl ?_
    refine zn_ld rfl rfl rfl ?_
    refine zn_get (v := .int (s.1 84 5)) rfl (zv_I (a := 84) rfl rfl) ?_
    refine zn_zt [.ref 3, .int 5, .int (s.1 84 5)] [] rfl rfl rfl rfl rfl (Zt.imp h (fun v5 s6 h => ?_))
    obtain ⟨rfl, h⟩ := h
    change Zn _ _ _ _ _ _ _ _ _ _ _ [] _ _
    refine zn_ld rfl rfl rfl ?_
    exact zn_retI rfl h
theorem zq_7_3 {d : Nat} {a1 : Int32} {s : zS} {Q : Option Value → zS → Prop} (h : v_7_0 (fun j => Zt (d + 8) (wd 3 j) j) 3 a1 s Q) : Zt (d + 9) ([(84, 2, 3), (84, 3, 4), (84, 4, 7), (83, 1, 3), (83, 2, 4), (75, 0, 3), (75, 1, 21), (75, 2, 25)] : zW) 7 [.ref 84, .int a1] s Q := zt_of (E := xE_7) (L := xL_1) (ml := 6) (ret := some .int) rfl rfl rfl (m_7_0_3 rfl h)
set_option maxRecDepth 20000 in
theorem m_7_63_39 {d d0 : Nat} (hd : d = d0 + 8)  {a1 : Int32} {a2 : Int32} {a3 : Int32} {a4 : Int32} {a5 : Int32} {s : zS} {Q : Option Value → zS → Prop}  (h : v_7_63 (fun j => Zt d (wd 39 j) j) 39  a1 a2 a3 a4 a5 s Q) : Zn d [] [(39, 99), (39, 98)] ([(84, 2, 39), (84, 3, 40), (84, 4, 43), (83, 1, 39), (83, 2, 40), (75, 0, 39), (75, 1, 57), (75, 2, 61)] : zW) ([(84, 2, 39), (84, 3, 40), (84, 4, 43), (83, 1, 39), (83, 2, 40), (75, 0, 39), (75, 1, 57), (75, 2, 61)] : zW) xL_1 6 (some .int) xE_7 (xE_7.drop 63) [.ref 84, .int a1, .int a2, .int a3, .int a4, .int a5, .null, .null] [] s Q := by
  unfold v_7_63 at h
  refine zn_ld rfl rfl rfl ?_
  exact zn_retI rfl h
set_option maxRecDepth 20000 in
theorem m_7_38_39 {d d0 : Nat} (hd : d = d0 + 8) {R38 : Int32 → Int32 → Int32 → Int32 → Int32 → zS → Prop} {a1 : Int32} {a2 : Int32} {a3 : Int32} {a4 : Int32} {a5 : Int32} {s : zS} {Q : Option Value → zS → Prop} (r38 : ∀ a1 a2 a3 a4 a5 s, R38 a1 a2 a3 a4 a5 s → Zn d [] [(39, 99), (39, 98)] ([(84, 2, 39), (84, 3, 40), (84, 4, 43), (83, 1, 39), (83, 2, 40), (75, 0, 39), (75, 1, 57), (75, 2, 61)] : zW) ([(84, 2, 39), (84, 3, 40), (84, 4, 43), (83, 1, 39), (83, 2, 40), (75, 0, 39), (75, 1, 57), (75, 2, 61)] : zW) xL_1 6 (some .int) xE_7 (xE_7.drop 38) [.ref 84, .int a1, .int a2, .int a3, .int a4, .int a5, .null, .null] [] s Q) (h : v_7_38 (fun j => Zt d (wd 39 j) j) 39 R38 a1 a2 a3 a4 a5 s Q) : Zn d [] [(39, 99), (39, 98)] ([(84, 2, 39), (84, 3, 40), (84, 4, 43), (83, 1, 39), (83, 2, 40), (75, 0, 39), (75, 1, 57), (75, 2, 61)] : zW) ([(84, 2, 39), (84, 3, 40), (84, 4, 43), (83, 1, 39), (83, 2, 40), (75, 0, 39), (75, 1, 57), (75, 2, 61)] : zW) xL_1 6 (some .int) xE_7 (xE_7.drop 38) [.ref 84, .int a1, .int a2, .int a3, .int a4, .int a5, .null, .null] [] s Q := by
  unfold v_7_38 at h
  refine zn_ld rfl rfl rfl ?_
  refine zn_c [.int 20, .int a5] (xo_push (.int 20)) rfl rfl ?_
  refine zn_brP rfl rfl ⟨fun hcn => ?_, fun hcn => ?_⟩
  · replace h := h.1 ((i_le (x := 20) (y := a5) (show (20 : Int32).toInt = 20 by decide) rfl).mp hcn)
    exact m_7_63_39 hd  h
  · replace h := h.2 (fun q => hcn ((i_le (x := 20) (y := a5) (show (20 : Int32).toInt = 20 by decide) rfl).mpr q))
    refine zn_ld rfl rfl rfl ?_
    refine zn_get (v := .ref 39) rfl (zv_C (a := 84) (n := 0) rfl rfl rfl) ?_
    refine zn_get (v := .int (s.1 39 14)) rfl (zv_I (a := 39) rfl rfl) ?_
    refine zn_brN rfl rfl ⟨fun hcn => ?_, fun hcn => ?_⟩
    · replace h := h.1 (fun q => hcn ((i_eq (x := s.1 39 14) (y := 0) rfl (show (0 : Int32).toInt = 0 by decide)).mpr q))
      exact m_7_63_39 hd  h
    · replace h := h.2 ((i_eq (x := s.1 39 14) (y := 0) rfl (show (0 : Int32).toInt = 0 by decide)).mp hcn)
      refine zn_ld rfl rfl rfl ?_
      refine zn_get (v := .ref 43) rfl (zv_C (a := 84) (n := 2) rfl rfl rfl) ?_
      refine zn_ld rfl rfl rfl ?_
      refine zn_get (v := .int (s.1 84 5)) rfl (zv_I (a := 84) rfl rfl) ?_
      refine zn_row (s.1 84 5) [] (a := 43) hd rfl rfl rfl rfl ?_
      change Zn _ _ _ _ _ _ _ _ _ _ _ [.int (zg s 43 (s.1 84 5))] _ _
      refine zn_c [.int 46, .int (zg s 43 (s.1 84 5))] (xo_push (.int 46)) rfl rfl ?_
      refine zn_brN rfl rfl ⟨fun hcn => ?_, fun hcn => ?_⟩
      · replace h := h.1 (fun q => hcn ((i_eq (x := zg s 43 (s.1 84 5)) (y := 46) rfl (show (46 : Int32).toInt = 46 by decide)).mpr q))
        exact m_7_63_39 hd  h
      · replace h := h.2 ((i_eq (x := zg s 43 (s.1 84 5)) (y := 46) rfl (show (46 : Int32).toInt = 46 by decide)).mp hcn)
        refine zn_ld rfl rfl rfl ?_
        refine zn_get (v := .ref 75) rfl (zv_R (a := 84) rfl rfl) ?_
        refine zn_ld rfl rfl rfl ?_
        refine zn_ld rfl rfl rfl ?_
        refine zn_ld rfl rfl rfl ?_
        refine zn_zt [.ref 84, .int a4, .int a1] [.ref 75] rfl rfl rfl rfl rfl (Zt.imp h (fun v1 s2 h => ?_))
        obtain ⟨x3, rfl, h⟩ := h
        change Zn _ _ _ _ _ _ _ _ _ _ _ [.int x3, .ref 75] _ _
        refine zn_ld rfl rfl rfl ?_
        refine zn_zt [.ref 75, .int x3, .int a2] [] rfl rfl rfl rfl rfl (Zt.imp h (fun v4 s5 h => ?_))
        obtain ⟨x6, rfl, h⟩ := h
        change Zn _ _ _ _ _ _ _ _ _ _ _ [.int x6] _ _
        refine zn_st [.ref 84, .int a1, .int a2, .int a3, .int x6, .int a5, .null, .null] rfl rfl rfl ?_
        replace h := h _ (i_add (x := a5) (y := 1) rfl (show (1 : Int32).toInt = 1 by decide))
        refine zn_inc [.ref 84, .int a1, .int a2, .int a3, .int x6, .int (a5 + 1), .null, .null] rfl rfl rfl rfl ?_
        refine zn_go rfl ?_
        exact r38 a1 a2 a3 x6 (a5 + 1) s5 h
theorem ml_7_38_39 {d d0 : Nat} (hd : d = d0 + 8)  {a1 : Int32} {a2 : Int32} {a3 : Int32} {a4 : Int32} {a5 : Int32} {s : zS} {Q : Option Value → zS → Prop}  (h : vl_7_38 (fun j => Zt d (wd 39 j) j) 39  a1 a2 a3 a4 a5 s Q) : Zn d [] [(39, 99), (39, 98)] ([(84, 2, 39), (84, 3, 40), (84, 4, 43), (83, 1, 39), (83, 2, 40), (75, 0, 39), (75, 1, 57), (75, 2, 61)] : zW) ([(84, 2, 39), (84, 3, 40), (84, 4, 43), (83, 1, 39), (83, 2, 40), (75, 0, 39), (75, 1, 57), (75, 2, 61)] : zW) xL_1 6 (some .int) xE_7 (xE_7.drop 38) [.ref 84, .int a1, .int a2, .int a3, .int a4, .int a5, .null, .null] [] s Q := by
  obtain ⟨I, μ, h0, h1⟩ := h
  have key : ∀ (n : Nat) (a1 : Int32) (a2 : Int32) (a3 : Int32) (a4 : Int32) (a5 : Int32) (s : zS), μ a1 a2 a3 a4 a5 s = n → I a1 a2 a3 a4 a5 s → Zn d [] [(39, 99), (39, 98)] ([(84, 2, 39), (84, 3, 40), (84, 4, 43), (83, 1, 39), (83, 2, 40), (75, 0, 39), (75, 1, 57), (75, 2, 61)] : zW) ([(84, 2, 39), (84, 3, 40), (84, 4, 43), (83, 1, 39), (83, 2, 40), (75, 0, 39), (75, 1, 57), (75, 2, 61)] : zW) xL_1 6 (some .int) xE_7 (xE_7.drop 38) [.ref 84, .int a1, .int a2, .int a3, .int a4, .int a5, .null, .null] [] s Q := by
    intro n
    induction n using Nat.strongRecOn with
    | ind n ih =>
      intro a1 a2 a3 a4 a5 s e hI
      exact m_7_38_39 hd (fun a1' a2' a3' a4' a5' s' q => ih _ (by rw [← e]; exact q.2) a1' a2' a3' a4' a5' s' rfl q.1) (h1 a1 a2 a3 a4 a5 s hI)
  exact key _ a1 a2 a3 a4 a5 s rfl h0
set_option maxRecDepth 20000 in
theorem m_7_35_39 {d d0 : Nat} (hd : d = d0 + 8)  {a1 : Int32} {a2 : Int32} {a3 : Int32} {t0 : Int32} {s : zS} {Q : Option Value → zS → Prop}  (h : v_7_35 (fun j => Zt d (wd 39 j) j) 39  a1 a2 a3 t0 s Q) : Zn d [] [(39, 99), (39, 98)] ([(84, 2, 39), (84, 3, 40), (84, 4, 43), (83, 1, 39), (83, 2, 40), (75, 0, 39), (75, 1, 57), (75, 2, 61)] : zW) ([(84, 2, 39), (84, 3, 40), (84, 4, 43), (83, 1, 39), (83, 2, 40), (75, 0, 39), (75, 1, 57), (75, 2, 61)] : zW) xL_1 6 (some .int) xE_7 (xE_7.drop 35) [.ref 84, .int a1, .int a2, .int a3, .null, .null, .null, .null] [.int t0] s Q := by
  unfold v_7_35 at h
  refine zn_st [.ref 84, .int a1, .int a2, .int a3, .int t0, .null, .null, .null] rfl rfl rfl ?_
  refine zn_c [.int 0] (xo_push (.int 0)) rfl rfl ?_
  refine zn_st [.ref 84, .int a1, .int a2, .int a3, .int t0, .int 0, .null, .null] rfl rfl rfl ?_
  exact ml_7_38_39 hd  h
set_option maxRecDepth 20000 in
theorem m_7_29_39 {d d0 : Nat} (hd : d = d0 + 8)  {a1 : Int32} {a2 : Int32} {a3 : Int32} {s : zS} {Q : Option Value → zS → Prop}  (h : v_7_29 (fun j => Zt d (wd 39 j) j) 39  a1 a2 a3 s Q) : Zn d [] [(39, 99), (39, 98)] ([(84, 2, 39), (84, 3, 40), (84, 4, 43), (83, 1, 39), (83, 2, 40), (75, 0, 39), (75, 1, 57), (75, 2, 61)] : zW) ([(84, 2, 39), (84, 3, 40), (84, 4, 43), (83, 1, 39), (83, 2, 40), (75, 0, 39), (75, 1, 57), (75, 2, 61)] : zW) xL_1 6 (some .int) xE_7 (xE_7.drop 29) [.ref 84, .int a1, .int a2, .int a3, .null, .null, .null, .null] [] s Q := by
  unfold v_7_29 at h
  refine zn_ld rfl rfl rfl ?_
  refine zn_ld rfl rfl rfl ?_
  refine zn_zt [.ref 84, .int a1] [] rfl rfl rfl rfl rfl (Zt.imp h (fun v1 s2 h => ?_))
  obtain ⟨x3, rfl, h⟩ := h
  change Zn _ _ _ _ _ _ _ _ _ _ _ [.int x3] _ _
  refine zn_go rfl ?_
  exact m_7_35_39 hd  h
set_option maxRecDepth 20000 in
theorem m_7_0_39 {d d0 : Nat} (hd : d = d0 + 8)  {a1 : Int32} {s : zS} {Q : Option Value → zS → Prop}  (h : v_7_0 (fun j => Zt d (wd 39 j) j) 39  a1 s Q) : Zn d [] [(39, 99), (39, 98)] ([(84, 2, 39), (84, 3, 40), (84, 4, 43), (83, 1, 39), (83, 2, 40), (75, 0, 39), (75, 1, 57), (75, 2, 61)] : zW) ([(84, 2, 39), (84, 3, 40), (84, 4, 43), (83, 1, 39), (83, 2, 40), (75, 0, 39), (75, 1, 57), (75, 2, 61)] : zW) xL_1 6 (some .int) xE_7 (xE_7.drop 0) [.ref 84, .int a1, .null, .null, .null, .null, .null, .null] [] s Q := by
  unfold v_7_0 at h
  refine zn_ld rfl rfl rfl ?_
  refine zn_get (v := .ref 75) rfl (zv_R (a := 84) rfl rfl) ?_
  refine zn_get (v := .int (s.1 75 3)) rfl (zv_I (a := 75) rfl rfl) ?_
  refine zn_st [.ref 84, .int a1, .int (s.1 75 3), .null, .null, .null, .null, .null] rfl rfl rfl ?_
  refine zn_ld rfl rfl rfl ?_
  refine zn_c [.int 10, .int a1] (xo_push (.int 10)) rfl rfl ?_
  refine zn_brP rfl rfl ⟨fun hcn => ?_, fun hcn => ?_⟩
  · replace h := h.1 ((i_le (x := a1) (y := 10) rfl (show (10 : Int32).toInt = 10 by decide)).mp hcn)
    refine zn_ld rfl rfl rfl ?_
    refine zn_get (v := .ref 43) rfl (zv_C (a := 84) (n := 2) rfl rfl rfl) ?_
    refine zn_ld rfl rfl rfl ?_
    refine zn_get (v := .int (s.1 84 5)) rfl (zv_I (a := 84) rfl rfl) ?_
    refine zn_c [.int 1, .int (s.1 84 5), .ref 43] (xo_push (.int 1)) rfl rfl ?_
    replace h := h _ (i_add (x := s.1 84 5) (y := 1) rfl (show (1 : Int32).toInt = 1 by decide))
    refine zn_c [.int ((s.1 84 5) + 1), .ref 43] xo_iadd rfl rfl ?_
    refine zn_row ((s.1 84 5) + 1) [] (a := 43) hd rfl rfl rfl rfl ?_
    change Zn _ _ _ _ _ _ _ _ _ _ _ [.int (zg s 43 ((s.1 84 5) + 1))] _ _
    refine zn_st [.ref 84, .int a1, .int (s.1 75 3), .int (zg s 43 ((s.1 84 5) + 1)), .null, .null, .null, .null] rfl rfl rfl ?_
    refine zn_ld rfl rfl rfl ?_
    refine zn_c [.int 123, .int (zg s 43 ((s.1 84 5) + 1))] (xo_push (.int 123)) rfl rfl ?_
    refine zn_brP rfl rfl ⟨fun hcn => ?_, fun hcn => ?_⟩
    · replace h := h.1 ((i_eq (x := zg s 43 ((s.1 84 5) + 1)) (y := 123) rfl (show (123 : Int32).toInt = 123 by decide)).mp hcn)
      exact m_7_29_39 hd  h
    · replace h := h.2 (fun q => hcn ((i_eq (x := zg s 43 ((s.1 84 5) + 1)) (y := 123) rfl (show (123 : Int32).toInt = 123 by decide)).mpr q))
      refine zn_ld rfl rfl rfl ?_
      refine zn_c [.int 91, .int (zg s 43 ((s.1 84 5) + 1))] (xo_push (.int 91)) rfl rfl ?_
      refine zn_brN rfl rfl ⟨fun hcn => ?_, fun hcn => ?_⟩
      · replace h := h.1 (fun q => hcn ((i_eq (x := zg s 43 ((s.1 84 5) + 1)) (y := 91) rfl (show (91 : Int32).toInt = 91 by decide)).mpr q))
        refine zn_ld rfl rfl rfl ?_
        refine zn_zt [.ref 84] [] rfl rfl rfl rfl rfl (Zt.imp h (fun v2 s3 h => ?_))
        obtain ⟨x4, rfl, h⟩ := h
        change Zn _ _ _ _ _ _ _ _ _ _ _ [.int x4] _ _
        exact m_7_35_39 hd  h
      · replace h := h.2 ((i_eq (x := zg s 43 ((s.1 84 5) + 1)) (y := 91) rfl (show (91 : Int32).toInt = 91 by decide)).mp hcn)
        exact m_7_29_39 hd  h
  · replace h := h.2 (fun q => hcn ((i_le (x := a1) (y := 10) rfl (show (10 : Int32).toInt = 10 by decide)).mpr q))
    refine zn_ld rfl rfl rfl ?_
    refine zn_get (v := .ref 39) rfl (zv_C (a := 84) (n := 0) rfl rfl rfl) ?_
    refine zn_c [.int 5, .ref 39] (xo_push (.int 5)) rfl rfl ?_
    refine zn_ld rfl rfl rfl ?_
    refine zn_get (v := .int (s.1 84 5)) rfl (zv_I (a := 84) rfl rfl) ?_
    refine zn_zt [.ref 39, .int 5, .int (s.1 84 5)] [] rfl rfl rfl rfl rfl (Zt.imp h (fun v5 s6 h => ?_))
    obtain ⟨rfl, h⟩ := h
    change Zn _ _ _ _ _ _ _ _ _ _ _ [] _ _
    refine zn_ld rfl rfl rfl ?_
    exact zn_retI rfl h
theorem zq_7_39 {d : Nat} {a1 : Int32} {s : zS} {Q : Option Value → zS → Prop} (h : v_7_0 (fun j => Zt (d + 8) (wd 39 j) j) 39 a1 s Q) : Zt (d + 9) ([(84, 2, 39), (84, 3, 40), (84, 4, 43), (83, 1, 39), (83, 2, 40), (75, 0, 39), (75, 1, 57), (75, 2, 61)] : zW) 7 [.ref 84, .int a1] s Q := zt_of (E := xE_7) (L := xL_1) (ml := 6) (ret := some .int) rfl rfl rfl (m_7_0_39 rfl h)
theorem zc_7 {d P : Nat} (hP : P = 3 ∨ P = 39) {a1 : Int32} {s : zS} {Q : Option Value → zS → Prop} (h : v_7_0 (fun j => Zt (d + 8) (wd P j) j) P a1 s Q) : Zt (d + 9) (wd P 7) 7 [.ref 84, .int a1] s Q := by
  rcases hP with rfl | rfl
  · exact zq_7_3 h
  · exact zq_7_39 h
/-! FeatherBench$Bodies.behindPoint -/
def v_8_106 (T : Nat → List Value → zS → (Option Value → zS → Prop) → Prop) (P : Nat)  (a1 : Int32) (a2 : Int32) (a3 : Int32) (a4 : Int32) (a5 : Int32) (s : zS) (Q : Option Value → zS → Prop) : Prop :=
  T 59 [.ref P, .int 6, .int a5, .int (zg s (P + 6) a3), .int 0, .int 0, .int 0] s (fun v1 s2 => v1 = none ∧ (Q (some (.int a5)) s2))
def v_8_39 (T : Nat → List Value → zS → (Option Value → zS → Prop) → Prop) (P : Nat)  (a1 : Int32) (a2 : Int32) (a3 : Int32) (a4 : Int32) (t0 : Int32) (s : zS) (Q : Option Value → zS → Prop) : Prop :=
  Q (some (.int t0)) s
def v_8_30 (T : Nat → List Value → zS → (Option Value → zS → Prop) → Prop) (P : Nat)  (a1 : Int32) (a2 : Int32) (a3 : Int32) (a4 : Int32) (s : zS) (Q : Option Value → zS → Prop) : Prop :=
  T 14 [.ref 84, .int a1, .int a2] s (fun v1 s2 => ∃ x3, v1 = some (.int x3) ∧ (v_8_39 T P  a1 a2 a3 a4 x3 s2 Q))
def v_8_0 (T : Nat → List Value → zS → (Option Value → zS → Prop) → Prop) (P : Nat)  (a1 : Int32) (a2 : Int32) (s : zS) (Q : Option Value → zS → Prop) : Prop :=
  ∀ x1 : Int32, (-2147483648 ≤ (s.1 84 5).toInt + 1 ∧ (s.1 84 5).toInt + 1 ≤ 2147483647 → x1.toInt = (s.1 84 5).toInt + 1) → ∀ s2, s2 = zf s 84 5 x1 → ((zg s2 (P + 4) (s2.1 84 5)).toInt = 40 → ((zStr s2 P (zg s2 (P + 18) a1)).toInt = 0 → ∀ x3 : Int32, (-2147483648 ≤ (s2.1 84 5).toInt + 1 ∧ (s2.1 84 5).toInt + 1 ≤ 2147483647 → x3.toInt = (s2.1 84 5).toInt + 1) → T 132 [.ref 83, .int x3, .int 1] s2 (fun v4 s5 => ∃ x6, v4 = some (.int x6) ∧ (∀ x7 : Int32, (-2147483648 ≤ x6.toInt + 1 ∧ x6.toInt + 1 ≤ 2147483647 → x7.toInt = x6.toInt + 1) → ∀ s8, s8 = zf s5 84 5 x7 → T 135 [.ref 83, .int (s2.1 P 10), .int (s8.1 P 10)] s8 (fun v9 s10 => v9 = none ∧ ((¬ ((s10.1 P 14).toInt = 0) → v_8_106 T P  a1 a2 (s.1 84 5) x3 (s2.1 P 10) s10 Q) ∧ ((s10.1 P 14).toInt = 0 → ((zStr s10 P (zg s10 (P + 18) (s2.1 P 10))).toInt = 0 → v_8_106 T P  a1 a2 (s.1 84 5) x3 (s2.1 P 10) s10 Q) ∧ (¬ ((zStr s10 P (zg s10 (P + 18) (s2.1 P 10))).toInt = 0) → T 90 [.ref 75, .int a1] s10 (fun v11 s12 => ∃ x13, v11 = some (.int x13) ∧ (T 88 [.ref 75, .int (s2.1 P 10), .int x13] s12 (fun v14 s15 => ∃ x16, v14 = some (.int x16) ∧ (T 38 [.ref P, .int x16, .int x3] s15 (fun v17 s18 => v17 = none ∧ (v_8_106 T P  a1 a2 (s.1 84 5) x3 (s2.1 P 10) s18 Q))))))))))))) ∧ (¬ ((zStr s2 P (zg s2 (P + 18) a1)).toInt = 0) → T 38 [.ref P, .int 6, .int (s.1 84 5)] s2 (fun v19 s20 => v19 = none ∧ (Q (some (.int a1)) s20)))) ∧ (¬ ((zg s2 (P + 4) (s2.1 84 5)).toInt = 40) → ∀ x21 : Int32, (-2147483648 ≤ (s2.1 84 5).toInt + 1 ∧ (s2.1 84 5).toInt + 1 ≤ 2147483647 → x21.toInt = (s2.1 84 5).toInt + 1) → ((zg s2 (P + 4) x21).toInt = 40 → v_8_30 T P  a1 a2 (s.1 84 5) (zg s2 (P + 4) x21) s2 Q) ∧ (¬ ((zg s2 (P + 4) x21).toInt = 40) → (¬ ((zg s2 (P + 4) x21).toInt = 91) → T 12 [.ref 84, .int a1, .int (s.1 84 5)] s2 (fun v22 s23 => ∃ x24, v22 = some (.int x24) ∧ (v_8_39 T P  a1 a2 (s.1 84 5) (zg s2 (P + 4) x21) x24 s23 Q))) ∧ ((zg s2 (P + 4) x21).toInt = 91 → v_8_30 T P  a1 a2 (s.1 84 5) (zg s2 (P + 4) x21) s2 Q)))
set_option maxRecDepth 20000 in
theorem m_8_106_3 {d d0 : Nat} (hd : d = d0 + 8)  {a1 : Int32} {a2 : Int32} {a3 : Int32} {a4 : Int32} {a5 : Int32} {s : zS} {Q : Option Value → zS → Prop}  (h : v_8_106 (fun j => Zt d (wd 3 j) j) 3  a1 a2 a3 a4 a5 s Q) : Zn d [] [(3, 99), (3, 98)] ([(84, 2, 3), (84, 3, 4), (84, 4, 7), (83, 1, 3), (83, 2, 4), (75, 0, 3), (75, 1, 21), (75, 2, 25)] : zW) ([(84, 2, 3), (84, 3, 4), (84, 4, 7), (83, 1, 3), (83, 2, 4), (75, 0, 3), (75, 1, 21), (75, 2, 25)] : zW) xL_1 6 (some .int) xE_8 (xE_8.drop 106) [.ref 84, .int a1, .int a2, .int a3, .int a4, .int a5, .null, .null, .null] [] s Q := by
  unfold v_8_106 at h
  refine zn_ld rfl rfl rfl ?_
  refine zn_get (v := .ref 3) rfl (zv_C (a := 84) (n := 0) rfl rfl rfl) ?_
  refine zn_c [.int 6, .ref 3] (xo_push (.int 6)) rfl rfl ?_
  refine zn_ld rfl rfl rfl ?_
  refine zn_ld rfl rfl rfl ?_
  refine zn_get (v := .ref 4) rfl (zv_C (a := 84) (n := 1) rfl rfl rfl) ?_
  refine zn_get (v := .ref 9) rfl (zv_R (a := 4) rfl rfl) ?_
  refine zn_ld rfl rfl rfl ?_
  refine zn_row a3 [.int a5, .int 6, .ref 3] (a := 9) hd rfl rfl rfl rfl ?_
  change Zn _ _ _ _ _ _ _ _ _ _ _ [.int (zg s 9 a3), .int a5, .int 6, .ref 3] _ _
  refine zn_c [.int 0, .int (zg s 9 a3), .int a5, .int 6, .ref 3] (xo_push (.int 0)) rfl rfl ?_
  refine zn_c [.int 0, .int 0, .int (zg s 9 a3), .int a5, .int 6, .ref 3] (xo_push (.int 0)) rfl rfl ?_
  refine zn_c [.int 0, .int 0, .int 0, .int (zg s 9 a3), .int a5, .int 6, .ref 3] (xo_push (.int 0)) rfl rfl ?_
  refine zn_zt [.ref 3, .int 6, .int a5, .int (zg s 9 a3), .int 0, .int 0, .int 0] [] rfl rfl rfl rfl rfl (Zt.imp h (fun v1 s2 h => ?_))
  obtain ⟨rfl, h⟩ := h
  change Zn _ _ _ _ _ _ _ _ _ _ _ [] _ _
  refine zn_ld rfl rfl rfl ?_
  exact zn_retI rfl h
set_option maxRecDepth 20000 in
theorem m_8_39_3 {d d0 : Nat} (hd : d = d0 + 8)  {a1 : Int32} {a2 : Int32} {a3 : Int32} {a4 : Int32} {t0 : Int32} {s : zS} {Q : Option Value → zS → Prop}  (h : v_8_39 (fun j => Zt d (wd 3 j) j) 3  a1 a2 a3 a4 t0 s Q) : Zn d [] [(3, 99), (3, 98)] ([(84, 2, 3), (84, 3, 4), (84, 4, 7), (83, 1, 3), (83, 2, 4), (75, 0, 3), (75, 1, 21), (75, 2, 25)] : zW) ([(84, 2, 3), (84, 3, 4), (84, 4, 7), (83, 1, 3), (83, 2, 4), (75, 0, 3), (75, 1, 21), (75, 2, 25)] : zW) xL_1 6 (some .int) xE_8 (xE_8.drop 39) [.ref 84, .int a1, .int a2, .int a3, .int a4, .null, .null, .null, .null] [.int t0] s Q := by
  unfold v_8_39 at h
  exact zn_retI rfl h
set_option maxRecDepth 20000 in
theorem m_8_30_3 {d d0 : Nat} (hd : d = d0 + 8)  {a1 : Int32} {a2 : Int32} {a3 : Int32} {a4 : Int32} {s : zS} {Q : Option Value → zS → Prop}  (h : v_8_30 (fun j => Zt d (wd 3 j) j) 3  a1 a2 a3 a4 s Q) : Zn d [] [(3, 99), (3, 98)] ([(84, 2, 3), (84, 3, 4), (84, 4, 7), (83, 1, 3), (83, 2, 4), (75, 0, 3), (75, 1, 21), (75, 2, 25)] : zW) ([(84, 2, 3), (84, 3, 4), (84, 4, 7), (83, 1, 3), (83, 2, 4), (75, 0, 3), (75, 1, 21), (75, 2, 25)] : zW) xL_1 6 (some .int) xE_8 (xE_8.drop 30) [.ref 84, .int a1, .int a2, .int a3, .int a4, .null, .null, .null, .null] [] s Q := by
  unfold v_8_30 at h
  refine zn_ld rfl rfl rfl ?_
  refine zn_ld rfl rfl rfl ?_
  refine zn_ld rfl rfl rfl ?_
  refine zn_zt [.ref 84, .int a1, .int a2] [] rfl rfl rfl rfl rfl (Zt.imp h (fun v1 s2 h => ?_))
  obtain ⟨x3, rfl, h⟩ := h
  change Zn _ _ _ _ _ _ _ _ _ _ _ [.int x3] _ _
  refine zn_go rfl ?_
  exact m_8_39_3 hd  h
set_option maxRecDepth 20000 in
theorem m_8_0_3 {d d0 : Nat} (hd : d = d0 + 8)  {a1 : Int32} {a2 : Int32} {s : zS} {Q : Option Value → zS → Prop}  (h : v_8_0 (fun j => Zt d (wd 3 j) j) 3  a1 a2 s Q) : Zn d [] [(3, 99), (3, 98)] ([(84, 2, 3), (84, 3, 4), (84, 4, 7), (83, 1, 3), (83, 2, 4), (75, 0, 3), (75, 1, 21), (75, 2, 25)] : zW) ([(84, 2, 3), (84, 3, 4), (84, 4, 7), (83, 1, 3), (83, 2, 4), (75, 0, 3), (75, 1, 21), (75, 2, 25)] : zW) xL_1 6 (some .int) xE_8 (xE_8.drop 0) [.ref 84, .int a1, .int a2, .null, .null, .null, .null, .null, .null] [] s Q := by
  unfold v_8_0 at h
  refine zn_ld rfl rfl rfl ?_
  refine zn_get (v := .int (s.1 84 5)) rfl (zv_I (a := 84) rfl rfl) ?_
  refine zn_st [.ref 84, .int a1, .int a2, .int (s.1 84 5), .null, .null, .null, .null, .null] rfl rfl rfl ?_
  refine zn_ld rfl rfl rfl ?_
  refine zn_c [.ref 84, .ref 84] xo_dup rfl rfl ?_
  refine zn_get (v := .int (s.1 84 5)) rfl (zv_I (a := 84) rfl rfl) ?_
  refine zn_c [.int 1, .int (s.1 84 5), .ref 84] (xo_push (.int 1)) rfl rfl ?_
  replace h := h _ (i_add (x := s.1 84 5) (y := 1) rfl (show (1 : Int32).toInt = 1 by decide))
  refine zn_c [.int ((s.1 84 5) + 1), .ref 84] xo_iadd rfl rfl ?_
  refine zn_putI (a := 84) rfl rfl rfl rfl ⟨Int32.le_toInt _, Int.le_of_lt_add_one (Int32.toInt_lt _)⟩ rfl rfl rfl ?_
  replace h := h _ rfl
  refine zn_ld rfl rfl rfl ?_
  refine zn_get (v := .ref 7) rfl (zv_C (a := 84) (n := 2) rfl rfl rfl) ?_
  refine zn_ld rfl rfl rfl ?_
  refine zn_get (v := .int ((zf s 84 5 ((s.1 84 5) + 1)).1 84 5)) rfl (zv_I (a := 84) rfl rfl) ?_
  refine zn_row ((zf s 84 5 ((s.1 84 5) + 1)).1 84 5) [] (a := 7) hd rfl rfl rfl rfl ?_
  change Zn _ _ _ _ _ _ _ _ _ _ _ [.int (zg (zf s 84 5 ((s.1 84 5) + 1)) 7 ((zf s 84 5 ((s.1 84 5) + 1)).1 84 5))] _ _
  refine zn_c [.int 40, .int (zg (zf s 84 5 ((s.1 84 5) + 1)) 7 ((zf s 84 5 ((s.1 84 5) + 1)).1 84 5))] (xo_push (.int 40)) rfl rfl ?_
  refine zn_brP rfl rfl ⟨fun hcn => ?_, fun hcn => ?_⟩
  · replace h := h.1 ((i_eq (x := zg (zf s 84 5 ((s.1 84 5) + 1)) 7 ((zf s 84 5 ((s.1 84 5) + 1)).1 84 5)) (y := 40) rfl (show (40 : Int32).toInt = 40 by decide)).mp hcn)
    refine zn_ld rfl rfl rfl ?_
    refine zn_get (v := .ref 3) rfl (zv_C (a := 84) (n := 0) rfl rfl rfl) ?_
    refine zn_ld rfl rfl rfl ?_
    refine zn_get (v := .ref 3) rfl (zv_C (a := 84) (n := 0) rfl rfl rfl) ?_
    refine zn_get (v := .ref 21) rfl (zv_R (a := 3) rfl rfl) ?_
    refine zn_ld rfl rfl rfl ?_
    refine zn_row a1 [.ref 3] (a := 21) hd rfl rfl rfl rfl ?_
    change Zn _ _ _ _ _ _ _ _ _ _ _ [.int (zg (zf s 84 5 ((s.1 84 5) + 1)) 21 a1), .ref 3] _ _
    refine zn_zt [.ref 3, .int (zg (zf s 84 5 ((s.1 84 5) + 1)) 21 a1)] [] (c := []) rfl rfl rfl rfl rfl (Zt.imp (zp_49 hd (Or.inl rfl)) (fun vq sq hq => ?_))
    obtain ⟨rfl, hq⟩ := hq
    rw [hq]
    change Zn _ _ _ _ _ _ _ _ _ _ _ [.int (zStr (zf s 84 5 ((s.1 84 5) + 1)) 3 (zg (zf s 84 5 ((s.1 84 5) + 1)) 21 a1))] _ _
    refine zn_brP rfl rfl ⟨fun hcn => ?_, fun hcn => ?_⟩
    · replace h := h.1 ((i_eq (x := zStr (zf s 84 5 ((s.1 84 5) + 1)) 3 (zg (zf s 84 5 ((s.1 84 5) + 1)) 21 a1)) (y := 0) rfl (show (0 : Int32).toInt = 0 by decide)).mp hcn)
      refine zn_ld rfl rfl rfl ?_
      refine zn_get (v := .int ((zf s 84 5 ((s.1 84 5) + 1)).1 84 5)) rfl (zv_I (a := 84) rfl rfl) ?_
      refine zn_c [.int 1, .int ((zf s 84 5 ((s.1 84 5) + 1)).1 84 5)] (xo_push (.int 1)) rfl rfl ?_
      replace h := h _ (i_add (x := (zf s 84 5 ((s.1 84 5) + 1)).1 84 5) (y := 1) rfl (show (1 : Int32).toInt = 1 by decide))
      refine zn_c [.int (((zf s 84 5 ((s.1 84 5) + 1)).1 84 5) + 1)] xo_iadd rfl rfl ?_
      refine zn_st [.ref 84, .int a1, .int a2, .int (s.1 84 5), .int (((zf s 84 5 ((s.1 84 5) + 1)).1 84 5) + 1), .null, .null, .null, .null] rfl rfl rfl ?_
      refine zn_ld rfl rfl rfl ?_
      refine zn_get (v := .ref 3) rfl (zv_C (a := 84) (n := 0) rfl rfl rfl) ?_
      refine zn_get (v := .int ((zf s 84 5 ((s.1 84 5) + 1)).1 3 10)) rfl (zv_I (a := 3) rfl rfl) ?_
      refine zn_st [.ref 84, .int a1, .int a2, .int (s.1 84 5), .int (((zf s 84 5 ((s.1 84 5) + 1)).1 84 5) + 1), .int ((zf s 84 5 ((s.1 84 5) + 1)).1 3 10), .null, .null, .null] rfl rfl rfl ?_
      refine zn_ld rfl rfl rfl ?_
      refine zn_ld rfl rfl rfl ?_
      refine zn_get (v := .ref 83) rfl (zv_R (a := 84) rfl rfl) ?_
      refine zn_ld rfl rfl rfl ?_
      refine zn_c [.int 1, .int (((zf s 84 5 ((s.1 84 5) + 1)).1 84 5) + 1), .ref 83, .ref 84] (xo_push (.int 1)) rfl rfl ?_
      refine zn_zt [.ref 83, .int (((zf s 84 5 ((s.1 84 5) + 1)).1 84 5) + 1), .int 1] [.ref 84] rfl rfl rfl rfl rfl (Zt.imp h (fun v4 s5 h => ?_))
      obtain ⟨x6, rfl, h⟩ := h
      change Zn _ _ _ _ _ _ _ _ _ _ _ [.int x6, .ref 84] _ _
      refine zn_c [.int 1, .int x6, .ref 84] (xo_push (.int 1)) rfl rfl ?_
      replace h := h _ (i_add (x := x6) (y := 1) rfl (show (1 : Int32).toInt = 1 by decide))
      refine zn_c [.int (x6 + 1), .ref 84] xo_iadd rfl rfl ?_
      refine zn_putI (a := 84) rfl rfl rfl rfl ⟨Int32.le_toInt _, Int.le_of_lt_add_one (Int32.toInt_lt _)⟩ rfl rfl rfl ?_
      replace h := h _ rfl
      refine zn_ld rfl rfl rfl ?_
      refine zn_get (v := .ref 83) rfl (zv_R (a := 84) rfl rfl) ?_
      refine zn_ld rfl rfl rfl ?_
      refine zn_ld rfl rfl rfl ?_
      refine zn_get (v := .ref 3) rfl (zv_C (a := 84) (n := 0) rfl rfl rfl) ?_
      refine zn_get (v := .int ((zf s5 84 5 (x6 + 1)).1 3 10)) rfl (zv_I (a := 3) rfl rfl) ?_
      refine zn_zt [.ref 83, .int ((zf s 84 5 ((s.1 84 5) + 1)).1 3 10), .int ((zf s5 84 5 (x6 + 1)).1 3 10)] [] rfl rfl rfl rfl rfl (Zt.imp h (fun v9 s10 h => ?_))
      obtain ⟨rfl, h⟩ := h
      change Zn _ _ _ _ _ _ _ _ _ _ _ [] _ _
      refine zn_ld rfl rfl rfl ?_
      refine zn_get (v := .ref 3) rfl (zv_C (a := 84) (n := 0) rfl rfl rfl) ?_
      refine zn_get (v := .int (s10.1 3 14)) rfl (zv_I (a := 3) rfl rfl) ?_
      refine zn_brN rfl rfl ⟨fun hcn => ?_, fun hcn => ?_⟩
      · replace h := h.1 (fun q => hcn ((i_eq (x := s10.1 3 14) (y := 0) rfl (show (0 : Int32).toInt = 0 by decide)).mpr q))
        exact m_8_106_3 hd  h
      · replace h := h.2 ((i_eq (x := s10.1 3 14) (y := 0) rfl (show (0 : Int32).toInt = 0 by decide)).mp hcn)
        refine zn_ld rfl rfl rfl ?_
        refine zn_get (v := .ref 3) rfl (zv_C (a := 84) (n := 0) rfl rfl rfl) ?_
        refine zn_ld rfl rfl rfl ?_
        refine zn_get (v := .ref 3) rfl (zv_C (a := 84) (n := 0) rfl rfl rfl) ?_
        refine zn_get (v := .ref 21) rfl (zv_R (a := 3) rfl rfl) ?_
        refine zn_ld rfl rfl rfl ?_
        refine zn_row ((zf s 84 5 ((s.1 84 5) + 1)).1 3 10) [.ref 3] (a := 21) hd rfl rfl rfl rfl ?_
        change Zn _ _ _ _ _ _ _ _ _ _ _ [.int (zg s10 21 ((zf s 84 5 ((s.1 84 5) + 1)).1 3 10)), .ref 3] _ _
        refine zn_zt [.ref 3, .int (zg s10 21 ((zf s 84 5 ((s.1 84 5) + 1)).1 3 10))] [] (c := []) rfl rfl rfl rfl rfl (Zt.imp (zp_49 hd (Or.inl rfl)) (fun vq sq hq => ?_))
        obtain ⟨rfl, hq⟩ := hq
        rw [hq]
        change Zn _ _ _ _ _ _ _ _ _ _ _ [.int (zStr s10 3 (zg s10 21 ((zf s 84 5 ((s.1 84 5) + 1)).1 3 10)))] _ _
        refine zn_brP rfl rfl ⟨fun hcn => ?_, fun hcn => ?_⟩
        · replace h := h.1 ((i_eq (x := zStr s10 3 (zg s10 21 ((zf s 84 5 ((s.1 84 5) + 1)).1 3 10))) (y := 0) rfl (show (0 : Int32).toInt = 0 by decide)).mp hcn)
          exact m_8_106_3 hd  h
        · replace h := h.2 (fun q => hcn ((i_eq (x := zStr s10 3 (zg s10 21 ((zf s 84 5 ((s.1 84 5) + 1)).1 3 10))) (y := 0) rfl (show (0 : Int32).toInt = 0 by decide)).mpr q))
          refine zn_ld rfl rfl rfl ?_
          refine zn_get (v := .ref 3) rfl (zv_C (a := 84) (n := 0) rfl rfl rfl) ?_
          refine zn_ld rfl rfl rfl ?_
          refine zn_get (v := .ref 75) rfl (zv_R (a := 84) rfl rfl) ?_
          refine zn_ld rfl rfl rfl ?_
          refine zn_ld rfl rfl rfl ?_
          refine zn_get (v := .ref 75) rfl (zv_R (a := 84) rfl rfl) ?_
          refine zn_ld rfl rfl rfl ?_
          refine zn_zt [.ref 75, .int a1] [.int ((zf s 84 5 ((s.1 84 5) + 1)).1 3 10), .ref 75, .ref 3] rfl rfl rfl rfl rfl (Zt.imp h (fun v11 s12 h => ?_))
          obtain ⟨x13, rfl, h⟩ := h
          change Zn _ _ _ _ _ _ _ _ _ _ _ [.int x13, .int ((zf s 84 5 ((s.1 84 5) + 1)).1 3 10), .ref 75, .ref 3] _ _
          refine zn_zt [.ref 75, .int ((zf s 84 5 ((s.1 84 5) + 1)).1 3 10), .int x13] [.ref 3] rfl rfl rfl rfl rfl (Zt.imp h (fun v14 s15 h => ?_))
          obtain ⟨x16, rfl, h⟩ := h
          change Zn _ _ _ _ _ _ _ _ _ _ _ [.int x16, .ref 3] _ _
          refine zn_ld rfl rfl rfl ?_
          refine zn_zt [.ref 3, .int x16, .int (((zf s 84 5 ((s.1 84 5) + 1)).1 84 5) + 1)] [] rfl rfl rfl rfl rfl (Zt.imp h (fun v17 s18 h => ?_))
          obtain ⟨rfl, h⟩ := h
          change Zn _ _ _ _ _ _ _ _ _ _ _ [] _ _
          exact m_8_106_3 hd  h
    · replace h := h.2 (fun q => hcn ((i_eq (x := zStr (zf s 84 5 ((s.1 84 5) + 1)) 3 (zg (zf s 84 5 ((s.1 84 5) + 1)) 21 a1)) (y := 0) rfl (show (0 : Int32).toInt = 0 by decide)).mpr q))
      refine zn_ld rfl rfl rfl ?_
      refine zn_get (v := .ref 3) rfl (zv_C (a := 84) (n := 0) rfl rfl rfl) ?_
      refine zn_c [.int 6, .ref 3] (xo_push (.int 6)) rfl rfl ?_
      refine zn_ld rfl rfl rfl ?_
      refine zn_zt [.ref 3, .int 6, .int (s.1 84 5)] [] rfl rfl rfl rfl rfl (Zt.imp h (fun v19 s20 h => ?_))
      obtain ⟨rfl, h⟩ := h
      change Zn _ _ _ _ _ _ _ _ _ _ _ [] _ _
      refine zn_ld rfl rfl rfl ?_
      exact zn_retI rfl h
  · replace h := h.2 (fun q => hcn ((i_eq (x := zg (zf s 84 5 ((s.1 84 5) + 1)) 7 ((zf s 84 5 ((s.1 84 5) + 1)).1 84 5)) (y := 40) rfl (show (40 : Int32).toInt = 40 by decide)).mpr q))
    refine zn_ld rfl rfl rfl ?_
    refine zn_get (v := .ref 7) rfl (zv_C (a := 84) (n := 2) rfl rfl rfl) ?_
    refine zn_ld rfl rfl rfl ?_
    refine zn_get (v := .int ((zf s 84 5 ((s.1 84 5) + 1)).1 84 5)) rfl (zv_I (a := 84) rfl rfl) ?_
    refine zn_c [.int 1, .int ((zf s 84 5 ((s.1 84 5) + 1)).1 84 5), .ref 7] (xo_push (.int 1)) rfl rfl ?_
    replace h := h _ (i_add (x := (zf s 84 5 ((s.1 84 5) + 1)).1 84 5) (y := 1) rfl (show (1 : Int32).toInt = 1 by decide))
    refine zn_c [.int (((zf s 84 5 ((s.1 84 5) + 1)).1 84 5) + 1), .ref 7] xo_iadd rfl rfl ?_
    refine zn_row (((zf s 84 5 ((s.1 84 5) + 1)).1 84 5) + 1) [] (a := 7) hd rfl rfl rfl rfl ?_
    change Zn _ _ _ _ _ _ _ _ _ _ _ [.int (zg (zf s 84 5 ((s.1 84 5) + 1)) 7 (((zf s 84 5 ((s.1 84 5) + 1)).1 84 5) + 1))] _ _
    refine zn_st [.ref 84, .int a1, .int a2, .int (s.1 84 5), .int (zg (zf s 84 5 ((s.1 84 5) + 1)) 7 (((zf s 84 5 ((s.1 84 5) + 1)).1 84 5) + 1)), .null, .null, .null, .null] rfl rfl rfl ?_
    refine zn_ld rfl rfl rfl ?_
    refine zn_c [.int 40, .int (zg (zf s 84 5 ((s.1 84 5) + 1)) 7 (((zf s 84 5 ((s.1 84 5) + 1)).1 84 5) + 1))] (xo_push (.int 40)) rfl rfl ?_
    refine zn_brP rfl rfl ⟨fun hcn => ?_, fun hcn => ?_⟩
    · replace h := h.1 ((i_eq (x := zg (zf s 84 5 ((s.1 84 5) + 1)) 7 (((zf s 84 5 ((s.1 84 5) + 1)).1 84 5) + 1)) (y := 40) rfl (show (40 : Int32).toInt = 40 by decide)).mp hcn)
      exact m_8_30_3 hd  h
    · replace h := h.2 (fun q => hcn ((i_eq (x := zg (zf s 84 5 ((s.1 84 5) + 1)) 7 (((zf s 84 5 ((s.1 84 5) + 1)).1 84 5) + 1)) (y := 40) rfl (show (40 : Int32).toInt = 40 by decide)).mpr q))
      refine zn_ld rfl rfl rfl ?_
      refine zn_c [.int 91, .int (zg (zf s 84 5 ((s.1 84 5) + 1)) 7 (((zf s 84 5 ((s.1 84 5) + 1)).1 84 5) + 1))] (xo_push (.int 91)) rfl rfl ?_
      refine zn_brN rfl rfl ⟨fun hcn => ?_, fun hcn => ?_⟩
      · replace h := h.1 (fun q => hcn ((i_eq (x := zg (zf s 84 5 ((s.1 84 5) + 1)) 7 (((zf s 84 5 ((s.1 84 5) + 1)).1 84 5) + 1)) (y := 91) rfl (show (91 : Int32).toInt = 91 by decide)).mpr q))
        refine zn_ld rfl rfl rfl ?_
        refine zn_ld rfl rfl rfl ?_
        refine zn_ld rfl rfl rfl ?_
        refine zn_zt [.ref 84, .int a1, .int (s.1 84 5)] [] rfl rfl rfl rfl rfl (Zt.imp h (fun v22 s23 h => ?_))
        obtain ⟨x24, rfl, h⟩ := h
        change Zn _ _ _ _ _ _ _ _ _ _ _ [.int x24] _ _
        exact m_8_39_3 hd  h
      · replace h := h.2 ((i_eq (x := zg (zf s 84 5 ((s.1 84 5) + 1)) 7 (((zf s 84 5 ((s.1 84 5) + 1)).1 84 5) + 1)) (y := 91) rfl (show (91 : Int32).toInt = 91 by decide)).mp hcn)
        exact m_8_30_3 hd  h
theorem zq_8_3 {d : Nat} {a1 : Int32} {a2 : Int32} {s : zS} {Q : Option Value → zS → Prop} (h : v_8_0 (fun j => Zt (d + 8) (wd 3 j) j) 3 a1 a2 s Q) : Zt (d + 9) ([(84, 2, 3), (84, 3, 4), (84, 4, 7), (83, 1, 3), (83, 2, 4), (75, 0, 3), (75, 1, 21), (75, 2, 25)] : zW) 8 [.ref 84, .int a1, .int a2] s Q := zt_of (E := xE_8) (L := xL_1) (ml := 6) (ret := some .int) rfl rfl rfl (m_8_0_3 rfl h)
set_option maxRecDepth 20000 in
theorem m_8_106_39 {d d0 : Nat} (hd : d = d0 + 8)  {a1 : Int32} {a2 : Int32} {a3 : Int32} {a4 : Int32} {a5 : Int32} {s : zS} {Q : Option Value → zS → Prop}  (h : v_8_106 (fun j => Zt d (wd 39 j) j) 39  a1 a2 a3 a4 a5 s Q) : Zn d [] [(39, 99), (39, 98)] ([(84, 2, 39), (84, 3, 40), (84, 4, 43), (83, 1, 39), (83, 2, 40), (75, 0, 39), (75, 1, 57), (75, 2, 61)] : zW) ([(84, 2, 39), (84, 3, 40), (84, 4, 43), (83, 1, 39), (83, 2, 40), (75, 0, 39), (75, 1, 57), (75, 2, 61)] : zW) xL_1 6 (some .int) xE_8 (xE_8.drop 106) [.ref 84, .int a1, .int a2, .int a3, .int a4, .int a5, .null, .null, .null] [] s Q := by
  unfold v_8_106 at h
  refine zn_ld rfl rfl rfl ?_
  refine zn_get (v := .ref 39) rfl (zv_C (a := 84) (n := 0) rfl rfl rfl) ?_
  refine zn_c [.int 6, .ref 39] (xo_push (.int 6)) rfl rfl ?_
  refine zn_ld rfl rfl rfl ?_
  refine zn_ld rfl rfl rfl ?_
  refine zn_get (v := .ref 40) rfl (zv_C (a := 84) (n := 1) rfl rfl rfl) ?_
  refine zn_get (v := .ref 45) rfl (zv_R (a := 40) rfl rfl) ?_
  refine zn_ld rfl rfl rfl ?_
  refine zn_row a3 [.int a5, .int 6, .ref 39] (a := 45) hd rfl rfl rfl rfl ?_
  change Zn _ _ _ _ _ _ _ _ _ _ _ [.int (zg s 45 a3), .int a5, .int 6, .ref 39] _ _
  refine zn_c [.int 0, .int (zg s 45 a3), .int a5, .int 6, .ref 39] (xo_push (.int 0)) rfl rfl ?_
  refine zn_c [.int 0, .int 0, .int (zg s 45 a3), .int a5, .int 6, .ref 39] (xo_push (.int 0)) rfl rfl ?_
  refine zn_c [.int 0, .int 0, .int 0, .int (zg s 45 a3), .int a5, .int 6, .ref 39] (xo_push (.int 0)) rfl rfl ?_
  refine zn_zt [.ref 39, .int 6, .int a5, .int (zg s 45 a3), .int 0, .int 0, .int 0] [] rfl rfl rfl rfl rfl (Zt.imp h (fun v1 s2 h => ?_))
  obtain ⟨rfl, h⟩ := h
  change Zn _ _ _ _ _ _ _ _ _ _ _ [] _ _
  refine zn_ld rfl rfl rfl ?_
  exact zn_retI rfl h
set_option maxRecDepth 20000 in
theorem m_8_39_39 {d d0 : Nat} (hd : d = d0 + 8)  {a1 : Int32} {a2 : Int32} {a3 : Int32} {a4 : Int32} {t0 : Int32} {s : zS} {Q : Option Value → zS → Prop}  (h : v_8_39 (fun j => Zt d (wd 39 j) j) 39  a1 a2 a3 a4 t0 s Q) : Zn d [] [(39, 99), (39, 98)] ([(84, 2, 39), (84, 3, 40), (84, 4, 43), (83, 1, 39), (83, 2, 40), (75, 0, 39), (75, 1, 57), (75, 2, 61)] : zW) ([(84, 2, 39), (84, 3, 40), (84, 4, 43), (83, 1, 39), (83, 2, 40), (75, 0, 39), (75, 1, 57), (75, 2, 61)] : zW) xL_1 6 (some .int) xE_8 (xE_8.drop 39) [.ref 84, .int a1, .int a2, .int a3, .int a4, .null, .null, .null, .null] [.int t0] s Q := by
  unfold v_8_39 at h
  exact zn_retI rfl h
set_option maxRecDepth 20000 in
theorem m_8_30_39 {d d0 : Nat} (hd : d = d0 + 8)  {a1 : Int32} {a2 : Int32} {a3 : Int32} {a4 : Int32} {s : zS} {Q : Option Value → zS → Prop}  (h : v_8_30 (fun j => Zt d (wd 39 j) j) 39  a1 a2 a3 a4 s Q) : Zn d [] [(39, 99), (39, 98)] ([(84, 2, 39), (84, 3, 40), (84, 4, 43), (83, 1, 39), (83, 2, 40), (75, 0, 39), (75, 1, 57), (75, 2, 61)] : zW) ([(84, 2, 39), (84, 3, 40), (84, 4, 43), (83, 1, 39), (83, 2, 40), (75, 0, 39), (75, 1, 57), (75, 2, 61)] : zW) xL_1 6 (some .int) xE_8 (xE_8.drop 30) [.ref 84, .int a1, .int a2, .int a3, .int a4, .null, .null, .null, .null] [] s Q := by
  unfold v_8_30 at h
  refine zn_ld rfl rfl rfl ?_
  refine zn_ld rfl rfl rfl ?_
  refine zn_ld rfl rfl rfl ?_
  refine zn_zt [.ref 84, .int a1, .int a2] [] rfl rfl rfl rfl rfl (Zt.imp h (fun v1 s2 h => ?_))
  obtain ⟨x3, rfl, h⟩ := h
  change Zn _ _ _ _ _ _ _ _ _ _ _ [.int x3] _ _
  refine zn_go rfl ?_
  exact m_8_39_39 hd  h
set_option maxRecDepth 20000 in
theorem m_8_0_39 {d d0 : Nat} (hd : d = d0 + 8)  {a1 : Int32} {a2 : Int32} {s : zS} {Q : Option Value → zS → Prop}  (h : v_8_0 (fun j => Zt d (wd 39 j) j) 39  a1 a2 s Q) : Zn d [] [(39, 99), (39, 98)] ([(84, 2, 39), (84, 3, 40), (84, 4, 43), (83, 1, 39), (83, 2, 40), (75, 0, 39), (75, 1, 57), (75, 2, 61)] : zW) ([(84, 2, 39), (84, 3, 40), (84, 4, 43), (83, 1, 39), (83, 2, 40), (75, 0, 39), (75, 1, 57), (75, 2, 61)] : zW) xL_1 6 (some .int) xE_8 (xE_8.drop 0) [.ref 84, .int a1, .int a2, .null, .null, .null, .null, .null, .null] [] s Q := by
  unfold v_8_0 at h
  refine zn_ld rfl rfl rfl ?_
  refine zn_get (v := .int (s.1 84 5)) rfl (zv_I (a := 84) rfl rfl) ?_
  refine zn_st [.ref 84, .int a1, .int a2, .int (s.1 84 5), .null, .null, .null, .null, .null] rfl rfl rfl ?_
  refine zn_ld rfl rfl rfl ?_
  refine zn_c [.ref 84, .ref 84] xo_dup rfl rfl ?_
  refine zn_get (v := .int (s.1 84 5)) rfl (zv_I (a := 84) rfl rfl) ?_
  refine zn_c [.int 1, .int (s.1 84 5), .ref 84] (xo_push (.int 1)) rfl rfl ?_
  replace h := h _ (i_add (x := s.1 84 5) (y := 1) rfl (show (1 : Int32).toInt = 1 by decide))
  refine zn_c [.int ((s.1 84 5) + 1), .ref 84] xo_iadd rfl rfl ?_
  refine zn_putI (a := 84) rfl rfl rfl rfl ⟨Int32.le_toInt _, Int.le_of_lt_add_one (Int32.toInt_lt _)⟩ rfl rfl rfl ?_
  replace h := h _ rfl
  refine zn_ld rfl rfl rfl ?_
  refine zn_get (v := .ref 43) rfl (zv_C (a := 84) (n := 2) rfl rfl rfl) ?_
  refine zn_ld rfl rfl rfl ?_
  refine zn_get (v := .int ((zf s 84 5 ((s.1 84 5) + 1)).1 84 5)) rfl (zv_I (a := 84) rfl rfl) ?_
  refine zn_row ((zf s 84 5 ((s.1 84 5) + 1)).1 84 5) [] (a := 43) hd rfl rfl rfl rfl ?_
  change Zn _ _ _ _ _ _ _ _ _ _ _ [.int (zg (zf s 84 5 ((s.1 84 5) + 1)) 43 ((zf s 84 5 ((s.1 84 5) + 1)).1 84 5))] _ _
  refine zn_c [.int 40, .int (zg (zf s 84 5 ((s.1 84 5) + 1)) 43 ((zf s 84 5 ((s.1 84 5) + 1)).1 84 5))] (xo_push (.int 40)) rfl rfl ?_
  refine zn_brP rfl rfl ⟨fun hcn => ?_, fun hcn => ?_⟩
  · replace h := h.1 ((i_eq (x := zg (zf s 84 5 ((s.1 84 5) + 1)) 43 ((zf s 84 5 ((s.1 84 5) + 1)).1 84 5)) (y := 40) rfl (show (40 : Int32).toInt = 40 by decide)).mp hcn)
    refine zn_ld rfl rfl rfl ?_
    refine zn_get (v := .ref 39) rfl (zv_C (a := 84) (n := 0) rfl rfl rfl) ?_
    refine zn_ld rfl rfl rfl ?_
    refine zn_get (v := .ref 39) rfl (zv_C (a := 84) (n := 0) rfl rfl rfl) ?_
    refine zn_get (v := .ref 57) rfl (zv_R (a := 39) rfl rfl) ?_
    refine zn_ld rfl rfl rfl ?_
    refine zn_row a1 [.ref 39] (a := 57) hd rfl rfl rfl rfl ?_
    change Zn _ _ _ _ _ _ _ _ _ _ _ [.int (zg (zf s 84 5 ((s.1 84 5) + 1)) 57 a1), .ref 39] _ _
    refine zn_zt [.ref 39, .int (zg (zf s 84 5 ((s.1 84 5) + 1)) 57 a1)] [] (c := []) rfl rfl rfl rfl rfl (Zt.imp (zp_49 hd (Or.inr rfl)) (fun vq sq hq => ?_))
    obtain ⟨rfl, hq⟩ := hq
    rw [hq]
    change Zn _ _ _ _ _ _ _ _ _ _ _ [.int (zStr (zf s 84 5 ((s.1 84 5) + 1)) 39 (zg (zf s 84 5 ((s.1 84 5) + 1)) 57 a1))] _ _
    refine zn_brP rfl rfl ⟨fun hcn => ?_, fun hcn => ?_⟩
    · replace h := h.1 ((i_eq (x := zStr (zf s 84 5 ((s.1 84 5) + 1)) 39 (zg (zf s 84 5 ((s.1 84 5) + 1)) 57 a1)) (y := 0) rfl (show (0 : Int32).toInt = 0 by decide)).mp hcn)
      refine zn_ld rfl rfl rfl ?_
      refine zn_get (v := .int ((zf s 84 5 ((s.1 84 5) + 1)).1 84 5)) rfl (zv_I (a := 84) rfl rfl) ?_
      refine zn_c [.int 1, .int ((zf s 84 5 ((s.1 84 5) + 1)).1 84 5)] (xo_push (.int 1)) rfl rfl ?_
      replace h := h _ (i_add (x := (zf s 84 5 ((s.1 84 5) + 1)).1 84 5) (y := 1) rfl (show (1 : Int32).toInt = 1 by decide))
      refine zn_c [.int (((zf s 84 5 ((s.1 84 5) + 1)).1 84 5) + 1)] xo_iadd rfl rfl ?_
      refine zn_st [.ref 84, .int a1, .int a2, .int (s.1 84 5), .int (((zf s 84 5 ((s.1 84 5) + 1)).1 84 5) + 1), .null, .null, .null, .null] rfl rfl rfl ?_
      refine zn_ld rfl rfl rfl ?_
      refine zn_get (v := .ref 39) rfl (zv_C (a := 84) (n := 0) rfl rfl rfl) ?_
      refine zn_get (v := .int ((zf s 84 5 ((s.1 84 5) + 1)).1 39 10)) rfl (zv_I (a := 39) rfl rfl) ?_
      refine zn_st [.ref 84, .int a1, .int a2, .int (s.1 84 5), .int (((zf s 84 5 ((s.1 84 5) + 1)).1 84 5) + 1), .int ((zf s 84 5 ((s.1 84 5) + 1)).1 39 10), .null, .null, .null] rfl rfl rfl ?_
      refine zn_ld rfl rfl rfl ?_
      refine zn_ld rfl rfl rfl ?_
      refine zn_get (v := .ref 83) rfl (zv_R (a := 84) rfl rfl) ?_
      refine zn_ld rfl rfl rfl ?_
      refine zn_c [.int 1, .int (((zf s 84 5 ((s.1 84 5) + 1)).1 84 5) + 1), .ref 83, .ref 84] (xo_push (.int 1)) rfl rfl ?_
      refine zn_zt [.ref 83, .int (((zf s 84 5 ((s.1 84 5) + 1)).1 84 5) + 1), .int 1] [.ref 84] rfl rfl rfl rfl rfl (Zt.imp h (fun v4 s5 h => ?_))
      obtain ⟨x6, rfl, h⟩ := h
      change Zn _ _ _ _ _ _ _ _ _ _ _ [.int x6, .ref 84] _ _
      refine zn_c [.int 1, .int x6, .ref 84] (xo_push (.int 1)) rfl rfl ?_
      replace h := h _ (i_add (x := x6) (y := 1) rfl (show (1 : Int32).toInt = 1 by decide))
      refine zn_c [.int (x6 + 1), .ref 84] xo_iadd rfl rfl ?_
      refine zn_putI (a := 84) rfl rfl rfl rfl ⟨Int32.le_toInt _, Int.le_of_lt_add_one (Int32.toInt_lt _)⟩ rfl rfl rfl ?_
      replace h := h _ rfl
      refine zn_ld rfl rfl rfl ?_
      refine zn_get (v := .ref 83) rfl (zv_R (a := 84) rfl rfl) ?_
      refine zn_ld rfl rfl rfl ?_
      refine zn_ld rfl rfl rfl ?_
      refine zn_get (v := .ref 39) rfl (zv_C (a := 84) (n := 0) rfl rfl rfl) ?_
      refine zn_get (v := .int ((zf s5 84 5 (x6 + 1)).1 39 10)) rfl (zv_I (a := 39) rfl rfl) ?_
      refine zn_zt [.ref 83, .int ((zf s 84 5 ((s.1 84 5) + 1)).1 39 10), .int ((zf s5 84 5 (x6 + 1)).1 39 10)] [] rfl rfl rfl rfl rfl (Zt.imp h (fun v9 s10 h => ?_))
      obtain ⟨rfl, h⟩ := h
      change Zn _ _ _ _ _ _ _ _ _ _ _ [] _ _
      refine zn_ld rfl rfl rfl ?_
      refine zn_get (v := .ref 39) rfl (zv_C (a := 84) (n := 0) rfl rfl rfl) ?_
      refine zn_get (v := .int (s10.1 39 14)) rfl (zv_I (a := 39) rfl rfl) ?_
      refine zn_brN rfl rfl ⟨fun hcn => ?_, fun hcn => ?_⟩
      · replace h := h.1 (fun q => hcn ((i_eq (x := s10.1 39 14) (y := 0) rfl (show (0 : Int32).toInt = 0 by decide)).mpr q))
        exact m_8_106_39 hd  h
      · replace h := h.2 ((i_eq (x := s10.1 39 14) (y := 0) rfl (show (0 : Int32).toInt = 0 by decide)).mp hcn)
        refine zn_ld rfl rfl rfl ?_
        refine zn_get (v := .ref 39) rfl (zv_C (a := 84) (n := 0) rfl rfl rfl) ?_
        refine zn_ld rfl rfl rfl ?_
        refine zn_get (v := .ref 39) rfl (zv_C (a := 84) (n := 0) rfl rfl rfl) ?_
        refine zn_get (v := .ref 57) rfl (zv_R (a := 39) rfl rfl) ?_
        refine zn_ld rfl rfl rfl ?_
        refine zn_row ((zf s 84 5 ((s.1 84 5) + 1)).1 39 10) [.ref 39] (a := 57) hd rfl rfl rfl rfl ?_
        change Zn _ _ _ _ _ _ _ _ _ _ _ [.int (zg s10 57 ((zf s 84 5 ((s.1 84 5) + 1)).1 39 10)), .ref 39] _ _
        refine zn_zt [.ref 39, .int (zg s10 57 ((zf s 84 5 ((s.1 84 5) + 1)).1 39 10))] [] (c := []) rfl rfl rfl rfl rfl (Zt.imp (zp_49 hd (Or.inr rfl)) (fun vq sq hq => ?_))
        obtain ⟨rfl, hq⟩ := hq
        rw [hq]
        change Zn _ _ _ _ _ _ _ _ _ _ _ [.int (zStr s10 39 (zg s10 57 ((zf s 84 5 ((s.1 84 5) + 1)).1 39 10)))] _ _
        refine zn_brP rfl rfl ⟨fun hcn => ?_, fun hcn => ?_⟩
        · replace h := h.1 ((i_eq (x := zStr s10 39 (zg s10 57 ((zf s 84 5 ((s.1 84 5) + 1)).1 39 10))) (y := 0) rfl (show (0 : Int32).toInt = 0 by decide)).mp hcn)
          exact m_8_106_39 hd  h
        · replace h := h.2 (fun q => hcn ((i_eq (x := zStr s10 39 (zg s10 57 ((zf s 84 5 ((s.1 84 5) + 1)).1 39 10))) (y := 0) rfl (show (0 : Int32).toInt = 0 by decide)).mpr q))
          refine zn_ld rfl rfl rfl ?_
          refine zn_get (v := .ref 39) rfl (zv_C (a := 84) (n := 0) rfl rfl rfl) ?_
          refine zn_ld rfl rfl rfl ?_
          refine zn_get (v := .ref 75) rfl (zv_R (a := 84) rfl rfl) ?_
          refine zn_ld rfl rfl rfl ?_
          refine zn_ld rfl rfl rfl ?_
          refine zn_get (v := .ref 75) rfl (zv_R (a := 84) rfl rfl) ?_
          refine zn_ld rfl rfl rfl ?_
          refine zn_zt [.ref 75, .int a1] [.int ((zf s 84 5 ((s.1 84 5) + 1)).1 39 10), .ref 75, .ref 39] rfl rfl rfl rfl rfl (Zt.imp h (fun v11 s12 h => ?_))
          obtain ⟨x13, rfl, h⟩ := h
          change Zn _ _ _ _ _ _ _ _ _ _ _ [.int x13, .int ((zf s 84 5 ((s.1 84 5) + 1)).1 39 10), .ref 75, .ref 39] _ _
          refine zn_zt [.ref 75, .int ((zf s 84 5 ((s.1 84 5) + 1)).1 39 10), .int x13] [.ref 39] rfl rfl rfl rfl rfl (Zt.imp h (fun v14 s15 h => ?_))
          obtain ⟨x16, rfl, h⟩ := h
          change Zn _ _ _ _ _ _ _ _ _ _ _ [.int x16, .ref 39] _ _
          refine zn_ld rfl rfl rfl ?_
          refine zn_zt [.ref 39, .int x16, .int (((zf s 84 5 ((s.1 84 5) + 1)).1 84 5) + 1)] [] rfl rfl rfl rfl rfl (Zt.imp h (fun v17 s18 h => ?_))
          obtain ⟨rfl, h⟩ := h
          change Zn _ _ _ _ _ _ _ _ _ _ _ [] _ _
          exact m_8_106_39 hd  h
    · replace h := h.2 (fun q => hcn ((i_eq (x := zStr (zf s 84 5 ((s.1 84 5) + 1)) 39 (zg (zf s 84 5 ((s.1 84 5) + 1)) 57 a1)) (y := 0) rfl (show (0 : Int32).toInt = 0 by decide)).mpr q))
      refine zn_ld rfl rfl rfl ?_
      refine zn_get (v := .ref 39) rfl (zv_C (a := 84) (n := 0) rfl rfl rfl) ?_
      refine zn_c [.int 6, .ref 39] (xo_push (.int 6)) rfl rfl ?_
      refine zn_ld rfl rfl rfl ?_
      refine zn_zt [.ref 39, .int 6, .int (s.1 84 5)] [] rfl rfl rfl rfl rfl (Zt.imp h (fun v19 s20 h => ?_))
      obtain ⟨rfl, h⟩ := h
      change Zn _ _ _ _ _ _ _ _ _ _ _ [] _ _
      refine zn_ld rfl rfl rfl ?_
      exact zn_retI rfl h
  · replace h := h.2 (fun q => hcn ((i_eq (x := zg (zf s 84 5 ((s.1 84 5) + 1)) 43 ((zf s 84 5 ((s.1 84 5) + 1)).1 84 5)) (y := 40) rfl (show (40 : Int32).toInt = 40 by decide)).mpr q))
    refine zn_ld rfl rfl rfl ?_
    refine zn_get (v := .ref 43) rfl (zv_C (a := 84) (n := 2) rfl rfl rfl) ?_
    refine zn_ld rfl rfl rfl ?_
    refine zn_get (v := .int ((zf s 84 5 ((s.1 84 5) + 1)).1 84 5)) rfl (zv_I (a := 84) rfl rfl) ?_
    refine zn_c [.int 1, .int ((zf s 84 5 ((s.1 84 5) + 1)).1 84 5), .ref 43] (xo_push (.int 1)) rfl rfl ?_
    replace h := h _ (i_add (x := (zf s 84 5 ((s.1 84 5) + 1)).1 84 5) (y := 1) rfl (show (1 : Int32).toInt = 1 by decide))
    refine zn_c [.int (((zf s 84 5 ((s.1 84 5) + 1)).1 84 5) + 1), .ref 43] xo_iadd rfl rfl ?_
    refine zn_row (((zf s 84 5 ((s.1 84 5) + 1)).1 84 5) + 1) [] (a := 43) hd rfl rfl rfl rfl ?_
    change Zn _ _ _ _ _ _ _ _ _ _ _ [.int (zg (zf s 84 5 ((s.1 84 5) + 1)) 43 (((zf s 84 5 ((s.1 84 5) + 1)).1 84 5) + 1))] _ _
    refine zn_st [.ref 84, .int a1, .int a2, .int (s.1 84 5), .int (zg (zf s 84 5 ((s.1 84 5) + 1)) 43 (((zf s 84 5 ((s.1 84 5) + 1)).1 84 5) + 1)), .null, .null, .null, .null] rfl rfl rfl ?_
    refine zn_ld rfl rfl rfl ?_
    refine zn_c [.int 40, .int (zg (zf s 84 5 ((s.1 84 5) + 1)) 43 (((zf s 84 5 ((s.1 84 5) + 1)).1 84 5) + 1))] (xo_push (.int 40)) rfl rfl ?_
    refine zn_brP rfl rfl ⟨fun hcn => ?_, fun hcn => ?_⟩
    · replace h := h.1 ((i_eq (x := zg (zf s 84 5 ((s.1 84 5) + 1)) 43 (((zf s 84 5 ((s.1 84 5) + 1)).1 84 5) + 1)) (y := 40) rfl (show (40 : Int32).toInt = 40 by decide)).mp hcn)
      exact m_8_30_39 hd  h
    · replace h := h.2 (fun q => hcn ((i_eq (x := zg (zf s 84 5 ((s.1 84 5) + 1)) 43 (((zf s 84 5 ((s.1 84 5) + 1)).1 84 5) + 1)) (y := 40) rfl (show (40 : Int32).toInt = 40 by decide)).mpr q))
      refine zn_ld rfl rfl rfl ?_
      refine zn_c [.int 91, .int (zg (zf s 84 5 ((s.1 84 5) + 1)) 43 (((zf s 84 5 ((s.1 84 5) + 1)).1 84 5) + 1))] (xo_push (.int 91)) rfl rfl ?_
      refine zn_brN rfl rfl ⟨fun hcn => ?_, fun hcn => ?_⟩
      · replace h := h.1 (fun q => hcn ((i_eq (x := zg (zf s 84 5 ((s.1 84 5) + 1)) 43 (((zf s 84 5 ((s.1 84 5) + 1)).1 84 5) + 1)) (y := 91) rfl (show (91 : Int32).toInt = 91 by decide)).mpr q))
        refine zn_ld rfl rfl rfl ?_
        refine zn_ld rfl rfl rfl ?_
        refine zn_ld rfl rfl rfl ?_
        refine zn_zt [.ref 84, .int a1, .int (s.1 84 5)] [] rfl rfl rfl rfl rfl (Zt.imp h (fun v22 s23 h => ?_))
        obtain ⟨x24, rfl, h⟩ := h
        change Zn _ _ _ _ _ _ _ _ _ _ _ [.int x24] _ _
        exact m_8_39_39 hd  h
      · replace h := h.2 ((i_eq (x := zg (zf s 84 5 ((s.1 84 5) + 1)) 43 (((zf s 84 5 ((s.1 84 5) + 1)).1 84 5) + 1)) (y := 91) rfl (show (91 : Int32).toInt = 91 by decide)).mp hcn)
        exact m_8_30_39 hd  h
theorem zq_8_39 {d : Nat} {a1 : Int32} {a2 : Int32} {s : zS} {Q : Option Value → zS → Prop} (h : v_8_0 (fun j => Zt (d + 8) (wd 39 j) j) 39 a1 a2 s Q) : Zt (d + 9) ([(84, 2, 39), (84, 3, 40), (84, 4, 43), (83, 1, 39), (83, 2, 40), (75, 0, 39), (75, 1, 57), (75, 2, 61)] : zW) 8 [.ref 84, .int a1, .int a2] s Q := zt_of (E := xE_8) (L := xL_1) (ml := 6) (ret := some .int) rfl rfl rfl (m_8_0_39 rfl h)
theorem zc_8 {d P : Nat} (hP : P = 3 ∨ P = 39) {a1 : Int32} {a2 : Int32} {s : zS} {Q : Option Value → zS → Prop} (h : v_8_0 (fun j => Zt (d + 8) (wd P j) j) P a1 a2 s Q) : Zt (d + 9) (wd P 8) 8 [.ref 84, .int a1, .int a2] s Q := by
  rcases hP with rfl | rfl
  · exact zq_8_3 h
  · exact zq_8_39 h
/-! FeatherBench$Bodies.variable -/
def v_9_74 (T : Nat → List Value → zS → (Option Value → zS → Prop) → Prop) (P : Nat) (R74 : Int32 → Int32 → Int32 → Int32 → Int32 → zS → Prop) (a1 : Int32) (a2 : Int32) (a3 : Int32) (a4 : Int32) (a5 : Int32) (s : zS) (Q : Option Value → zS → Prop) : Prop :=
  (a3.toInt ≤ a5.toInt → T 38 [.ref P, .int 2, .int a2] s (fun v1 s2 => v1 = none ∧ (Q (some (.int (s2.1 84 7))) s2))) ∧ (¬ (a3.toInt ≤ a5.toInt) → ∀ x3 : Int32, (-2147483648 ≤ a4.toInt + a5.toInt ∧ a4.toInt + a5.toInt ≤ 2147483647 → x3.toInt = a4.toInt + a5.toInt) → (¬ ((zg s (P + 10) (zg s (P + 30) (x3 * 5 + 0))).toInt = a1.toInt) → ∀ x5 : Int32, (-2147483648 ≤ a5.toInt + 1 ∧ a5.toInt + 1 ≤ 2147483647 → x5.toInt = a5.toInt + 1) → R74 a1 a2 a3 a4 x5 s) ∧ ((zg s (P + 10) (zg s (P + 30) (x3 * 5 + 0))).toInt = a1.toInt → ∀ x6 : Int32, (-2147483648 ≤ a5.toInt + 1 ∧ a5.toInt + 1 ≤ 2147483647 → x6.toInt = a5.toInt + 1) → T 59 [.ref P, .int 1, .int x6, .int 0, .int 0, .int 0, .int 0] s (fun v7 s8 => v7 = none ∧ (∀ x9 : Int32, (-2147483648 ≤ a4.toInt + a5.toInt ∧ a4.toInt + a5.toInt ≤ 2147483647 → x9.toInt = a4.toInt + a5.toInt) → Q (some (.int (zg s8 (P + 30) (x9 * 5 + 3)))) s8))))
def vl_9_74 (T : Nat → List Value → zS → (Option Value → zS → Prop) → Prop) (P : Nat)  (a1 : Int32) (a2 : Int32) (a3 : Int32) (a4 : Int32) (a5 : Int32) (s : zS) (Q : Option Value → zS → Prop) : Prop :=
  ∃ (I : Int32 → Int32 → Int32 → Int32 → Int32 → zS → Prop) (μ : Int32 → Int32 → Int32 → Int32 → Int32 → zS → Nat), I a1 a2 a3 a4 a5 s ∧ ∀ (a1 : Int32) (a2 : Int32) (a3 : Int32) (a4 : Int32) (a5 : Int32) (s : zS), I a1 a2 a3 a4 a5 s → v_9_74 T P (fun a1' a2' a3' a4' a5' s' => I a1' a2' a3' a4' a5' s' ∧ μ a1' a2' a3' a4' a5' s' < μ a1 a2 a3 a4 a5 s) a1 a2 a3 a4 a5 s Q
def v_9_55 (T : Nat → List Value → zS → (Option Value → zS → Prop) → Prop) (P : Nat)  (a1 : Int32) (a2 : Int32) (t0 : Int32) (s : zS) (Q : Option Value → zS → Prop) : Prop :=
  ∀ x3 : Int32, (-2147483648 ≤ (zg s (P + 28) ((s.1 75 6) * 5 + 2)).toInt + (zg s (P + 28) ((s.1 75 6) * 5 + 3)).toInt ∧ (zg s (P + 28) ((s.1 75 6) * 5 + 2)).toInt + (zg s (P + 28) ((s.1 75 6) * 5 + 3)).toInt ≤ 2147483647 → x3.toInt = (zg s (P + 28) ((s.1 75 6) * 5 + 2)).toInt + (zg s (P + 28) ((s.1 75 6) * 5 + 3)).toInt) → vl_9_74 T P  a1 a2 t0 x3 0 s Q
def v_9_43 (T : Nat → List Value → zS → (Option Value → zS → Prop) → Prop) (P : Nat)  (a1 : Int32) (a2 : Int32) (s : zS) (Q : Option Value → zS → Prop) : Prop :=
  (0 ≤ (s.1 84 6).toInt → v_9_55 T P  a1 a2 (zg s (P + 28) ((s.1 75 6) * 5 + 4)) s Q) ∧ (¬ (0 ≤ (s.1 84 6).toInt) → v_9_55 T P  a1 a2 0 s Q)
def v_9_0 (T : Nat → List Value → zS → (Option Value → zS → Prop) → Prop) (P : Nat)   (s : zS) (Q : Option Value → zS → Prop) : Prop :=
  ∀ x1 : Int32, (-2147483648 ≤ (s.1 84 5).toInt + 1 ∧ (s.1 84 5).toInt + 1 ≤ 2147483647 → x1.toInt = (s.1 84 5).toInt + 1) → ∀ s2, s2 = zf s 84 5 x1 → ((s2.1 84 6).toInt < 0 → v_9_43 T P  (zg s (P + 10) (s.1 84 5)) (s.1 84 5) s2 Q) ∧ (¬ ((s2.1 84 6).toInt < 0) → (¬ ((zg s2 (P + 10) (zg s2 (P + 26) ((s2.1 84 6) * 10 + 1))).toInt = (zg s (P + 10) (s.1 84 5)).toInt) → v_9_43 T P  (zg s (P + 10) (s.1 84 5)) (s.1 84 5) s2 Q) ∧ ((zg s2 (P + 10) (zg s2 (P + 26) ((s2.1 84 6) * 10 + 1))).toInt = (zg s (P + 10) (s.1 84 5)).toInt → T 59 [.ref P, .int 1, .int 0, .int 0, .int 0, .int 0, .int 0] s2 (fun v4 s5 => v4 = none ∧ (Q (some (.int (s5.1 84 7))) s5))))
set_option maxRecDepth 20000 in
theorem m_9_74_3 {d d0 : Nat} (hd : d = d0 + 8) {R74 : Int32 → Int32 → Int32 → Int32 → Int32 → zS → Prop} {a1 : Int32} {a2 : Int32} {a3 : Int32} {a4 : Int32} {a5 : Int32} {s : zS} {Q : Option Value → zS → Prop} (r74 : ∀ a1 a2 a3 a4 a5 s, R74 a1 a2 a3 a4 a5 s → Zn d [] [(3, 99), (3, 98)] ([(84, 2, 3), (84, 3, 4), (84, 4, 7), (83, 1, 3), (83, 2, 4), (75, 0, 3), (75, 1, 21), (75, 2, 25)] : zW) ([(84, 2, 3), (84, 3, 4), (84, 4, 7), (83, 1, 3), (83, 2, 4), (75, 0, 3), (75, 1, 21), (75, 2, 25)] : zW) xL_1 6 (some .int) xE_9 (xE_9.drop 74) [.ref 84, .int a1, .int a2, .int a3, .int a4, .int a5, .null] [] s Q) (h : v_9_74 (fun j => Zt d (wd 3 j) j) 3 R74 a1 a2 a3 a4 a5 s Q) : Zn d [] [(3, 99), (3, 98)] ([(84, 2, 3), (84, 3, 4), (84, 4, 7), (83, 1, 3), (83, 2, 4), (75, 0, 3), (75, 1, 21), (75, 2, 25)] : zW) ([(84, 2, 3), (84, 3, 4), (84, 4, 7), (83, 1, 3), (83, 2, 4), (75, 0, 3), (75, 1, 21), (75, 2, 25)] : zW) xL_1 6 (some .int) xE_9 (xE_9.drop 74) [.ref 84, .int a1, .int a2, .int a3, .int a4, .int a5, .null] [] s Q := by
  unfold v_9_74 at h
  refine zn_ld rfl rfl rfl ?_
  refine zn_ld rfl rfl rfl ?_
  refine zn_brP rfl rfl ⟨fun hcn => ?_, fun hcn => ?_⟩
  · replace h := h.1 ((i_le (x := a3) (y := a5) rfl rfl).mp hcn)
    refine zn_ld rfl rfl rfl ?_
    refine zn_get (v := .ref 3) rfl (zv_C (a := 84) (n := 0) rfl rfl rfl) ?_
    refine zn_c [.int 2, .ref 3] (xo_push (.int 2)) rfl rfl ?_
    refine zn_ld rfl rfl rfl ?_
    refine zn_zt [.ref 3, .int 2, .int a2] [] rfl rfl rfl rfl rfl (Zt.imp h (fun v1 s2 h => ?_))
    obtain ⟨rfl, h⟩ := h
    change Zn _ _ _ _ _ _ _ _ _ _ _ [] _ _
    refine zn_ld rfl rfl rfl ?_
    refine zn_get (v := .int (s2.1 84 7)) rfl (zv_I (a := 84) rfl rfl) ?_
    exact zn_retI rfl h
  · replace h := h.2 (fun q => hcn ((i_le (x := a3) (y := a5) rfl rfl).mpr q))
    refine zn_ld rfl rfl rfl ?_
    refine zn_get (v := .ref 4) rfl (zv_C (a := 84) (n := 1) rfl rfl rfl) ?_
    refine zn_get (v := .ref 13) rfl (zv_R (a := 4) rfl rfl) ?_
    refine zn_ld rfl rfl rfl ?_
    refine zn_get (v := .ref 3) rfl (zv_C (a := 84) (n := 0) rfl rfl rfl) ?_
    refine zn_ld rfl rfl rfl ?_
    refine zn_ld rfl rfl rfl ?_
    replace h := h _ (i_add (x := a4) (y := a5) rfl rfl)
    refine zn_c [.int (a4 + a5), .ref 3, .ref 13] xo_iadd rfl rfl ?_
    refine zn_c [.int 0, .int (a4 + a5), .ref 3, .ref 13] (xo_push (.int 0)) rfl rfl ?_
    refine zn_zt [.ref 3, .int (a4 + a5), .int 0] [.ref 13] (c := []) rfl rfl rfl rfl rfl (Zt.imp (zp_42 hd (Or.inl rfl)) (fun vq sq hq => ?_))
    obtain ⟨rfl, hq⟩ := hq
    rw [hq]
    change Zn _ _ _ _ _ _ _ _ _ _ _ [.int (zg s 33 ((a4 + a5) * 5 + 0)), .ref 13] _ _
    refine zn_row (zg s 33 ((a4 + a5) * 5 + 0)) [] (a := 13) hd rfl rfl rfl rfl ?_
    change Zn _ _ _ _ _ _ _ _ _ _ _ [.int (zg s 13 (zg s 33 ((a4 + a5) * 5 + 0)))] _ _
    refine zn_ld rfl rfl rfl ?_
    refine zn_brN rfl rfl ⟨fun hcn => ?_, fun hcn => ?_⟩
    · replace h := h.1 (fun q => hcn ((i_eq (x := zg s 13 (zg s 33 ((a4 + a5) * 5 + 0))) (y := a1) rfl rfl).mpr q))
      replace h := h _ (i_add (x := a5) (y := 1) rfl (show (1 : Int32).toInt = 1 by decide))
      refine zn_inc [.ref 84, .int a1, .int a2, .int a3, .int a4, .int (a5 + 1), .null] rfl rfl rfl rfl ?_
      refine zn_go rfl ?_
      exact r74 a1 a2 a3 a4 (a5 + 1) s h
    · replace h := h.2 ((i_eq (x := zg s 13 (zg s 33 ((a4 + a5) * 5 + 0))) (y := a1) rfl rfl).mp hcn)
      refine zn_ld rfl rfl rfl ?_
      refine zn_get (v := .ref 3) rfl (zv_C (a := 84) (n := 0) rfl rfl rfl) ?_
      refine zn_c [.int 1, .ref 3] (xo_push (.int 1)) rfl rfl ?_
      refine zn_ld rfl rfl rfl ?_
      refine zn_c [.int 1, .int a5, .int 1, .ref 3] (xo_push (.int 1)) rfl rfl ?_
      replace h := h _ (i_add (x := a5) (y := 1) rfl (show (1 : Int32).toInt = 1 by decide))
      refine zn_c [.int (a5 + 1), .int 1, .ref 3] xo_iadd rfl rfl ?_
      refine zn_c [.int 0, .int (a5 + 1), .int 1, .ref 3] (xo_push (.int 0)) rfl rfl ?_
      refine zn_c [.int 0, .int 0, .int (a5 + 1), .int 1, .ref 3] (xo_push (.int 0)) rfl rfl ?_
      refine zn_c [.int 0, .int 0, .int 0, .int (a5 + 1), .int 1, .ref 3] (xo_push (.int 0)) rfl rfl ?_
      refine zn_c [.int 0, .int 0, .int 0, .int 0, .int (a5 + 1), .int 1, .ref 3] (xo_push (.int 0)) rfl rfl ?_
      refine zn_zt [.ref 3, .int 1, .int (a5 + 1), .int 0, .int 0, .int 0, .int 0] [] rfl rfl rfl rfl rfl (Zt.imp h (fun v7 s8 h => ?_))
      obtain ⟨rfl, h⟩ := h
      change Zn _ _ _ _ _ _ _ _ _ _ _ [] _ _
      refine zn_ld rfl rfl rfl ?_
      refine zn_get (v := .ref 3) rfl (zv_C (a := 84) (n := 0) rfl rfl rfl) ?_
      refine zn_ld rfl rfl rfl ?_
      refine zn_ld rfl rfl rfl ?_
      replace h := h _ (i_add (x := a4) (y := a5) rfl rfl)
      refine zn_c [.int (a4 + a5), .ref 3] xo_iadd rfl rfl ?_
      refine zn_c [.int 3, .int (a4 + a5), .ref 3] (xo_push (.int 3)) rfl rfl ?_
      refine zn_zt [.ref 3, .int (a4 + a5), .int 3] [] (c := []) rfl rfl rfl rfl rfl (Zt.imp (zp_42 hd (Or.inl rfl)) (fun vq sq hq => ?_))
      obtain ⟨rfl, hq⟩ := hq
      rw [hq]
      change Zn _ _ _ _ _ _ _ _ _ _ _ [.int (zg s8 33 ((a4 + a5) * 5 + 3))] _ _
      exact zn_retI rfl h
theorem ml_9_74_3 {d d0 : Nat} (hd : d = d0 + 8)  {a1 : Int32} {a2 : Int32} {a3 : Int32} {a4 : Int32} {a5 : Int32} {s : zS} {Q : Option Value → zS → Prop}  (h : vl_9_74 (fun j => Zt d (wd 3 j) j) 3  a1 a2 a3 a4 a5 s Q) : Zn d [] [(3, 99), (3, 98)] ([(84, 2, 3), (84, 3, 4), (84, 4, 7), (83, 1, 3), (83, 2, 4), (75, 0, 3), (75, 1, 21), (75, 2, 25)] : zW) ([(84, 2, 3), (84, 3, 4), (84, 4, 7), (83, 1, 3), (83, 2, 4), (75, 0, 3), (75, 1, 21), (75, 2, 25)] : zW) xL_1 6 (some .int) xE_9 (xE_9.drop 74) [.ref 84, .int a1, .int a2, .int a3, .int a4, .int a5, .null] [] s Q := by
  obtain ⟨I, μ, h0, h1⟩ := h
  have key : ∀ (n : Nat) (a1 : Int32) (a2 : Int32) (a3 : Int32) (a4 : Int32) (a5 : Int32) (s : zS), μ a1 a2 a3 a4 a5 s = n → I a1 a2 a3 a4 a5 s → Zn d [] [(3, 99), (3, 98)] ([(84, 2, 3), (84, 3, 4), (84, 4, 7), (83, 1, 3), (83, 2, 4), (75, 0, 3), (75, 1, 21), (75, 2, 25)] : zW) ([(84, 2, 3), (84, 3, 4), (84, 4, 7), (83, 1, 3), (83, 2, 4), (75, 0, 3), (75, 1, 21), (75, 2, 25)] : zW) xL_1 6 (some .int) xE_9 (xE_9.drop 74) [.ref 84, .int a1, .int a2, .int a3, .int a4, .int a5, .null] [] s Q := by
    intro n
    induction n using Nat.strongRecOn with
    | ind n ih =>
      intro a1 a2 a3 a4 a5 s e hI
      exact m_9_74_3 hd (fun a1' a2' a3' a4' a5' s' q => ih _ (by rw [← e]; exact q.2) a1' a2' a3' a4' a5' s' rfl q.1) (h1 a1 a2 a3 a4 a5 s hI)
  exact key _ a1 a2 a3 a4 a5 s rfl h0
set_option maxRecDepth 20000 in
theorem m_9_55_3 {d d0 : Nat} (hd : d = d0 + 8)  {a1 : Int32} {a2 : Int32} {t0 : Int32} {s : zS} {Q : Option Value → zS → Prop}  (h : v_9_55 (fun j => Zt d (wd 3 j) j) 3  a1 a2 t0 s Q) : Zn d [] [(3, 99), (3, 98)] ([(84, 2, 3), (84, 3, 4), (84, 4, 7), (83, 1, 3), (83, 2, 4), (75, 0, 3), (75, 1, 21), (75, 2, 25)] : zW) ([(84, 2, 3), (84, 3, 4), (84, 4, 7), (83, 1, 3), (83, 2, 4), (75, 0, 3), (75, 1, 21), (75, 2, 25)] : zW) xL_1 6 (some .int) xE_9 (xE_9.drop 55) [.ref 84, .int a1, .int a2, .null, .null, .null, .null] [.int t0] s Q := by
  unfold v_9_55 at h
  refine zn_st [.ref 84, .int a1, .int a2, .int t0, .null, .null, .null] rfl rfl rfl ?_
  refine zn_ld rfl rfl rfl ?_
  refine zn_get (v := .ref 3) rfl (zv_C (a := 84) (n := 0) rfl rfl rfl) ?_
  refine zn_ld rfl rfl rfl ?_
  refine zn_get (v := .ref 75) rfl (zv_R (a := 84) rfl rfl) ?_
  refine zn_get (v := .int (s.1 75 6)) rfl (zv_I (a := 75) rfl rfl) ?_
  refine zn_c [.int 2, .int (s.1 75 6), .ref 3] (xo_push (.int 2)) rfl rfl ?_
  refine zn_zt [.ref 3, .int (s.1 75 6), .int 2] [] (c := []) rfl rfl rfl rfl rfl (Zt.imp (zp_41 hd (Or.inl rfl)) (fun vq sq hq => ?_))
  obtain ⟨rfl, hq⟩ := hq
  rw [hq]
  change Zn _ _ _ _ _ _ _ _ _ _ _ [.int (zg s 31 ((s.1 75 6) * 5 + 2))] _ _
  refine zn_ld rfl rfl rfl ?_
  refine zn_get (v := .ref 3) rfl (zv_C (a := 84) (n := 0) rfl rfl rfl) ?_
  refine zn_ld rfl rfl rfl ?_
  refine zn_get (v := .ref 75) rfl (zv_R (a := 84) rfl rfl) ?_
  refine zn_get (v := .int (s.1 75 6)) rfl (zv_I (a := 75) rfl rfl) ?_
  refine zn_c [.int 3, .int (s.1 75 6), .ref 3, .int (zg s 31 ((s.1 75 6) * 5 + 2))] (xo_push (.int 3)) rfl rfl ?_
  refine zn_zt [.ref 3, .int (s.1 75 6), .int 3] [.int (zg s 31 ((s.1 75 6) * 5 + 2))] (c := []) rfl rfl rfl rfl rfl (Zt.imp (zp_41 hd (Or.inl rfl)) (fun vq sq hq => ?_))
  obtain ⟨rfl, hq⟩ := hq
  rw [hq]
  change Zn _ _ _ _ _ _ _ _ _ _ _ [.int (zg s 31 ((s.1 75 6) * 5 + 3)), .int (zg s 31 ((s.1 75 6) * 5 + 2))] _ _
  replace h := h _ (i_add (x := zg s 31 ((s.1 75 6) * 5 + 2)) (y := zg s 31 ((s.1 75 6) * 5 + 3)) rfl rfl)
  refine zn_c [.int ((zg s 31 ((s.1 75 6) * 5 + 2)) + (zg s 31 ((s.1 75 6) * 5 + 3)))] xo_iadd rfl rfl ?_
  refine zn_st [.ref 84, .int a1, .int a2, .int t0, .int ((zg s 31 ((s.1 75 6) * 5 + 2)) + (zg s 31 ((s.1 75 6) * 5 + 3))), .null, .null] rfl rfl rfl ?_
  refine zn_c [.int 0] (xo_push (.int 0)) rfl rfl ?_
  refine zn_st [.ref 84, .int a1, .int a2, .int t0, .int ((zg s 31 ((s.1 75 6) * 5 + 2)) + (zg s 31 ((s.1 75 6) * 5 + 3))), .int 0, .null] rfl rfl rfl ?_
  exact ml_9_74_3 hd  h
set_option maxRecDepth 20000 in
theorem m_9_43_3 {d d0 : Nat} (hd : d = d0 + 8)  {a1 : Int32} {a2 : Int32} {s : zS} {Q : Option Value → zS → Prop}  (h : v_9_43 (fun j => Zt d (wd 3 j) j) 3  a1 a2 s Q) : Zn d [] [(3, 99), (3, 98)] ([(84, 2, 3), (84, 3, 4), (84, 4, 7), (83, 1, 3), (83, 2, 4), (75, 0, 3), (75, 1, 21), (75, 2, 25)] : zW) ([(84, 2, 3), (84, 3, 4), (84, 4, 7), (83, 1, 3), (83, 2, 4), (75, 0, 3), (75, 1, 21), (75, 2, 25)] : zW) xL_1 6 (some .int) xE_9 (xE_9.drop 43) [.ref 84, .int a1, .int a2, .null, .null, .null, .null] [] s Q := by
  unfold v_9_43 at h
  refine zn_ld rfl rfl rfl ?_
  refine zn_get (v := .int (s.1 84 6)) rfl (zv_I (a := 84) rfl rfl) ?_
  refine zn_brP rfl rfl ⟨fun hcn => ?_, fun hcn => ?_⟩
  · replace h := h.1 ((i_le (x := 0) (y := s.1 84 6) (show (0 : Int32).toInt = 0 by decide) rfl).mp hcn)
    refine zn_ld rfl rfl rfl ?_
    refine zn_get (v := .ref 3) rfl (zv_C (a := 84) (n := 0) rfl rfl rfl) ?_
    refine zn_ld rfl rfl rfl ?_
    refine zn_get (v := .ref 75) rfl (zv_R (a := 84) rfl rfl) ?_
    refine zn_get (v := .int (s.1 75 6)) rfl (zv_I (a := 75) rfl rfl) ?_
    refine zn_c [.int 4, .int (s.1 75 6), .ref 3] (xo_push (.int 4)) rfl rfl ?_
    refine zn_zt [.ref 3, .int (s.1 75 6), .int 4] [] (c := []) rfl rfl rfl rfl rfl (Zt.imp (zp_41 hd (Or.inl rfl)) (fun vq sq hq => ?_))
    obtain ⟨rfl, hq⟩ := hq
    rw [hq]
    change Zn _ _ _ _ _ _ _ _ _ _ _ [.int (zg s 31 ((s.1 75 6) * 5 + 4))] _ _
    exact m_9_55_3 hd  h
  · replace h := h.2 (fun q => hcn ((i_le (x := 0) (y := s.1 84 6) (show (0 : Int32).toInt = 0 by decide) rfl).mpr q))
    refine zn_c [.int 0] (xo_push (.int 0)) rfl rfl ?_
    refine zn_go rfl ?_
    exact m_9_55_3 hd  h
set_option maxRecDepth 20000 in
theorem m_9_0_3 {d d0 : Nat} (hd : d = d0 + 8)   {s : zS} {Q : Option Value → zS → Prop}  (h : v_9_0 (fun j => Zt d (wd 3 j) j) 3   s Q) : Zn d [] [(3, 99), (3, 98)] ([(84, 2, 3), (84, 3, 4), (84, 4, 7), (83, 1, 3), (83, 2, 4), (75, 0, 3), (75, 1, 21), (75, 2, 25)] : zW) ([(84, 2, 3), (84, 3, 4), (84, 4, 7), (83, 1, 3), (83, 2, 4), (75, 0, 3), (75, 1, 21), (75, 2, 25)] : zW) xL_1 6 (some .int) xE_9 (xE_9.drop 0) [.ref 84, .null, .null, .null, .null, .null, .null] [] s Q := by
  unfold v_9_0 at h
  refine zn_ld rfl rfl rfl ?_
  refine zn_get (v := .ref 4) rfl (zv_C (a := 84) (n := 1) rfl rfl rfl) ?_
  refine zn_get (v := .ref 13) rfl (zv_R (a := 4) rfl rfl) ?_
  refine zn_ld rfl rfl rfl ?_
  refine zn_get (v := .int (s.1 84 5)) rfl (zv_I (a := 84) rfl rfl) ?_
  refine zn_row (s.1 84 5) [] (a := 13) hd rfl rfl rfl rfl ?_
  change Zn _ _ _ _ _ _ _ _ _ _ _ [.int (zg s 13 (s.1 84 5))] _ _
  refine zn_st [.ref 84, .int (zg s 13 (s.1 84 5)), .null, .null, .null, .null, .null] rfl rfl rfl ?_
  refine zn_ld rfl rfl rfl ?_
  refine zn_get (v := .int (s.1 84 5)) rfl (zv_I (a := 84) rfl rfl) ?_
  refine zn_st [.ref 84, .int (zg s 13 (s.1 84 5)), .int (s.1 84 5), .null, .null, .null, .null] rfl rfl rfl ?_
  refine zn_ld rfl rfl rfl ?_
  refine zn_c [.ref 84, .ref 84] xo_dup rfl rfl ?_
  refine zn_get (v := .int (s.1 84 5)) rfl (zv_I (a := 84) rfl rfl) ?_
  refine zn_c [.int 1, .int (s.1 84 5), .ref 84] (xo_push (.int 1)) rfl rfl ?_
  replace h := h _ (i_add (x := s.1 84 5) (y := 1) rfl (show (1 : Int32).toInt = 1 by decide))
  refine zn_c [.int ((s.1 84 5) + 1), .ref 84] xo_iadd rfl rfl ?_
  refine zn_putI (a := 84) rfl rfl rfl rfl ⟨Int32.le_toInt _, Int.le_of_lt_add_one (Int32.toInt_lt _)⟩ rfl rfl rfl ?_
  replace h := h _ rfl
  refine zn_ld rfl rfl rfl ?_
  refine zn_get (v := .int ((zf s 84 5 ((s.1 84 5) + 1)).1 84 6)) rfl (zv_I (a := 84) rfl rfl) ?_
  refine zn_brP rfl rfl ⟨fun hcn => ?_, fun hcn => ?_⟩
  · replace h := h.1 ((i_lt (x := (zf s 84 5 ((s.1 84 5) + 1)).1 84 6) (y := 0) rfl (show (0 : Int32).toInt = 0 by decide)).mp hcn)
    exact m_9_43_3 hd  h
  · replace h := h.2 (fun q => hcn ((i_lt (x := (zf s 84 5 ((s.1 84 5) + 1)).1 84 6) (y := 0) rfl (show (0 : Int32).toInt = 0 by decide)).mpr q))
    refine zn_ld rfl rfl rfl ?_
    refine zn_get (v := .ref 4) rfl (zv_C (a := 84) (n := 1) rfl rfl rfl) ?_
    refine zn_get (v := .ref 13) rfl (zv_R (a := 4) rfl rfl) ?_
    refine zn_ld rfl rfl rfl ?_
    refine zn_get (v := .ref 3) rfl (zv_C (a := 84) (n := 0) rfl rfl rfl) ?_
    refine zn_ld rfl rfl rfl ?_
    refine zn_get (v := .int ((zf s 84 5 ((s.1 84 5) + 1)).1 84 6)) rfl (zv_I (a := 84) rfl rfl) ?_
    refine zn_c [.int 1, .int ((zf s 84 5 ((s.1 84 5) + 1)).1 84 6), .ref 3, .ref 13] (xo_push (.int 1)) rfl rfl ?_
    refine zn_zt [.ref 3, .int ((zf s 84 5 ((s.1 84 5) + 1)).1 84 6), .int 1] [.ref 13] (c := []) rfl rfl rfl rfl rfl (Zt.imp (zp_40 hd (Or.inl rfl)) (fun vq sq hq => ?_))
    obtain ⟨rfl, hq⟩ := hq
    rw [hq]
    change Zn _ _ _ _ _ _ _ _ _ _ _ [.int (zg (zf s 84 5 ((s.1 84 5) + 1)) 29 (((zf s 84 5 ((s.1 84 5) + 1)).1 84 6) * 10 + 1)), .ref 13] _ _
    refine zn_row (zg (zf s 84 5 ((s.1 84 5) + 1)) 29 (((zf s 84 5 ((s.1 84 5) + 1)).1 84 6) * 10 + 1)) [] (a := 13) hd rfl rfl rfl rfl ?_
    change Zn _ _ _ _ _ _ _ _ _ _ _ [.int (zg (zf s 84 5 ((s.1 84 5) + 1)) 13 (zg (zf s 84 5 ((s.1 84 5) + 1)) 29 (((zf s 84 5 ((s.1 84 5) + 1)).1 84 6) * 10 + 1)))] _ _
    refine zn_ld rfl rfl rfl ?_
    refine zn_brN rfl rfl ⟨fun hcn => ?_, fun hcn => ?_⟩
    · replace h := h.1 (fun q => hcn ((i_eq (x := zg (zf s 84 5 ((s.1 84 5) + 1)) 13 (zg (zf s 84 5 ((s.1 84 5) + 1)) 29 (((zf s 84 5 ((s.1 84 5) + 1)).1 84 6) * 10 + 1))) (y := zg s 13 (s.1 84 5)) rfl rfl).mpr q))
      exact m_9_43_3 hd  h
    · replace h := h.2 ((i_eq (x := zg (zf s 84 5 ((s.1 84 5) + 1)) 13 (zg (zf s 84 5 ((s.1 84 5) + 1)) 29 (((zf s 84 5 ((s.1 84 5) + 1)).1 84 6) * 10 + 1))) (y := zg s 13 (s.1 84 5)) rfl rfl).mp hcn)
      refine zn_ld rfl rfl rfl ?_
      refine zn_get (v := .ref 3) rfl (zv_C (a := 84) (n := 0) rfl rfl rfl) ?_
      refine zn_c [.int 1, .ref 3] (xo_push (.int 1)) rfl rfl ?_
      refine zn_c [.int 0, .int 1, .ref 3] (xo_push (.int 0)) rfl rfl ?_
      refine zn_c [.int 0, .int 0, .int 1, .ref 3] (xo_push (.int 0)) rfl rfl ?_
      refine zn_c [.int 0, .int 0, .int 0, .int 1, .ref 3] (xo_push (.int 0)) rfl rfl ?_
      refine zn_c [.int 0, .int 0, .int 0, .int 0, .int 1, .ref 3] (xo_push (.int 0)) rfl rfl ?_
      refine zn_c [.int 0, .int 0, .int 0, .int 0, .int 0, .int 1, .ref 3] (xo_push (.int 0)) rfl rfl ?_
      refine zn_zt [.ref 3, .int 1, .int 0, .int 0, .int 0, .int 0, .int 0] [] rfl rfl rfl rfl rfl (Zt.imp h (fun v4 s5 h => ?_))
      obtain ⟨rfl, h⟩ := h
      change Zn _ _ _ _ _ _ _ _ _ _ _ [] _ _
      refine zn_ld rfl rfl rfl ?_
      refine zn_get (v := .int (s5.1 84 7)) rfl (zv_I (a := 84) rfl rfl) ?_
      exact zn_retI rfl h
theorem zq_9_3 {d : Nat}  {s : zS} {Q : Option Value → zS → Prop} (h : v_9_0 (fun j => Zt (d + 8) (wd 3 j) j) 3  s Q) : Zt (d + 9) ([(84, 2, 3), (84, 3, 4), (84, 4, 7), (83, 1, 3), (83, 2, 4), (75, 0, 3), (75, 1, 21), (75, 2, 25)] : zW) 9 [.ref 84] s Q := zt_of (E := xE_9) (L := xL_1) (ml := 6) (ret := some .int) rfl rfl rfl (m_9_0_3 rfl h)
set_option maxRecDepth 20000 in
theorem m_9_74_39 {d d0 : Nat} (hd : d = d0 + 8) {R74 : Int32 → Int32 → Int32 → Int32 → Int32 → zS → Prop} {a1 : Int32} {a2 : Int32} {a3 : Int32} {a4 : Int32} {a5 : Int32} {s : zS} {Q : Option Value → zS → Prop} (r74 : ∀ a1 a2 a3 a4 a5 s, R74 a1 a2 a3 a4 a5 s → Zn d [] [(39, 99), (39, 98)] ([(84, 2, 39), (84, 3, 40), (84, 4, 43), (83, 1, 39), (83, 2, 40), (75, 0, 39), (75, 1, 57), (75, 2, 61)] : zW) ([(84, 2, 39), (84, 3, 40), (84, 4, 43), (83, 1, 39), (83, 2, 40), (75, 0, 39), (75, 1, 57), (75, 2, 61)] : zW) xL_1 6 (some .int) xE_9 (xE_9.drop 74) [.ref 84, .int a1, .int a2, .int a3, .int a4, .int a5, .null] [] s Q) (h : v_9_74 (fun j => Zt d (wd 39 j) j) 39 R74 a1 a2 a3 a4 a5 s Q) : Zn d [] [(39, 99), (39, 98)] ([(84, 2, 39), (84, 3, 40), (84, 4, 43), (83, 1, 39), (83, 2, 40), (75, 0, 39), (75, 1, 57), (75, 2, 61)] : zW) ([(84, 2, 39), (84, 3, 40), (84, 4, 43), (83, 1, 39), (83, 2, 40), (75, 0, 39), (75, 1, 57), (75, 2, 61)] : zW) xL_1 6 (some .int) xE_9 (xE_9.drop 74) [.ref 84, .int a1, .int a2, .int a3, .int a4, .int a5, .null] [] s Q := by
  unfold v_9_74 at h
  refine zn_ld rfl rfl rfl ?_
  refine zn_ld rfl rfl rfl ?_
  refine zn_brP rfl rfl ⟨fun hcn => ?_, fun hcn => ?_⟩
  · replace h := h.1 ((i_le (x := a3) (y := a5) rfl rfl).mp hcn)
    refine zn_ld rfl rfl rfl ?_
    refine zn_get (v := .ref 39) rfl (zv_C (a := 84) (n := 0) rfl rfl rfl) ?_
    refine zn_c [.int 2, .ref 39] (xo_push (.int 2)) rfl rfl ?_
    refine zn_ld rfl rfl rfl ?_
    refine zn_zt [.ref 39, .int 2, .int a2] [] rfl rfl rfl rfl rfl (Zt.imp h (fun v1 s2 h => ?_))
    obtain ⟨rfl, h⟩ := h
    change Zn _ _ _ _ _ _ _ _ _ _ _ [] _ _
    refine zn_ld rfl rfl rfl ?_
    refine zn_get (v := .int (s2.1 84 7)) rfl (zv_I (a := 84) rfl rfl) ?_
    exact zn_retI rfl h
  · replace h := h.2 (fun q => hcn ((i_le (x := a3) (y := a5) rfl rfl).mpr q))
    refine zn_ld rfl rfl rfl ?_
    refine zn_get (v := .ref 40) rfl (zv_C (a := 84) (n := 1) rfl rfl rfl) ?_
    refine zn_get (v := .ref 49) rfl (zv_R (a := 40) rfl rfl) ?_
    refine zn_ld rfl rfl rfl ?_
    refine zn_get (v := .ref 39) rfl (zv_C (a := 84) (n := 0) rfl rfl rfl) ?_
    refine zn_ld rfl rfl rfl ?_
    refine zn_ld rfl rfl rfl ?_
    replace h := h _ (i_add (x := a4) (y := a5) rfl rfl)
    refine zn_c [.int (a4 + a5), .ref 39, .ref 49] xo_iadd rfl rfl ?_
    refine zn_c [.int 0, .int (a4 + a5), .ref 39, .ref 49] (xo_push (.int 0)) rfl rfl ?_
    refine zn_zt [.ref 39, .int (a4 + a5), .int 0] [.ref 49] (c := []) rfl rfl rfl rfl rfl (Zt.imp (zp_42 hd (Or.inr rfl)) (fun vq sq hq => ?_))
    obtain ⟨rfl, hq⟩ := hq
    rw [hq]
    change Zn _ _ _ _ _ _ _ _ _ _ _ [.int (zg s 69 ((a4 + a5) * 5 + 0)), .ref 49] _ _
    refine zn_row (zg s 69 ((a4 + a5) * 5 + 0)) [] (a := 49) hd rfl rfl rfl rfl ?_
    change Zn _ _ _ _ _ _ _ _ _ _ _ [.int (zg s 49 (zg s 69 ((a4 + a5) * 5 + 0)))] _ _
    refine zn_ld rfl rfl rfl ?_
    refine zn_brN rfl rfl ⟨fun hcn => ?_, fun hcn => ?_⟩
    · replace h := h.1 (fun q => hcn ((i_eq (x := zg s 49 (zg s 69 ((a4 + a5) * 5 + 0))) (y := a1) rfl rfl).mpr q))
      replace h := h _ (i_add (x := a5) (y := 1) rfl (show (1 : Int32).toInt = 1 by decide))
      refine zn_inc [.ref 84, .int a1, .int a2, .int a3, .int a4, .int (a5 + 1), .null] rfl rfl rfl rfl ?_
      refine zn_go rfl ?_
      exact r74 a1 a2 a3 a4 (a5 + 1) s h
    · replace h := h.2 ((i_eq (x := zg s 49 (zg s 69 ((a4 + a5) * 5 + 0))) (y := a1) rfl rfl).mp hcn)
      refine zn_ld rfl rfl rfl ?_
      refine zn_get (v := .ref 39) rfl (zv_C (a := 84) (n := 0) rfl rfl rfl) ?_
      refine zn_c [.int 1, .ref 39] (xo_push (.int 1)) rfl rfl ?_
      refine zn_ld rfl rfl rfl ?_
      refine zn_c [.int 1, .int a5, .int 1, .ref 39] (xo_push (.int 1)) rfl rfl ?_
      replace h := h _ (i_add (x := a5) (y := 1) rfl (show (1 : Int32).toInt = 1 by decide))
      refine zn_c [.int (a5 + 1), .int 1, .ref 39] xo_iadd rfl rfl ?_
      refine zn_c [.int 0, .int (a5 + 1), .int 1, .ref 39] (xo_push (.int 0)) rfl rfl ?_
      refine zn_c [.int 0, .int 0, .int (a5 + 1), .int 1, .ref 39] (xo_push (.int 0)) rfl rfl ?_
      refine zn_c [.int 0, .int 0, .int 0, .int (a5 + 1), .int 1, .ref 39] (xo_push (.int 0)) rfl rfl ?_
      refine zn_c [.int 0, .int 0, .int 0, .int 0, .int (a5 + 1), .int 1, .ref 39] (xo_push (.int 0)) rfl rfl ?_
      refine zn_zt [.ref 39, .int 1, .int (a5 + 1), .int 0, .int 0, .int 0, .int 0] [] rfl rfl rfl rfl rfl (Zt.imp h (fun v7 s8 h => ?_))
      obtain ⟨rfl, h⟩ := h
      change Zn _ _ _ _ _ _ _ _ _ _ _ [] _ _
      refine zn_ld rfl rfl rfl ?_
      refine zn_get (v := .ref 39) rfl (zv_C (a := 84) (n := 0) rfl rfl rfl) ?_
      refine zn_ld rfl rfl rfl ?_
      refine zn_ld rfl rfl rfl ?_
      replace h := h _ (i_add (x := a4) (y := a5) rfl rfl)
      refine zn_c [.int (a4 + a5), .ref 39] xo_iadd rfl rfl ?_
      refine zn_c [.int 3, .int (a4 + a5), .ref 39] (xo_push (.int 3)) rfl rfl ?_
      refine zn_zt [.ref 39, .int (a4 + a5), .int 3] [] (c := []) rfl rfl rfl rfl rfl (Zt.imp (zp_42 hd (Or.inr rfl)) (fun vq sq hq => ?_))
      obtain ⟨rfl, hq⟩ := hq
      rw [hq]
      change Zn _ _ _ _ _ _ _ _ _ _ _ [.int (zg s8 69 ((a4 + a5) * 5 + 3))] _ _
      exact zn_retI rfl h
theorem ml_9_74_39 {d d0 : Nat} (hd : d = d0 + 8)  {a1 : Int32} {a2 : Int32} {a3 : Int32} {a4 : Int32} {a5 : Int32} {s : zS} {Q : Option Value → zS → Prop}  (h : vl_9_74 (fun j => Zt d (wd 39 j) j) 39  a1 a2 a3 a4 a5 s Q) : Zn d [] [(39, 99), (39, 98)] ([(84, 2, 39), (84, 3, 40), (84, 4, 43), (83, 1, 39), (83, 2, 40), (75, 0, 39), (75, 1, 57), (75, 2, 61)] : zW) ([(84, 2, 39), (84, 3, 40), (84, 4, 43), (83, 1, 39), (83, 2, 40), (75, 0, 39), (75, 1, 57), (75, 2, 61)] : zW) xL_1 6 (some .int) xE_9 (xE_9.drop 74) [.ref 84, .int a1, .int a2, .int a3, .int a4, .int a5, .null] [] s Q := by
  obtain ⟨I, μ, h0, h1⟩ := h
  have key : ∀ (n : Nat) (a1 : Int32) (a2 : Int32) (a3 : Int32) (a4 : Int32) (a5 : Int32) (s : zS), μ a1 a2 a3 a4 a5 s = n → I a1 a2 a3 a4 a5 s → Zn d [] [(39, 99), (39, 98)] ([(84, 2, 39), (84, 3, 40), (84, 4, 43), (83, 1, 39), (83, 2, 40), (75, 0, 39), (75, 1, 57), (75, 2, 61)] : zW) ([(84, 2, 39), (84, 3, 40), (84, 4, 43), (83, 1, 39), (83, 2, 40), (75, 0, 39), (75, 1, 57), (75, 2, 61)] : zW) xL_1 6 (some .int) xE_9 (xE_9.drop 74) [.ref 84, .int a1, .int a2, .int a3, .int a4, .int a5, .null] [] s Q := by
    intro n
    induction n using Nat.strongRecOn with
    | ind n ih =>
      intro a1 a2 a3 a4 a5 s e hI
      exact m_9_74_39 hd (fun a1' a2' a3' a4' a5' s' q => ih _ (by rw [← e]; exact q.2) a1' a2' a3' a4' a5' s' rfl q.1) (h1 a1 a2 a3 a4 a5 s hI)
  exact key _ a1 a2 a3 a4 a5 s rfl h0
set_option maxRecDepth 20000 in
theorem m_9_55_39 {d d0 : Nat} (hd : d = d0 + 8)  {a1 : Int32} {a2 : Int32} {t0 : Int32} {s : zS} {Q : Option Value → zS → Prop}  (h : v_9_55 (fun j => Zt d (wd 39 j) j) 39  a1 a2 t0 s Q) : Zn d [] [(39, 99), (39, 98)] ([(84, 2, 39), (84, 3, 40), (84, 4, 43), (83, 1, 39), (83, 2, 40), (75, 0, 39), (75, 1, 57), (75, 2, 61)] : zW) ([(84, 2, 39), (84, 3, 40), (84, 4, 43), (83, 1, 39), (83, 2, 40), (75, 0, 39), (75, 1, 57), (75, 2, 61)] : zW) xL_1 6 (some .int) xE_9 (xE_9.drop 55) [.ref 84, .int a1, .int a2, .null, .null, .null, .null] [.int t0] s Q := by
  unfold v_9_55 at h
  refine zn_st [.ref 84, .int a1, .int a2, .int t0, .null, .null, .null] rfl rfl rfl ?_
  refine zn_ld rfl rfl rfl ?_
  refine zn_get (v := .ref 39) rfl (zv_C (a := 84) (n := 0) rfl rfl rfl) ?_
  refine zn_ld rfl rfl rfl ?_
  refine zn_get (v := .ref 75) rfl (zv_R (a := 84) rfl rfl) ?_
  refine zn_get (v := .int (s.1 75 6)) rfl (zv_I (a := 75) rfl rfl) ?_
  refine zn_c [.int 2, .int (s.1 75 6), .ref 39] (xo_push (.int 2)) rfl rfl ?_
  refine zn_zt [.ref 39, .int (s.1 75 6), .int 2] [] (c := []) rfl rfl rfl rfl rfl (Zt.imp (zp_41 hd (Or.inr rfl)) (fun vq sq hq => ?_))
  obtain ⟨rfl, hq⟩ := hq
  rw [hq]
  change Zn _ _ _ _ _ _ _ _ _ _ _ [.int (zg s 67 ((s.1 75 6) * 5 + 2))] _ _
  refine zn_ld rfl rfl rfl ?_
  refine zn_get (v := .ref 39) rfl (zv_C (a := 84) (n := 0) rfl rfl rfl) ?_
  refine zn_ld rfl rfl rfl ?_
  refine zn_get (v := .ref 75) rfl (zv_R (a := 84) rfl rfl) ?_
  refine zn_get (v := .int (s.1 75 6)) rfl (zv_I (a := 75) rfl rfl) ?_
  refine zn_c [.int 3, .int (s.1 75 6), .ref 39, .int (zg s 67 ((s.1 75 6) * 5 + 2))] (xo_push (.int 3)) rfl rfl ?_
  refine zn_zt [.ref 39, .int (s.1 75 6), .int 3] [.int (zg s 67 ((s.1 75 6) * 5 + 2))] (c := []) rfl rfl rfl rfl rfl (Zt.imp (zp_41 hd (Or.inr rfl)) (fun vq sq hq => ?_))
  obtain ⟨rfl, hq⟩ := hq
  rw [hq]
  change Zn _ _ _ _ _ _ _ _ _ _ _ [.int (zg s 67 ((s.1 75 6) * 5 + 3)), .int (zg s 67 ((s.1 75 6) * 5 + 2))] _ _
  replace h := h _ (i_add (x := zg s 67 ((s.1 75 6) * 5 + 2)) (y := zg s 67 ((s.1 75 6) * 5 + 3)) rfl rfl)
  refine zn_c [.int ((zg s 67 ((s.1 75 6) * 5 + 2)) + (zg s 67 ((s.1 75 6) * 5 + 3)))] xo_iadd rfl rfl ?_
  refine zn_st [.ref 84, .int a1, .int a2, .int t0, .int ((zg s 67 ((s.1 75 6) * 5 + 2)) + (zg s 67 ((s.1 75 6) * 5 + 3))), .null, .null] rfl rfl rfl ?_
  refine zn_c [.int 0] (xo_push (.int 0)) rfl rfl ?_
  refine zn_st [.ref 84, .int a1, .int a2, .int t0, .int ((zg s 67 ((s.1 75 6) * 5 + 2)) + (zg s 67 ((s.1 75 6) * 5 + 3))), .int 0, .null] rfl rfl rfl ?_
  exact ml_9_74_39 hd  h
set_option maxRecDepth 20000 in
theorem m_9_43_39 {d d0 : Nat} (hd : d = d0 + 8)  {a1 : Int32} {a2 : Int32} {s : zS} {Q : Option Value → zS → Prop}  (h : v_9_43 (fun j => Zt d (wd 39 j) j) 39  a1 a2 s Q) : Zn d [] [(39, 99), (39, 98)] ([(84, 2, 39), (84, 3, 40), (84, 4, 43), (83, 1, 39), (83, 2, 40), (75, 0, 39), (75, 1, 57), (75, 2, 61)] : zW) ([(84, 2, 39), (84, 3, 40), (84, 4, 43), (83, 1, 39), (83, 2, 40), (75, 0, 39), (75, 1, 57), (75, 2, 61)] : zW) xL_1 6 (some .int) xE_9 (xE_9.drop 43) [.ref 84, .int a1, .int a2, .null, .null, .null, .null] [] s Q := by
  unfold v_9_43 at h
  refine zn_ld rfl rfl rfl ?_
  refine zn_get (v := .int (s.1 84 6)) rfl (zv_I (a := 84) rfl rfl) ?_
  refine zn_brP rfl rfl ⟨fun hcn => ?_, fun hcn => ?_⟩
  · replace h := h.1 ((i_le (x := 0) (y := s.1 84 6) (show (0 : Int32).toInt = 0 by decide) rfl).mp hcn)
    refine zn_ld rfl rfl rfl ?_
    refine zn_get (v := .ref 39) rfl (zv_C (a := 84) (n := 0) rfl rfl rfl) ?_
    refine zn_ld rfl rfl rfl ?_
    refine zn_get (v := .ref 75) rfl (zv_R (a := 84) rfl rfl) ?_
    refine zn_get (v := .int (s.1 75 6)) rfl (zv_I (a := 75) rfl rfl) ?_
    refine zn_c [.int 4, .int (s.1 75 6), .ref 39] (xo_push (.int 4)) rfl rfl ?_
    refine zn_zt [.ref 39, .int (s.1 75 6), .int 4] [] (c := []) rfl rfl rfl rfl rfl (Zt.imp (zp_41 hd (Or.inr rfl)) (fun vq sq hq => ?_))
    obtain ⟨rfl, hq⟩ := hq
    rw [hq]
    change Zn _ _ _ _ _ _ _ _ _ _ _ [.int (zg s 67 ((s.1 75 6) * 5 + 4))] _ _
    exact m_9_55_39 hd  h
  · replace h := h.2 (fun q => hcn ((i_le (x := 0) (y := s.1 84 6) (show (0 : Int32).toInt = 0 by decide) rfl).mpr q))
    refine zn_c [.int 0] (xo_push (.int 0)) rfl rfl ?_
    refine zn_go rfl ?_
    exact m_9_55_39 hd  h
set_option maxRecDepth 20000 in
theorem m_9_0_39 {d d0 : Nat} (hd : d = d0 + 8)   {s : zS} {Q : Option Value → zS → Prop}  (h : v_9_0 (fun j => Zt d (wd 39 j) j) 39   s Q) : Zn d [] [(39, 99), (39, 98)] ([(84, 2, 39), (84, 3, 40), (84, 4, 43), (83, 1, 39), (83, 2, 40), (75, 0, 39), (75, 1, 57), (75, 2, 61)] : zW) ([(84, 2, 39), (84, 3, 40), (84, 4, 43), (83, 1, 39), (83, 2, 40), (75, 0, 39), (75, 1, 57), (75, 2, 61)] : zW) xL_1 6 (some .int) xE_9 (xE_9.drop 0) [.ref 84, .null, .null, .null, .null, .null, .null] [] s Q := by
  unfold v_9_0 at h
  refine zn_ld rfl rfl rfl ?_
  refine zn_get (v := .ref 40) rfl (zv_C (a := 84) (n := 1) rfl rfl rfl) ?_
  refine zn_get (v := .ref 49) rfl (zv_R (a := 40) rfl rfl) ?_
  refine zn_ld rfl rfl rfl ?_
  refine zn_get (v := .int (s.1 84 5)) rfl (zv_I (a := 84) rfl rfl) ?_
  refine zn_row (s.1 84 5) [] (a := 49) hd rfl rfl rfl rfl ?_
  change Zn _ _ _ _ _ _ _ _ _ _ _ [.int (zg s 49 (s.1 84 5))] _ _
  refine zn_st [.ref 84, .int (zg s 49 (s.1 84 5)), .null, .null, .null, .null, .null] rfl rfl rfl ?_
  refine zn_ld rfl rfl rfl ?_
  refine zn_get (v := .int (s.1 84 5)) rfl (zv_I (a := 84) rfl rfl) ?_
  refine zn_st [.ref 84, .int (zg s 49 (s.1 84 5)), .int (s.1 84 5), .null, .null, .null, .null] rfl rfl rfl ?_
  refine zn_ld rfl rfl rfl ?_
  refine zn_c [.ref 84, .ref 84] xo_dup rfl rfl ?_
  refine zn_get (v := .int (s.1 84 5)) rfl (zv_I (a := 84) rfl rfl) ?_
  refine zn_c [.int 1, .int (s.1 84 5), .ref 84] (xo_push (.int 1)) rfl rfl ?_
  replace h := h _ (i_add (x := s.1 84 5) (y := 1) rfl (show (1 : Int32).toInt = 1 by decide))
  refine zn_c [.int ((s.1 84 5) + 1), .ref 84] xo_iadd rfl rfl ?_
  refine zn_putI (a := 84) rfl rfl rfl rfl ⟨Int32.le_toInt _, Int.le_of_lt_add_one (Int32.toInt_lt _)⟩ rfl rfl rfl ?_
  replace h := h _ rfl
  refine zn_ld rfl rfl rfl ?_
  refine zn_get (v := .int ((zf s 84 5 ((s.1 84 5) + 1)).1 84 6)) rfl (zv_I (a := 84) rfl rfl) ?_
  refine zn_brP rfl rfl ⟨fun hcn => ?_, fun hcn => ?_⟩
  · replace h := h.1 ((i_lt (x := (zf s 84 5 ((s.1 84 5) + 1)).1 84 6) (y := 0) rfl (show (0 : Int32).toInt = 0 by decide)).mp hcn)
    exact m_9_43_39 hd  h
  · replace h := h.2 (fun q => hcn ((i_lt (x := (zf s 84 5 ((s.1 84 5) + 1)).1 84 6) (y := 0) rfl (show (0 : Int32).toInt = 0 by decide)).mpr q))
    refine zn_ld rfl rfl rfl ?_
    refine zn_get (v := .ref 40) rfl (zv_C (a := 84) (n := 1) rfl rfl rfl) ?_
    refine zn_get (v := .ref 49) rfl (zv_R (a := 40) rfl rfl) ?_
    refine zn_ld rfl rfl rfl ?_
    refine zn_get (v := .ref 39) rfl (zv_C (a := 84) (n := 0) rfl rfl rfl) ?_
    refine zn_ld rfl rfl rfl ?_
    refine zn_get (v := .int ((zf s 84 5 ((s.1 84 5) + 1)).1 84 6)) rfl (zv_I (a := 84) rfl rfl) ?_
    refine zn_c [.int 1, .int ((zf s 84 5 ((s.1 84 5) + 1)).1 84 6), .ref 39, .ref 49] (xo_push (.int 1)) rfl rfl ?_
    refine zn_zt [.ref 39, .int ((zf s 84 5 ((s.1 84 5) + 1)).1 84 6), .int 1] [.ref 49] (c := []) rfl rfl rfl rfl rfl (Zt.imp (zp_40 hd (Or.inr rfl)) (fun vq sq hq => ?_))
    obtain ⟨rfl, hq⟩ := hq
    rw [hq]
    change Zn _ _ _ _ _ _ _ _ _ _ _ [.int (zg (zf s 84 5 ((s.1 84 5) + 1)) 65 (((zf s 84 5 ((s.1 84 5) + 1)).1 84 6) * 10 + 1)), .ref 49] _ _
    refine zn_row (zg (zf s 84 5 ((s.1 84 5) + 1)) 65 (((zf s 84 5 ((s.1 84 5) + 1)).1 84 6) * 10 + 1)) [] (a := 49) hd rfl rfl rfl rfl ?_
    change Zn _ _ _ _ _ _ _ _ _ _ _ [.int (zg (zf s 84 5 ((s.1 84 5) + 1)) 49 (zg (zf s 84 5 ((s.1 84 5) + 1)) 65 (((zf s 84 5 ((s.1 84 5) + 1)).1 84 6) * 10 + 1)))] _ _
    refine zn_ld rfl rfl rfl ?_
    refine zn_brN rfl rfl ⟨fun hcn => ?_, fun hcn => ?_⟩
    · replace h := h.1 (fun q => hcn ((i_eq (x := zg (zf s 84 5 ((s.1 84 5) + 1)) 49 (zg (zf s 84 5 ((s.1 84 5) + 1)) 65 (((zf s 84 5 ((s.1 84 5) + 1)).1 84 6) * 10 + 1))) (y := zg s 49 (s.1 84 5)) rfl rfl).mpr q))
      exact m_9_43_39 hd  h
    · replace h := h.2 ((i_eq (x := zg (zf s 84 5 ((s.1 84 5) + 1)) 49 (zg (zf s 84 5 ((s.1 84 5) + 1)) 65 (((zf s 84 5 ((s.1 84 5) + 1)).1 84 6) * 10 + 1))) (y := zg s 49 (s.1 84 5)) rfl rfl).mp hcn)
      refine zn_ld rfl rfl rfl ?_
      refine zn_get (v := .ref 39) rfl (zv_C (a := 84) (n := 0) rfl rfl rfl) ?_
      refine zn_c [.int 1, .ref 39] (xo_push (.int 1)) rfl rfl ?_
      refine zn_c [.int 0, .int 1, .ref 39] (xo_push (.int 0)) rfl rfl ?_
      refine zn_c [.int 0, .int 0, .int 1, .ref 39] (xo_push (.int 0)) rfl rfl ?_
      refine zn_c [.int 0, .int 0, .int 0, .int 1, .ref 39] (xo_push (.int 0)) rfl rfl ?_
      refine zn_c [.int 0, .int 0, .int 0, .int 0, .int 1, .ref 39] (xo_push (.int 0)) rfl rfl ?_
      refine zn_c [.int 0, .int 0, .int 0, .int 0, .int 0, .int 1, .ref 39] (xo_push (.int 0)) rfl rfl ?_
      refine zn_zt [.ref 39, .int 1, .int 0, .int 0, .int 0, .int 0, .int 0] [] rfl rfl rfl rfl rfl (Zt.imp h (fun v4 s5 h => ?_))
      obtain ⟨rfl, h⟩ := h
      change Zn _ _ _ _ _ _ _ _ _ _ _ [] _ _
      refine zn_ld rfl rfl rfl ?_
      refine zn_get (v := .int (s5.1 84 7)) rfl (zv_I (a := 84) rfl rfl) ?_
      exact zn_retI rfl h
theorem zq_9_39 {d : Nat}  {s : zS} {Q : Option Value → zS → Prop} (h : v_9_0 (fun j => Zt (d + 8) (wd 39 j) j) 39  s Q) : Zt (d + 9) ([(84, 2, 39), (84, 3, 40), (84, 4, 43), (83, 1, 39), (83, 2, 40), (75, 0, 39), (75, 1, 57), (75, 2, 61)] : zW) 9 [.ref 84] s Q := zt_of (E := xE_9) (L := xL_1) (ml := 6) (ret := some .int) rfl rfl rfl (m_9_0_39 rfl h)
theorem zc_9 {d P : Nat} (hP : P = 3 ∨ P = 39)  {s : zS} {Q : Option Value → zS → Prop} (h : v_9_0 (fun j => Zt (d + 8) (wd P j) j) P  s Q) : Zt (d + 9) (wd P 9) 9 [.ref 84] s Q := by
  rcases hP with rfl | rfl
  · exact zq_9_3 h
  · exact zq_9_39 h
/-! FeatherBench$Bodies.literal -/
def v_10_58 (T : Nat → List Value → zS → (Option Value → zS → Prop) → Prop) (P : Nat)  (a1 : Int32) (a2 : Int32) (a3 : Int32) (a4 : Int32) (a5 : Int32) (s : zS) (Q : Option Value → zS → Prop) : Prop :=
  T 59 [.ref P, .int 2, .int a3, .int 0, .int 0, .int 0, .int 0] s (fun v1 s2 => v1 = none ∧ (T 11 [.ref 84, .int (zg s2 (P + 24) (a4 * 6 + 3)), .int a5, .int a3, .int 0, .int 0, .int a1] s2 (fun v4 s5 => v4 = none ∧ (T 59 [.ref P, .int 3, .int 0, .int a5, .int 0, .int 0, .int 0] s5 (fun v6 s7 => v6 = none ∧ (Q (some (.int a3)) s7))))))
def v_10_0 (T : Nat → List Value → zS → (Option Value → zS → Prop) → Prop) (P : Nat)  (a1 : Int32) (s : zS) (Q : Option Value → zS → Prop) : Prop :=
  T 132 [.ref 83, .int (s.1 84 5), .int 1] s (fun v1 s2 => ∃ x3, v1 = some (.int x3) ∧ (∀ s4, s4 = zf s2 84 5 x3 → T 135 [.ref 83, .int (s.1 P 10), .int (s4.1 P 10)] s4 (fun v5 s6 => v5 = none ∧ ((¬ ((zStr s6 P (zg s6 (P + 18) (s.1 P 10))).toInt = 0) → ((zg s6 (P + 12) (s6.1 84 5)).toInt = (zg s6 (P + 24) ((zg s6 (P + 18) (s.1 P 10)) * 6 + 4)).toInt → v_10_58 T P  a1 (s.1 84 5) (s.1 P 10) (zg s6 (P + 18) (s.1 P 10)) (zg s6 (P + 24) ((zg s6 (P + 18) (s.1 P 10)) * 6 + 4)) s6 Q) ∧ (¬ ((zg s6 (P + 12) (s6.1 84 5)).toInt = (zg s6 (P + 24) ((zg s6 (P + 18) (s.1 P 10)) * 6 + 4)).toInt) → T 38 [.ref P, .int 4, .int (s.1 84 5)] s6 (fun v8 s9 => v8 = none ∧ (v_10_58 T P  a1 (s.1 84 5) (s.1 P 10) (zg s6 (P + 18) (s.1 P 10)) (zg s6 (P + 24) ((zg s6 (P + 18) (s.1 P 10)) * 6 + 4)) s9 Q)))) ∧ ((zStr s6 P (zg s6 (P + 18) (s.1 P 10))).toInt = 0 → T 38 [.ref P, .int 6, .int (s.1 84 5)] s6 (fun v10 s11 => v10 = none ∧ (v_10_58 T P  a1 (s.1 84 5) (s.1 P 10) (zg s6 (P + 18) (s.1 P 10)) (zg s6 (P + 24) ((zg s6 (P + 18) (s.1 P 10)) * 6 + 4)) s11 Q)))))))
set_option maxRecDepth 20000 in
theorem m_10_58_3 {d d0 : Nat} (hd : d = d0 + 8)  {a1 : Int32} {a2 : Int32} {a3 : Int32} {a4 : Int32} {a5 : Int32} {s : zS} {Q : Option Value → zS → Prop}  (h : v_10_58 (fun j => Zt d (wd 3 j) j) 3  a1 a2 a3 a4 a5 s Q) : Zn d [] [(3, 99), (3, 98)] ([(84, 2, 3), (84, 3, 4), (84, 4, 7), (83, 1, 3), (83, 2, 4), (75, 0, 3), (75, 1, 21), (75, 2, 25)] : zW) ([(84, 2, 3), (84, 3, 4), (84, 4, 7), (83, 1, 3), (83, 2, 4), (75, 0, 3), (75, 1, 21), (75, 2, 25)] : zW) xL_1 6 (some .int) xE_10 (xE_10.drop 58) [.ref 84, .int a1, .int a2, .int a3, .int a4, .int a5, .null, .null] [] s Q := by
  unfold v_10_58 at h
  refine zn_ld rfl rfl rfl ?_
  refine zn_get (v := .ref 3) rfl (zv_C (a := 84) (n := 0) rfl rfl rfl) ?_
  refine zn_c [.int 2, .ref 3] (xo_push (.int 2)) rfl rfl ?_
  refine zn_ld rfl rfl rfl ?_
  refine zn_c [.int 0, .int a3, .int 2, .ref 3] (xo_push (.int 0)) rfl rfl ?_
  refine zn_c [.int 0, .int 0, .int a3, .int 2, .ref 3] (xo_push (.int 0)) rfl rfl ?_
  refine zn_c [.int 0, .int 0, .int 0, .int a3, .int 2, .ref 3] (xo_push (.int 0)) rfl rfl ?_
  refine zn_c [.int 0, .int 0, .int 0, .int 0, .int a3, .int 2, .ref 3] (xo_push (.int 0)) rfl rfl ?_
  refine zn_zt [.ref 3, .int 2, .int a3, .int 0, .int 0, .int 0, .int 0] [] rfl rfl rfl rfl rfl (Zt.imp h (fun v1 s2 h => ?_))
  obtain ⟨rfl, h⟩ := h
  change Zn _ _ _ _ _ _ _ _ _ _ _ [] _ _
  refine zn_ld rfl rfl rfl ?_
  refine zn_ld rfl rfl rfl ?_
  refine zn_get (v := .ref 3) rfl (zv_C (a := 84) (n := 0) rfl rfl rfl) ?_
  refine zn_ld rfl rfl rfl ?_
  refine zn_c [.int 3, .int a4, .ref 3, .ref 84] (xo_push (.int 3)) rfl rfl ?_
  refine zn_zt [.ref 3, .int a4, .int 3] [.ref 84] (c := []) rfl rfl rfl rfl rfl (Zt.imp (zp_39 hd (Or.inl rfl)) (fun vq sq hq => ?_))
  obtain ⟨rfl, hq⟩ := hq
  rw [hq]
  change Zn _ _ _ _ _ _ _ _ _ _ _ [.int (zg s2 27 (a4 * 6 + 3)), .ref 84] _ _
  refine zn_ld rfl rfl rfl ?_
  refine zn_ld rfl rfl rfl ?_
  refine zn_c [.int 0, .int a3, .int a5, .int (zg s2 27 (a4 * 6 + 3)), .ref 84] (xo_push (.int 0)) rfl rfl ?_
  refine zn_c [.int 0, .int 0, .int a3, .int a5, .int (zg s2 27 (a4 * 6 + 3)), .ref 84] (xo_push (.int 0)) rfl rfl ?_
  refine zn_ld rfl rfl rfl ?_
  refine zn_zt [.ref 84, .int (zg s2 27 (a4 * 6 + 3)), .int a5, .int a3, .int 0, .int 0, .int a1] [] rfl rfl rfl rfl rfl (Zt.imp h (fun v4 s5 h => ?_))
  obtain ⟨rfl, h⟩ := h
  change Zn _ _ _ _ _ _ _ _ _ _ _ [] _ _
  refine zn_ld rfl rfl rfl ?_
  refine zn_get (v := .ref 3) rfl (zv_C (a := 84) (n := 0) rfl rfl rfl) ?_
  refine zn_c [.int 3, .ref 3] (xo_push (.int 3)) rfl rfl ?_
  refine zn_c [.int 0, .int 3, .ref 3] (xo_push (.int 0)) rfl rfl ?_
  refine zn_ld rfl rfl rfl ?_
  refine zn_c [.int 0, .int a5, .int 0, .int 3, .ref 3] (xo_push (.int 0)) rfl rfl ?_
  refine zn_c [.int 0, .int 0, .int a5, .int 0, .int 3, .ref 3] (xo_push (.int 0)) rfl rfl ?_
  refine zn_c [.int 0, .int 0, .int 0, .int a5, .int 0, .int 3, .ref 3] (xo_push (.int 0)) rfl rfl ?_
  refine zn_zt [.ref 3, .int 3, .int 0, .int a5, .int 0, .int 0, .int 0] [] rfl rfl rfl rfl rfl (Zt.imp h (fun v6 s7 h => ?_))
  obtain ⟨rfl, h⟩ := h
  change Zn _ _ _ _ _ _ _ _ _ _ _ [] _ _
  refine zn_ld rfl rfl rfl ?_
  exact zn_retI rfl h
set_option maxRecDepth 20000 in
theorem m_10_0_3 {d d0 : Nat} (hd : d = d0 + 8)  {a1 : Int32} {s : zS} {Q : Option Value → zS → Prop}  (h : v_10_0 (fun j => Zt d (wd 3 j) j) 3  a1 s Q) : Zn d [] [(3, 99), (3, 98)] ([(84, 2, 3), (84, 3, 4), (84, 4, 7), (83, 1, 3), (83, 2, 4), (75, 0, 3), (75, 1, 21), (75, 2, 25)] : zW) ([(84, 2, 3), (84, 3, 4), (84, 4, 7), (83, 1, 3), (83, 2, 4), (75, 0, 3), (75, 1, 21), (75, 2, 25)] : zW) xL_1 6 (some .int) xE_10 (xE_10.drop 0) [.ref 84, .int a1, .null, .null, .null, .null, .null, .null] [] s Q := by
  unfold v_10_0 at h
  refine zn_ld rfl rfl rfl ?_
  refine zn_get (v := .int (s.1 84 5)) rfl (zv_I (a := 84) rfl rfl) ?_
  refine zn_st [.ref 84, .int a1, .int (s.1 84 5), .null, .null, .null, .null, .null] rfl rfl rfl ?_
  refine zn_ld rfl rfl rfl ?_
  refine zn_get (v := .ref 3) rfl (zv_C (a := 84) (n := 0) rfl rfl rfl) ?_
  refine zn_get (v := .int (s.1 3 10)) rfl (zv_I (a := 3) rfl rfl) ?_
  refine zn_st [.ref 84, .int a1, .int (s.1 84 5), .int (s.1 3 10), .null, .null, .null, .null] rfl rfl rfl ?_
  refine zn_ld rfl rfl rfl ?_
  refine zn_ld rfl rfl rfl ?_
  refine zn_get (v := .ref 83) rfl (zv_R (a := 84) rfl rfl) ?_
  refine zn_ld rfl rfl rfl ?_
  refine zn_get (v := .int (s.1 84 5)) rfl (zv_I (a := 84) rfl rfl) ?_
  refine zn_c [.int 1, .int (s.1 84 5), .ref 83, .ref 84] (xo_push (.int 1)) rfl rfl ?_
  refine zn_zt [.ref 83, .int (s.1 84 5), .int 1] [.ref 84] rfl rfl rfl rfl rfl (Zt.imp h (fun v1 s2 h => ?_))
  obtain ⟨x3, rfl, h⟩ := h
  change Zn _ _ _ _ _ _ _ _ _ _ _ [.int x3, .ref 84] _ _
  refine zn_putI (a := 84) rfl rfl rfl rfl ⟨Int32.le_toInt _, Int.le_of_lt_add_one (Int32.toInt_lt _)⟩ rfl rfl rfl ?_
  replace h := h _ rfl
  refine zn_ld rfl rfl rfl ?_
  refine zn_get (v := .ref 83) rfl (zv_R (a := 84) rfl rfl) ?_
  refine zn_ld rfl rfl rfl ?_
  refine zn_ld rfl rfl rfl ?_
  refine zn_get (v := .ref 3) rfl (zv_C (a := 84) (n := 0) rfl rfl rfl) ?_
  refine zn_get (v := .int ((zf s2 84 5 x3).1 3 10)) rfl (zv_I (a := 3) rfl rfl) ?_
  refine zn_zt [.ref 83, .int (s.1 3 10), .int ((zf s2 84 5 x3).1 3 10)] [] rfl rfl rfl rfl rfl (Zt.imp h (fun v5 s6 h => ?_))
  obtain ⟨rfl, h⟩ := h
  change Zn _ _ _ _ _ _ _ _ _ _ _ [] _ _
  refine zn_ld rfl rfl rfl ?_
  refine zn_get (v := .ref 3) rfl (zv_C (a := 84) (n := 0) rfl rfl rfl) ?_
  refine zn_get (v := .ref 21) rfl (zv_R (a := 3) rfl rfl) ?_
  refine zn_ld rfl rfl rfl ?_
  refine zn_row (s.1 3 10) [] (a := 21) hd rfl rfl rfl rfl ?_
  change Zn _ _ _ _ _ _ _ _ _ _ _ [.int (zg s6 21 (s.1 3 10))] _ _
  refine zn_st [.ref 84, .int a1, .int (s.1 84 5), .int (s.1 3 10), .int (zg s6 21 (s.1 3 10)), .null, .null, .null] rfl rfl rfl ?_
  refine zn_ld rfl rfl rfl ?_
  refine zn_get (v := .ref 3) rfl (zv_C (a := 84) (n := 0) rfl rfl rfl) ?_
  refine zn_ld rfl rfl rfl ?_
  refine zn_c [.int 4, .int (zg s6 21 (s.1 3 10)), .ref 3] (xo_push (.int 4)) rfl rfl ?_
  refine zn_zt [.ref 3, .int (zg s6 21 (s.1 3 10)), .int 4] [] (c := []) rfl rfl rfl rfl rfl (Zt.imp (zp_39 hd (Or.inl rfl)) (fun vq sq hq => ?_))
  obtain ⟨rfl, hq⟩ := hq
  rw [hq]
  change Zn _ _ _ _ _ _ _ _ _ _ _ [.int (zg s6 27 ((zg s6 21 (s.1 3 10)) * 6 + 4))] _ _
  refine zn_st [.ref 84, .int a1, .int (s.1 84 5), .int (s.1 3 10), .int (zg s6 21 (s.1 3 10)), .int (zg s6 27 ((zg s6 21 (s.1 3 10)) * 6 + 4)), .null, .null] rfl rfl rfl ?_
  refine zn_ld rfl rfl rfl ?_
  refine zn_get (v := .ref 3) rfl (zv_C (a := 84) (n := 0) rfl rfl rfl) ?_
  refine zn_ld rfl rfl rfl ?_
  refine zn_zt [.ref 3, .int (zg s6 21 (s.1 3 10))] [] (c := []) rfl rfl rfl rfl rfl (Zt.imp (zp_49 hd (Or.inl rfl)) (fun vq sq hq => ?_))
  obtain ⟨rfl, hq⟩ := hq
  rw [hq]
  change Zn _ _ _ _ _ _ _ _ _ _ _ [.int (zStr s6 3 (zg s6 21 (s.1 3 10)))] _ _
  refine zn_brN rfl rfl ⟨fun hcn => ?_, fun hcn => ?_⟩
  · replace h := h.1 (fun q => hcn ((i_eq (x := zStr s6 3 (zg s6 21 (s.1 3 10))) (y := 0) rfl (show (0 : Int32).toInt = 0 by decide)).mpr q))
    refine zn_ld rfl rfl rfl ?_
    refine zn_get (v := .ref 4) rfl (zv_C (a := 84) (n := 1) rfl rfl rfl) ?_
    refine zn_get (v := .ref 15) rfl (zv_R (a := 4) rfl rfl) ?_
    refine zn_ld rfl rfl rfl ?_
    refine zn_get (v := .int (s6.1 84 5)) rfl (zv_I (a := 84) rfl rfl) ?_
    refine zn_row (s6.1 84 5) [] (a := 15) hd rfl rfl rfl rfl ?_
    change Zn _ _ _ _ _ _ _ _ _ _ _ [.int (zg s6 15 (s6.1 84 5))] _ _
    refine zn_ld rfl rfl rfl ?_
    refine zn_brP rfl rfl ⟨fun hcn => ?_, fun hcn => ?_⟩
    · replace h := h.1 ((i_eq (x := zg s6 15 (s6.1 84 5)) (y := zg s6 27 ((zg s6 21 (s.1 3 10)) * 6 + 4)) rfl rfl).mp hcn)
      exact m_10_58_3 hd  h
    · replace h := h.2 (fun q => hcn ((i_eq (x := zg s6 15 (s6.1 84 5)) (y := zg s6 27 ((zg s6 21 (s.1 3 10)) * 6 + 4)) rfl rfl).mpr q))
      refine zn_ld rfl rfl rfl ?_
      refine zn_get (v := .ref 3) rfl (zv_C (a := 84) (n := 0) rfl rfl rfl) ?_
      refine zn_c [.int 4, .ref 3] (xo_push (.int 4)) rfl rfl ?_
      refine zn_ld rfl rfl rfl ?_
      refine zn_zt [.ref 3, .int 4, .int (s.1 84 5)] [] rfl rfl rfl rfl rfl (Zt.imp h (fun v8 s9 h => ?_))
      obtain ⟨rfl, h⟩ := h
      change Zn _ _ _ _ _ _ _ _ _ _ _ [] _ _
      exact m_10_58_3 hd  h
  · replace h := h.2 ((i_eq (x := zStr s6 3 (zg s6 21 (s.1 3 10))) (y := 0) rfl (show (0 : Int32).toInt = 0 by decide)).mp hcn)
    refine zn_ld rfl rfl rfl ?_
    refine zn_get (v := .ref 3) rfl (zv_C (a := 84) (n := 0) rfl rfl rfl) ?_
    refine zn_c [.int 6, .ref 3] (xo_push (.int 6)) rfl rfl ?_
    refine zn_ld rfl rfl rfl ?_
    refine zn_zt [.ref 3, .int 6, .int (s.1 84 5)] [] rfl rfl rfl rfl rfl (Zt.imp h (fun v10 s11 h => ?_))
    obtain ⟨rfl, h⟩ := h
    change Zn _ _ _ _ _ _ _ _ _ _ _ [] _ _
    refine zn_go rfl ?_
    exact m_10_58_3 hd  h
theorem zq_10_3 {d : Nat} {a1 : Int32} {s : zS} {Q : Option Value → zS → Prop} (h : v_10_0 (fun j => Zt (d + 8) (wd 3 j) j) 3 a1 s Q) : Zt (d + 9) ([(84, 2, 3), (84, 3, 4), (84, 4, 7), (83, 1, 3), (83, 2, 4), (75, 0, 3), (75, 1, 21), (75, 2, 25)] : zW) 10 [.ref 84, .int a1] s Q := zt_of (E := xE_10) (L := xL_1) (ml := 6) (ret := some .int) rfl rfl rfl (m_10_0_3 rfl h)
set_option maxRecDepth 20000 in
theorem m_10_58_39 {d d0 : Nat} (hd : d = d0 + 8)  {a1 : Int32} {a2 : Int32} {a3 : Int32} {a4 : Int32} {a5 : Int32} {s : zS} {Q : Option Value → zS → Prop}  (h : v_10_58 (fun j => Zt d (wd 39 j) j) 39  a1 a2 a3 a4 a5 s Q) : Zn d [] [(39, 99), (39, 98)] ([(84, 2, 39), (84, 3, 40), (84, 4, 43), (83, 1, 39), (83, 2, 40), (75, 0, 39), (75, 1, 57), (75, 2, 61)] : zW) ([(84, 2, 39), (84, 3, 40), (84, 4, 43), (83, 1, 39), (83, 2, 40), (75, 0, 39), (75, 1, 57), (75, 2, 61)] : zW) xL_1 6 (some .int) xE_10 (xE_10.drop 58) [.ref 84, .int a1, .int a2, .int a3, .int a4, .int a5, .null, .null] [] s Q := by
  unfold v_10_58 at h
  refine zn_ld rfl rfl rfl ?_
  refine zn_get (v := .ref 39) rfl (zv_C (a := 84) (n := 0) rfl rfl rfl) ?_
  refine zn_c [.int 2, .ref 39] (xo_push (.int 2)) rfl rfl ?_
  refine zn_ld rfl rfl rfl ?_
  refine zn_c [.int 0, .int a3, .int 2, .ref 39] (xo_push (.int 0)) rfl rfl ?_
  refine zn_c [.int 0, .int 0, .int a3, .int 2, .ref 39] (xo_push (.int 0)) rfl rfl ?_
  refine zn_c [.int 0, .int 0, .int 0, .int a3, .int 2, .ref 39] (xo_push (.int 0)) rfl rfl ?_
  refine zn_c [.int 0, .int 0, .int 0, .int 0, .int a3, .int 2, .ref 39] (xo_push (.int 0)) rfl rfl ?_
  refine zn_zt [.ref 39, .int 2, .int a3, .int 0, .int 0, .int 0, .int 0] [] rfl rfl rfl rfl rfl (Zt.imp h (fun v1 s2 h => ?_))
  obtain ⟨rfl, h⟩ := h
  change Zn _ _ _ _ _ _ _ _ _ _ _ [] _ _
  refine zn_ld rfl rfl rfl ?_
  refine zn_ld rfl rfl rfl ?_
  refine zn_get (v := .ref 39) rfl (zv_C (a := 84) (n := 0) rfl rfl rfl) ?_
  refine zn_ld rfl rfl rfl ?_
  refine zn_c [.int 3, .int a4, .ref 39, .ref 84] (xo_push (.int 3)) rfl rfl ?_
  refine zn_zt [.ref 39, .int a4, .int 3] [.ref 84] (c := []) rfl rfl rfl rfl rfl (Zt.imp (zp_39 hd (Or.inr rfl)) (fun vq sq hq => ?_))
  obtain ⟨rfl, hq⟩ := hq
  rw [hq]
  change Zn _ _ _ _ _ _ _ _ _ _ _ [.int (zg s2 63 (a4 * 6 + 3)), .ref 84] _ _
  refine zn_ld rfl rfl rfl ?_
  refine zn_ld rfl rfl rfl ?_
  refine zn_c [.int 0, .int a3, .int a5, .int (zg s2 63 (a4 * 6 + 3)), .ref 84] (xo_push (.int 0)) rfl rfl ?_
  refine zn_c [.int 0, .int 0, .int a3, .int a5, .int (zg s2 63 (a4 * 6 + 3)), .ref 84] (xo_push (.int 0)) rfl rfl ?_
  refine zn_ld rfl rfl rfl ?_
  refine zn_zt [.ref 84, .int (zg s2 63 (a4 * 6 + 3)), .int a5, .int a3, .int 0, .int 0, .int a1] [] rfl rfl rfl rfl rfl (Zt.imp h (fun v4 s5 h => ?_))
  obtain ⟨rfl, h⟩ := h
  change Zn _ _ _ _ _ _ _ _ _ _ _ [] _ _
  refine zn_ld rfl rfl rfl ?_
  refine zn_get (v := .ref 39) rfl (zv_C (a := 84) (n := 0) rfl rfl rfl) ?_
  refine zn_c [.int 3, .ref 39] (xo_push (.int 3)) rfl rfl ?_
  refine zn_c [.int 0, .int 3, .ref 39] (xo_push (.int 0)) rfl rfl ?_
  refine zn_ld rfl rfl rfl ?_
  refine zn_c [.int 0, .int a5, .int 0, .int 3, .ref 39] (xo_push (.int 0)) rfl rfl ?_
  refine zn_c [.int 0, .int 0, .int a5, .int 0, .int 3, .ref 39] (xo_push (.int 0)) rfl rfl ?_
  refine zn_c [.int 0, .int 0, .int 0, .int a5, .int 0, .int 3, .ref 39] (xo_push (.int 0)) rfl rfl ?_
  refine zn_zt [.ref 39, .int 3, .int 0, .int a5, .int 0, .int 0, .int 0] [] rfl rfl rfl rfl rfl (Zt.imp h (fun v6 s7 h => ?_))
  obtain ⟨rfl, h⟩ := h
  change Zn _ _ _ _ _ _ _ _ _ _ _ [] _ _
  refine zn_ld rfl rfl rfl ?_
  exact zn_retI rfl h
set_option maxRecDepth 20000 in
theorem m_10_0_39 {d d0 : Nat} (hd : d = d0 + 8)  {a1 : Int32} {s : zS} {Q : Option Value → zS → Prop}  (h : v_10_0 (fun j => Zt d (wd 39 j) j) 39  a1 s Q) : Zn d [] [(39, 99), (39, 98)] ([(84, 2, 39), (84, 3, 40), (84, 4, 43), (83, 1, 39), (83, 2, 40), (75, 0, 39), (75, 1, 57), (75, 2, 61)] : zW) ([(84, 2, 39), (84, 3, 40), (84, 4, 43), (83, 1, 39), (83, 2, 40), (75, 0, 39), (75, 1, 57), (75, 2, 61)] : zW) xL_1 6 (some .int) xE_10 (xE_10.drop 0) [.ref 84, .int a1, .null, .null, .null, .null, .null, .null] [] s Q := by
  unfold v_10_0 at h
  refine zn_ld rfl rfl rfl ?_
  refine zn_get (v := .int (s.1 84 5)) rfl (zv_I (a := 84) rfl rfl) ?_
  refine zn_st [.ref 84, .int a1, .int (s.1 84 5), .null, .null, .null, .null, .null] rfl rfl rfl ?_
  refine zn_ld rfl rfl rfl ?_
  refine zn_get (v := .ref 39) rfl (zv_C (a := 84) (n := 0) rfl rfl rfl) ?_
  refine zn_get (v := .int (s.1 39 10)) rfl (zv_I (a := 39) rfl rfl) ?_
  refine zn_st [.ref 84, .int a1, .int (s.1 84 5), .int (s.1 39 10), .null, .null, .null, .null] rfl rfl rfl ?_
  refine zn_ld rfl rfl rfl ?_
  refine zn_ld rfl rfl rfl ?_
  refine zn_get (v := .ref 83) rfl (zv_R (a := 84) rfl rfl) ?_
  refine zn_ld rfl rfl rfl ?_
  refine zn_get (v := .int (s.1 84 5)) rfl (zv_I (a := 84) rfl rfl) ?_
  refine zn_c [.int 1, .int (s.1 84 5), .ref 83, .ref 84] (xo_push (.int 1)) rfl rfl ?_
  refine zn_zt [.ref 83, .int (s.1 84 5), .int 1] [.ref 84] rfl rfl rfl rfl rfl (Zt.imp h (fun v1 s2 h => ?_))
  obtain ⟨x3, rfl, h⟩ := h
  change Zn _ _ _ _ _ _ _ _ _ _ _ [.int x3, .ref 84] _ _
  refine zn_putI (a := 84) rfl rfl rfl rfl ⟨Int32.le_toInt _, Int.le_of_lt_add_one (Int32.toInt_lt _)⟩ rfl rfl rfl ?_
  replace h := h _ rfl
  refine zn_ld rfl rfl rfl ?_
  refine zn_get (v := .ref 83) rfl (zv_R (a := 84) rfl rfl) ?_
  refine zn_ld rfl rfl rfl ?_
  refine zn_ld rfl rfl rfl ?_
  refine zn_get (v := .ref 39) rfl (zv_C (a := 84) (n := 0) rfl rfl rfl) ?_
  refine zn_get (v := .int ((zf s2 84 5 x3).1 39 10)) rfl (zv_I (a := 39) rfl rfl) ?_
  refine zn_zt [.ref 83, .int (s.1 39 10), .int ((zf s2 84 5 x3).1 39 10)] [] rfl rfl rfl rfl rfl (Zt.imp h (fun v5 s6 h => ?_))
  obtain ⟨rfl, h⟩ := h
  change Zn _ _ _ _ _ _ _ _ _ _ _ [] _ _
  refine zn_ld rfl rfl rfl ?_
  refine zn_get (v := .ref 39) rfl (zv_C (a := 84) (n := 0) rfl rfl rfl) ?_
  refine zn_get (v := .ref 57) rfl (zv_R (a := 39) rfl rfl) ?_
  refine zn_ld rfl rfl rfl ?_
  refine zn_row (s.1 39 10) [] (a := 57) hd rfl rfl rfl rfl ?_
  change Zn _ _ _ _ _ _ _ _ _ _ _ [.int (zg s6 57 (s.1 39 10))] _ _
  refine zn_st [.ref 84, .int a1, .int (s.1 84 5), .int (s.1 39 10), .int (zg s6 57 (s.1 39 10)), .null, .null, .null] rfl rfl rfl ?_
  refine zn_ld rfl rfl rfl ?_
  refine zn_get (v := .ref 39) rfl (zv_C (a := 84) (n := 0) rfl rfl rfl) ?_
  refine zn_ld rfl rfl rfl ?_
  refine zn_c [.int 4, .int (zg s6 57 (s.1 39 10)), .ref 39] (xo_push (.int 4)) rfl rfl ?_
  refine zn_zt [.ref 39, .int (zg s6 57 (s.1 39 10)), .int 4] [] (c := []) rfl rfl rfl rfl rfl (Zt.imp (zp_39 hd (Or.inr rfl)) (fun vq sq hq => ?_))
  obtain ⟨rfl, hq⟩ := hq
  rw [hq]
  change Zn _ _ _ _ _ _ _ _ _ _ _ [.int (zg s6 63 ((zg s6 57 (s.1 39 10)) * 6 + 4))] _ _
  refine zn_st [.ref 84, .int a1, .int (s.1 84 5), .int (s.1 39 10), .int (zg s6 57 (s.1 39 10)), .int (zg s6 63 ((zg s6 57 (s.1 39 10)) * 6 + 4)), .null, .null] rfl rfl rfl ?_
  refine zn_ld rfl rfl rfl ?_
  refine zn_get (v := .ref 39) rfl (zv_C (a := 84) (n := 0) rfl rfl rfl) ?_
  refine zn_ld rfl rfl rfl ?_
  refine zn_zt [.ref 39, .int (zg s6 57 (s.1 39 10))] [] (c := []) rfl rfl rfl rfl rfl (Zt.imp (zp_49 hd (Or.inr rfl)) (fun vq sq hq => ?_))
  obtain ⟨rfl, hq⟩ := hq
  rw [hq]
  change Zn _ _ _ _ _ _ _ _ _ _ _ [.int (zStr s6 39 (zg s6 57 (s.1 39 10)))] _ _
  refine zn_brN rfl rfl ⟨fun hcn => ?_, fun hcn => ?_⟩
  · replace h := h.1 (fun q => hcn ((i_eq (x := zStr s6 39 (zg s6 57 (s.1 39 10))) (y := 0) rfl (show (0 : Int32).toInt = 0 by decide)).mpr q))
    refine zn_ld rfl rfl rfl ?_
    refine zn_get (v := .ref 40) rfl (zv_C (a := 84) (n := 1) rfl rfl rfl) ?_
    refine zn_get (v := .ref 51) rfl (zv_R (a := 40) rfl rfl) ?_
    refine zn_ld rfl rfl rfl ?_
    refine zn_get (v := .int (s6.1 84 5)) rfl (zv_I (a := 84) rfl rfl) ?_
    refine zn_row (s6.1 84 5) [] (a := 51) hd rfl rfl rfl rfl ?_
    change Zn _ _ _ _ _ _ _ _ _ _ _ [.int (zg s6 51 (s6.1 84 5))] _ _
    refine zn_ld rfl rfl rfl ?_
    refine zn_brP rfl rfl ⟨fun hcn => ?_, fun hcn => ?_⟩
    · replace h := h.1 ((i_eq (x := zg s6 51 (s6.1 84 5)) (y := zg s6 63 ((zg s6 57 (s.1 39 10)) * 6 + 4)) rfl rfl).mp hcn)
      exact m_10_58_39 hd  h
    · replace h := h.2 (fun q => hcn ((i_eq (x := zg s6 51 (s6.1 84 5)) (y := zg s6 63 ((zg s6 57 (s.1 39 10)) * 6 + 4)) rfl rfl).mpr q))
      refine zn_ld rfl rfl rfl ?_
      refine zn_get (v := .ref 39) rfl (zv_C (a := 84) (n := 0) rfl rfl rfl) ?_
      refine zn_c [.int 4, .ref 39] (xo_push (.int 4)) rfl rfl ?_
      refine zn_ld rfl rfl rfl ?_
      refine zn_zt [.ref 39, .int 4, .int (s.1 84 5)] [] rfl rfl rfl rfl rfl (Zt.imp h (fun v8 s9 h => ?_))
      obtain ⟨rfl, h⟩ := h
      change Zn _ _ _ _ _ _ _ _ _ _ _ [] _ _
      exact m_10_58_39 hd  h
  · replace h := h.2 ((i_eq (x := zStr s6 39 (zg s6 57 (s.1 39 10))) (y := 0) rfl (show (0 : Int32).toInt = 0 by decide)).mp hcn)
    refine zn_ld rfl rfl rfl ?_
    refine zn_get (v := .ref 39) rfl (zv_C (a := 84) (n := 0) rfl rfl rfl) ?_
    refine zn_c [.int 6, .ref 39] (xo_push (.int 6)) rfl rfl ?_
    refine zn_ld rfl rfl rfl ?_
    refine zn_zt [.ref 39, .int 6, .int (s.1 84 5)] [] rfl rfl rfl rfl rfl (Zt.imp h (fun v10 s11 h => ?_))
    obtain ⟨rfl, h⟩ := h
    change Zn _ _ _ _ _ _ _ _ _ _ _ [] _ _
    refine zn_go rfl ?_
    exact m_10_58_39 hd  h
theorem zq_10_39 {d : Nat} {a1 : Int32} {s : zS} {Q : Option Value → zS → Prop} (h : v_10_0 (fun j => Zt (d + 8) (wd 39 j) j) 39 a1 s Q) : Zt (d + 9) ([(84, 2, 39), (84, 3, 40), (84, 4, 43), (83, 1, 39), (83, 2, 40), (75, 0, 39), (75, 1, 57), (75, 2, 61)] : zW) 10 [.ref 84, .int a1] s Q := zt_of (E := xE_10) (L := xL_1) (ml := 6) (ret := some .int) rfl rfl rfl (m_10_0_39 rfl h)
theorem zc_10 {d P : Nat} (hP : P = 3 ∨ P = 39) {a1 : Int32} {s : zS} {Q : Option Value → zS → Prop} (h : v_10_0 (fun j => Zt (d + 8) (wd P j) j) P a1 s Q) : Zt (d + 9) (wd P 10) 10 [.ref 84, .int a1] s Q := by
  rcases hP with rfl | rfl
  · exact zq_10_3 h
  · exact zq_10_39 h
/-! FeatherBench$Bodies.parts -/
def v_11_87 (T : Nat → List Value → zS → (Option Value → zS → Prop) → Prop) (P : Nat)  (a1 : Int32) (a2 : Int32) (a3 : Int32) (a4 : Int32) (a5 : Int32) (a6 : Int32) (a7 : Int32) (s : zS) (Q : Option Value → zS → Prop) : Prop :=
  ∀ x1 : Int32, (-2147483648 ≤ (s.1 84 5).toInt + 1 ∧ (s.1 84 5).toInt + 1 ≤ 2147483647 → x1.toInt = (s.1 84 5).toInt + 1) → ∀ s2, s2 = zf s 84 5 x1 → Q none s2
def v_11_83 (T : Nat → List Value → zS → (Option Value → zS → Prop) → Prop) (P : Nat) (R8 : Int32 → Int32 → Int32 → Int32 → Int32 → Int32 → Int32 → zS → Prop) (a1 : Int32) (a2 : Int32) (a3 : Int32) (a4 : Int32) (a5 : Int32) (a6 : Int32) (a7 : Int32) (a8 : Int32) (a9 : Int32) (a10 : Int32) (t1 : Int32) (t2 : Int32) (s : zS) (Q : Option Value → zS → Prop) : Prop :=
  ∀ x1 : Int32, (-2147483648 ≤ t1.toInt + t2.toInt ∧ t1.toInt + t2.toInt ≤ 2147483647 → x1.toInt = t1.toInt + t2.toInt) → ∀ s2, s2 = zf s 84 5 x1 → ∀ x3 : Int32, (-2147483648 ≤ a7.toInt + 1 ∧ a7.toInt + 1 ≤ 2147483647 → x3.toInt = a7.toInt + 1) → R8 a1 a2 a3 a4 a5 a6 x3 s2
def v_11_68 (T : Nat → List Value → zS → (Option Value → zS → Prop) → Prop) (P : Nat) (R8 : Int32 → Int32 → Int32 → Int32 → Int32 → Int32 → Int32 → zS → Prop) (a1 : Int32) (a2 : Int32) (a3 : Int32) (a4 : Int32) (a5 : Int32) (a6 : Int32) (a7 : Int32) (a8 : Int32) (a9 : Int32) (a10 : Int32) (s : zS) (Q : Option Value → zS → Prop) : Prop :=
  ∀ s1, s1 = zf s 75 3 a8 → ∀ x2 : Int32, (-2147483648 ≤ a2.toInt - 1 ∧ a2.toInt - 1 ≤ 2147483647 → x2.toInt = a2.toInt - 1) → (x2.toInt ≤ a7.toInt → v_11_83 T P R8 a1 a2 a3 a4 a5 a6 a7 a8 a9 a10 (s1.1 84 5) 0 s1 Q) ∧ (¬ (x2.toInt ≤ a7.toInt) → v_11_83 T P R8 a1 a2 a3 a4 a5 a6 a7 a8 a9 a10 (s1.1 84 5) 1 s1 Q)
def v_11_66 (T : Nat → List Value → zS → (Option Value → zS → Prop) → Prop) (P : Nat) (R8 : Int32 → Int32 → Int32 → Int32 → Int32 → Int32 → Int32 → zS → Prop) (a1 : Int32) (a2 : Int32) (a3 : Int32) (a4 : Int32) (a5 : Int32) (a6 : Int32) (a7 : Int32) (a8 : Int32) (a9 : Int32) (a10 : Int32) (a11 : Int32) (t1 : Int32) (s : zS) (Q : Option Value → zS → Prop) : Prop :=
  T 38 [.ref P, .int t1, .int a9] s (fun v1 s2 => v1 = none ∧ (v_11_68 T P R8 a1 a2 a3 a4 a5 a6 a7 a8 a9 a10 s2 Q))
def v_11_8 (T : Nat → List Value → zS → (Option Value → zS → Prop) → Prop) (P : Nat) (R8 : Int32 → Int32 → Int32 → Int32 → Int32 → Int32 → Int32 → zS → Prop) (a1 : Int32) (a2 : Int32) (a3 : Int32) (a4 : Int32) (a5 : Int32) (a6 : Int32) (a7 : Int32) (s : zS) (Q : Option Value → zS → Prop) : Prop :=
  (a2.toInt ≤ a7.toInt → v_11_87 T P  a1 a2 a3 a4 a5 a6 a7 s Q) ∧ (¬ (a2.toInt ≤ a7.toInt) → (¬ ((s.1 P 14).toInt = 0) → v_11_87 T P  a1 a2 a3 a4 a5 a6 a7 s Q) ∧ ((s.1 P 14).toInt = 0 → ∀ x1 : Int32, (-2147483648 ≤ a6.toInt + 1 ∧ a6.toInt + 1 ≤ 2147483647 → x1.toInt = a6.toInt + 1) → T 7 [.ref 84, .int x1] s (fun v2 s3 => ∃ x4, v2 = some (.int x4) ∧ ((¬ ((s3.1 P 14).toInt = 0) → v_11_68 T P R8 a1 a2 a3 a4 a5 a6 a7 (s.1 75 3) (s.1 84 5) x4 s3 Q) ∧ ((s3.1 P 14).toInt = 0 → T 86 [.ref 75, .ref 76, .int a3, .int a4, .int a5] s3 (fun v5 s6 => v5 = none ∧ (∀ x7 : Int32, (-2147483648 ≤ a1.toInt + a7.toInt ∧ a1.toInt + a7.toInt ≤ 2147483647 → x7.toInt = a1.toInt + a7.toInt) → T 87 [.ref 75, .int (zg s6 (P + 30) (x7 * 5 + 3)), .ref 76] s6 (fun v9 s10 => ∃ x11, v9 = some (.int x11) ∧ ((0 ≤ x11.toInt → T 88 [.ref 75, .int x4, .int x11] s10 (fun v12 s13 => ∃ x14, v12 = some (.int x14) ∧ (v_11_66 T P R8 a1 a2 a3 a4 a5 a6 a7 (s.1 75 3) (s.1 84 5) x4 x11 x14 s13 Q))) ∧ (¬ (0 ≤ x11.toInt) → v_11_66 T P R8 a1 a2 a3 a4 a5 a6 a7 (s.1 75 3) (s.1 84 5) x4 x11 9 s10 Q))))))))))
def vl_11_8 (T : Nat → List Value → zS → (Option Value → zS → Prop) → Prop) (P : Nat)  (a1 : Int32) (a2 : Int32) (a3 : Int32) (a4 : Int32) (a5 : Int32) (a6 : Int32) (a7 : Int32) (s : zS) (Q : Option Value → zS → Prop) : Prop :=
  ∃ (I : Int32 → Int32 → Int32 → Int32 → Int32 → Int32 → Int32 → zS → Prop) (μ : Int32 → Int32 → Int32 → Int32 → Int32 → Int32 → Int32 → zS → Nat), I a1 a2 a3 a4 a5 a6 a7 s ∧ ∀ (a1 : Int32) (a2 : Int32) (a3 : Int32) (a4 : Int32) (a5 : Int32) (a6 : Int32) (a7 : Int32) (s : zS), I a1 a2 a3 a4 a5 a6 a7 s → v_11_8 T P (fun a1' a2' a3' a4' a5' a6' a7' s' => I a1' a2' a3' a4' a5' a6' a7' s' ∧ μ a1' a2' a3' a4' a5' a6' a7' s' < μ a1 a2 a3 a4 a5 a6 a7 s) a1 a2 a3 a4 a5 a6 a7 s Q
def v_11_0 (T : Nat → List Value → zS → (Option Value → zS → Prop) → Prop) (P : Nat)  (a1 : Int32) (a2 : Int32) (a3 : Int32) (a4 : Int32) (a5 : Int32) (a6 : Int32) (s : zS) (Q : Option Value → zS → Prop) : Prop :=
  ∀ x1 : Int32, (-2147483648 ≤ (s.1 84 5).toInt + 1 ∧ (s.1 84 5).toInt + 1 ≤ 2147483647 → x1.toInt = (s.1 84 5).toInt + 1) → ∀ s2, s2 = zf s 84 5 x1 → vl_11_8 T P  a1 a2 a3 a4 a5 a6 0 s2 Q
set_option maxRecDepth 20000 in
theorem m_11_87_3 {d d0 : Nat} (hd : d = d0 + 8)  {a1 : Int32} {a2 : Int32} {a3 : Int32} {a4 : Int32} {a5 : Int32} {a6 : Int32} {a7 : Int32} {s : zS} {Q : Option Value → zS → Prop}  (h : v_11_87 (fun j => Zt d (wd 3 j) j) 3  a1 a2 a3 a4 a5 a6 a7 s Q) : Zn d [] [(3, 99), (3, 98)] ([(84, 2, 3), (84, 3, 4), (84, 4, 7), (83, 1, 3), (83, 2, 4), (75, 0, 3), (75, 1, 21), (75, 2, 25)] : zW) ([(84, 2, 3), (84, 3, 4), (84, 4, 7), (83, 1, 3), (83, 2, 4), (75, 0, 3), (75, 1, 21), (75, 2, 25)] : zW) xL_1 12 (none) xE_11 (xE_11.drop 87) [.ref 84, .int a1, .int a2, .int a3, .int a4, .int a5, .int a6, .int a7, .null, .null, .null, .null, .null, .null, .null, .null, .null, .null, .null] [] s Q := by
  unfold v_11_87 at h
  refine zn_ld rfl rfl rfl ?_
  refine zn_c [.ref 84, .ref 84] xo_dup rfl rfl ?_
  refine zn_get (v := .int (s.1 84 5)) rfl (zv_I (a := 84) rfl rfl) ?_
  refine zn_c [.int 1, .int (s.1 84 5), .ref 84] (xo_push (.int 1)) rfl rfl ?_
  replace h := h _ (i_add (x := s.1 84 5) (y := 1) rfl (show (1 : Int32).toInt = 1 by decide))
  refine zn_c [.int ((s.1 84 5) + 1), .ref 84] xo_iadd rfl rfl ?_
  refine zn_putI (a := 84) rfl rfl rfl rfl ⟨Int32.le_toInt _, Int.le_of_lt_add_one (Int32.toInt_lt _)⟩ rfl rfl rfl ?_
  replace h := h _ rfl
  exact zn_ret0 rfl h
set_option maxRecDepth 20000 in
theorem m_11_83_3 {d d0 : Nat} (hd : d = d0 + 8) {R8 : Int32 → Int32 → Int32 → Int32 → Int32 → Int32 → Int32 → zS → Prop} {a1 : Int32} {a2 : Int32} {a3 : Int32} {a4 : Int32} {a5 : Int32} {a6 : Int32} {a7 : Int32} {a8 : Int32} {a9 : Int32} {a10 : Int32} {t1 : Int32} {t2 : Int32} {s : zS} {Q : Option Value → zS → Prop} (r8 : ∀ a1 a2 a3 a4 a5 a6 a7 s, R8 a1 a2 a3 a4 a5 a6 a7 s → Zn d [] [(3, 99), (3, 98)] ([(84, 2, 3), (84, 3, 4), (84, 4, 7), (83, 1, 3), (83, 2, 4), (75, 0, 3), (75, 1, 21), (75, 2, 25)] : zW) ([(84, 2, 3), (84, 3, 4), (84, 4, 7), (83, 1, 3), (83, 2, 4), (75, 0, 3), (75, 1, 21), (75, 2, 25)] : zW) xL_1 12 (none) xE_11 (xE_11.drop 8) [.ref 84, .int a1, .int a2, .int a3, .int a4, .int a5, .int a6, .int a7, .null, .null, .null, .null, .null, .null, .null, .null, .null, .null, .null] [] s Q) (h : v_11_83 (fun j => Zt d (wd 3 j) j) 3 R8 a1 a2 a3 a4 a5 a6 a7 a8 a9 a10 t1 t2 s Q) : Zn d [] [(3, 99), (3, 98)] ([(84, 2, 3), (84, 3, 4), (84, 4, 7), (83, 1, 3), (83, 2, 4), (75, 0, 3), (75, 1, 21), (75, 2, 25)] : zW) ([(84, 2, 3), (84, 3, 4), (84, 4, 7), (83, 1, 3), (83, 2, 4), (75, 0, 3), (75, 1, 21), (75, 2, 25)] : zW) xL_1 12 (none) xE_11 (xE_11.drop 83) [.ref 84, .int a1, .int a2, .int a3, .int a4, .int a5, .int a6, .int a7, .int a8, .int a9, .int a10, .null, .null, .null, .null, .null, .null, .null, .null] [.int t2, .int t1, .ref 84] s Q := by
  unfold v_11_83 at h
  replace h := h _ (i_add (x := t1) (y := t2) rfl rfl)
  refine zn_c [.int (t1 + t2), .ref 84] xo_iadd rfl rfl ?_
  refine zn_putI (a := 84) rfl rfl rfl rfl ⟨Int32.le_toInt _, Int.le_of_lt_add_one (Int32.toInt_lt _)⟩ rfl rfl rfl ?_
  replace h := h _ rfl
  replace h := h _ (i_add (x := a7) (y := 1) rfl (show (1 : Int32).toInt = 1 by decide))
  refine zn_inc [.ref 84, .int a1, .int a2, .int a3, .int a4, .int a5, .int a6, .int (a7 + 1), .int a8, .int a9, .int a10, .null, .null, .null, .null, .null, .null, .null, .null] rfl rfl rfl rfl ?_
  refine zn_go rfl ?_
  refine zn_fg 8 ?_
  refine zn_fg 9 ?_
  refine zn_fg 10 ?_
  exact r8 a1 a2 a3 a4 a5 a6 (a7 + 1) (zf s 84 5 (t1 + t2)) h
set_option maxRecDepth 20000 in
theorem m_11_68_3 {d d0 : Nat} (hd : d = d0 + 8) {R8 : Int32 → Int32 → Int32 → Int32 → Int32 → Int32 → Int32 → zS → Prop} {a1 : Int32} {a2 : Int32} {a3 : Int32} {a4 : Int32} {a5 : Int32} {a6 : Int32} {a7 : Int32} {a8 : Int32} {a9 : Int32} {a10 : Int32} {s : zS} {Q : Option Value → zS → Prop} (r8 : ∀ a1 a2 a3 a4 a5 a6 a7 s, R8 a1 a2 a3 a4 a5 a6 a7 s → Zn d [] [(3, 99), (3, 98)] ([(84, 2, 3), (84, 3, 4), (84, 4, 7), (83, 1, 3), (83, 2, 4), (75, 0, 3), (75, 1, 21), (75, 2, 25)] : zW) ([(84, 2, 3), (84, 3, 4), (84, 4, 7), (83, 1, 3), (83, 2, 4), (75, 0, 3), (75, 1, 21), (75, 2, 25)] : zW) xL_1 12 (none) xE_11 (xE_11.drop 8) [.ref 84, .int a1, .int a2, .int a3, .int a4, .int a5, .int a6, .int a7, .null, .null, .null, .null, .null, .null, .null, .null, .null, .null, .null] [] s Q) (h : v_11_68 (fun j => Zt d (wd 3 j) j) 3 R8 a1 a2 a3 a4 a5 a6 a7 a8 a9 a10 s Q) : Zn d [] [(3, 99), (3, 98)] ([(84, 2, 3), (84, 3, 4), (84, 4, 7), (83, 1, 3), (83, 2, 4), (75, 0, 3), (75, 1, 21), (75, 2, 25)] : zW) ([(84, 2, 3), (84, 3, 4), (84, 4, 7), (83, 1, 3), (83, 2, 4), (75, 0, 3), (75, 1, 21), (75, 2, 25)] : zW) xL_1 12 (none) xE_11 (xE_11.drop 68) [.ref 84, .int a1, .int a2, .int a3, .int a4, .int a5, .int a6, .int a7, .int a8, .int a9, .int a10, .null, .null, .null, .null, .null, .null, .null, .null] [] s Q := by
  unfold v_11_68 at h
  refine zn_ld rfl rfl rfl ?_
  refine zn_get (v := .ref 75) rfl (zv_R (a := 84) rfl rfl) ?_
  refine zn_ld rfl rfl rfl ?_
  refine zn_putI (a := 75) rfl rfl rfl rfl ⟨Int32.le_toInt _, Int.le_of_lt_add_one (Int32.toInt_lt _)⟩ rfl rfl rfl ?_
  replace h := h _ rfl
  refine zn_ld rfl rfl rfl ?_
  refine zn_c [.ref 84, .ref 84] xo_dup rfl rfl ?_
  refine zn_get (v := .int ((zf s 75 3 a8).1 84 5)) rfl (zv_I (a := 84) rfl rfl) ?_
  refine zn_ld rfl rfl rfl ?_
  refine zn_ld rfl rfl rfl ?_
  refine zn_c [.int 1, .int a2, .int a7, .int ((zf s 75 3 a8).1 84 5), .ref 84] (xo_push (.int 1)) rfl rfl ?_
  replace h := h _ (i_sub (x := a2) (y := 1) rfl (show (1 : Int32).toInt = 1 by decide))
  refine zn_c [.int (a2 - 1), .int a7, .int ((zf s 75 3 a8).1 84 5), .ref 84] xo_isub rfl rfl ?_
  refine zn_brP rfl rfl ⟨fun hcn => ?_, fun hcn => ?_⟩
  · replace h := h.1 ((i_le (x := (a2 - 1)) (y := a7) rfl rfl).mp hcn)
    refine zn_c [.int 0, .int ((zf s 75 3 a8).1 84 5), .ref 84] (xo_push (.int 0)) rfl rfl ?_
    exact m_11_83_3 hd r8 h
  · replace h := h.2 (fun q => hcn ((i_le (x := (a2 - 1)) (y := a7) rfl rfl).mpr q))
    refine zn_c [.int 1, .int ((zf s 75 3 a8).1 84 5), .ref 84] (xo_push (.int 1)) rfl rfl ?_
    refine zn_go rfl ?_
    exact m_11_83_3 hd r8 h
set_option maxRecDepth 20000 in
theorem m_11_66_3 {d d0 : Nat} (hd : d = d0 + 8) {R8 : Int32 → Int32 → Int32 → Int32 → Int32 → Int32 → Int32 → zS → Prop} {a1 : Int32} {a2 : Int32} {a3 : Int32} {a4 : Int32} {a5 : Int32} {a6 : Int32} {a7 : Int32} {a8 : Int32} {a9 : Int32} {a10 : Int32} {a11 : Int32} {t1 : Int32} {s : zS} {Q : Option Value → zS → Prop} (r8 : ∀ a1 a2 a3 a4 a5 a6 a7 s, R8 a1 a2 a3 a4 a5 a6 a7 s → Zn d [] [(3, 99), (3, 98)] ([(84, 2, 3), (84, 3, 4), (84, 4, 7), (83, 1, 3), (83, 2, 4), (75, 0, 3), (75, 1, 21), (75, 2, 25)] : zW) ([(84, 2, 3), (84, 3, 4), (84, 4, 7), (83, 1, 3), (83, 2, 4), (75, 0, 3), (75, 1, 21), (75, 2, 25)] : zW) xL_1 12 (none) xE_11 (xE_11.drop 8) [.ref 84, .int a1, .int a2, .int a3, .int a4, .int a5, .int a6, .int a7, .null, .null, .null, .null, .null, .null, .null, .null, .null, .null, .null] [] s Q) (h : v_11_66 (fun j => Zt d (wd 3 j) j) 3 R8 a1 a2 a3 a4 a5 a6 a7 a8 a9 a10 a11 t1 s Q) : Zn d [] [(3, 99), (3, 98)] ([(84, 2, 3), (84, 3, 4), (84, 4, 7), (83, 1, 3), (83, 2, 4), (75, 0, 3), (75, 1, 21), (75, 2, 25)] : zW) ([(84, 2, 3), (84, 3, 4), (84, 4, 7), (83, 1, 3), (83, 2, 4), (75, 0, 3), (75, 1, 21), (75, 2, 25)] : zW) xL_1 12 (none) xE_11 (xE_11.drop 66) [.ref 84, .int a1, .int a2, .int a3, .int a4, .int a5, .int a6, .int a7, .int a8, .int a9, .int a10, .int a11, .null, .null, .null, .null, .null, .null, .null] [.int t1, .ref 3] s Q := by
  unfold v_11_66 at h
  refine zn_ld rfl rfl rfl ?_
  refine zn_zt [.ref 3, .int t1, .int a9] [] rfl rfl rfl rfl rfl (Zt.imp h (fun v1 s2 h => ?_))
  obtain ⟨rfl, h⟩ := h
  change Zn _ _ _ _ _ _ _ _ _ _ _ [] _ _
  refine zn_fg 11 ?_
  exact m_11_68_3 hd r8 h
set_option maxRecDepth 20000 in
theorem m_11_8_3 {d d0 : Nat} (hd : d = d0 + 8) {R8 : Int32 → Int32 → Int32 → Int32 → Int32 → Int32 → Int32 → zS → Prop} {a1 : Int32} {a2 : Int32} {a3 : Int32} {a4 : Int32} {a5 : Int32} {a6 : Int32} {a7 : Int32} {s : zS} {Q : Option Value → zS → Prop} (r8 : ∀ a1 a2 a3 a4 a5 a6 a7 s, R8 a1 a2 a3 a4 a5 a6 a7 s → Zn d [] [(3, 99), (3, 98)] ([(84, 2, 3), (84, 3, 4), (84, 4, 7), (83, 1, 3), (83, 2, 4), (75, 0, 3), (75, 1, 21), (75, 2, 25)] : zW) ([(84, 2, 3), (84, 3, 4), (84, 4, 7), (83, 1, 3), (83, 2, 4), (75, 0, 3), (75, 1, 21), (75, 2, 25)] : zW) xL_1 12 (none) xE_11 (xE_11.drop 8) [.ref 84, .int a1, .int a2, .int a3, .int a4, .int a5, .int a6, .int a7, .null, .null, .null, .null, .null, .null, .null, .null, .null, .null, .null] [] s Q) (h : v_11_8 (fun j => Zt d (wd 3 j) j) 3 R8 a1 a2 a3 a4 a5 a6 a7 s Q) : Zn d [] [(3, 99), (3, 98)] ([(84, 2, 3), (84, 3, 4), (84, 4, 7), (83, 1, 3), (83, 2, 4), (75, 0, 3), (75, 1, 21), (75, 2, 25)] : zW) ([(84, 2, 3), (84, 3, 4), (84, 4, 7), (83, 1, 3), (83, 2, 4), (75, 0, 3), (75, 1, 21), (75, 2, 25)] : zW) xL_1 12 (none) xE_11 (xE_11.drop 8) [.ref 84, .int a1, .int a2, .int a3, .int a4, .int a5, .int a6, .int a7, .null, .null, .null, .null, .null, .null, .null, .null, .null, .null, .null] [] s Q := by
  unfold v_11_8 at h
  refine zn_ld rfl rfl rfl ?_
  refine zn_ld rfl rfl rfl ?_
  refine zn_brP rfl rfl ⟨fun hcn => ?_, fun hcn => ?_⟩
  · replace h := h.1 ((i_le (x := a2) (y := a7) rfl rfl).mp hcn)
    exact m_11_87_3 hd  h
  · replace h := h.2 (fun q => hcn ((i_le (x := a2) (y := a7) rfl rfl).mpr q))
    refine zn_ld rfl rfl rfl ?_
    refine zn_get (v := .ref 3) rfl (zv_C (a := 84) (n := 0) rfl rfl rfl) ?_
    refine zn_get (v := .int (s.1 3 14)) rfl (zv_I (a := 3) rfl rfl) ?_
    refine zn_brN rfl rfl ⟨fun hcn => ?_, fun hcn => ?_⟩
    · replace h := h.1 (fun q => hcn ((i_eq (x := s.1 3 14) (y := 0) rfl (show (0 : Int32).toInt = 0 by decide)).mpr q))
      exact m_11_87_3 hd  h
    · replace h := h.2 ((i_eq (x := s.1 3 14) (y := 0) rfl (show (0 : Int32).toInt = 0 by decide)).mp hcn)
      refine zn_ld rfl rfl rfl ?_
      refine zn_get (v := .ref 75) rfl (zv_R (a := 84) rfl rfl) ?_
      refine zn_get (v := .int (s.1 75 3)) rfl (zv_I (a := 75) rfl rfl) ?_
      refine zn_st [.ref 84, .int a1, .int a2, .int a3, .int a4, .int a5, .int a6, .int a7, .int (s.1 75 3), .null, .null, .null, .null, .null, .null, .null, .null, .null, .null] rfl rfl rfl ?_
      refine zn_ld rfl rfl rfl ?_
      refine zn_get (v := .int (s.1 84 5)) rfl (zv_I (a := 84) rfl rfl) ?_
      refine zn_st [.ref 84, .int a1, .int a2, .int a3, .int a4, .int a5, .int a6, .int a7, .int (s.1 75 3), .int (s.1 84 5), .null, .null, .null, .null, .null, .null, .null, .null, .null] rfl rfl rfl ?_
      refine zn_ld rfl rfl rfl ?_
      refine zn_ld rfl rfl rfl ?_
      refine zn_c [.int 1, .int a6, .ref 84] (xo_push (.int 1)) rfl rfl ?_
      replace h := h _ (i_add (x := a6) (y := 1) rfl (show (1 : Int32).toInt = 1 by decide))
      refine zn_c [.int (a6 + 1), .ref 84] xo_iadd rfl rfl ?_
      refine zn_zt [.ref 84, .int (a6 + 1)] [] rfl rfl rfl rfl rfl (Zt.imp h (fun v2 s3 h => ?_))
      obtain ⟨x4, rfl, h⟩ := h
      change Zn _ _ _ _ _ _ _ _ _ _ _ [.int x4] _ _
      refine zn_st [.ref 84, .int a1, .int a2, .int a3, .int a4, .int a5, .int a6, .int a7, .int (s.1 75 3), .int (s.1 84 5), .int x4, .null, .null, .null, .null, .null, .null, .null, .null] rfl rfl rfl ?_
      refine zn_ld rfl rfl rfl ?_
      refine zn_get (v := .ref 3) rfl (zv_C (a := 84) (n := 0) rfl rfl rfl) ?_
      refine zn_get (v := .int (s3.1 3 14)) rfl (zv_I (a := 3) rfl rfl) ?_
      refine zn_brN rfl rfl ⟨fun hcn => ?_, fun hcn => ?_⟩
      · replace h := h.1 (fun q => hcn ((i_eq (x := s3.1 3 14) (y := 0) rfl (show (0 : Int32).toInt = 0 by decide)).mpr q))
        exact m_11_68_3 hd r8 h
      · replace h := h.2 ((i_eq (x := s3.1 3 14) (y := 0) rfl (show (0 : Int32).toInt = 0 by decide)).mp hcn)
        refine zn_ld rfl rfl rfl ?_
        refine zn_get (v := .ref 75) rfl (zv_R (a := 84) rfl rfl) ?_
        refine zn_ld rfl rfl rfl ?_
        refine zn_get (v := .ref 75) rfl (zv_R (a := 84) rfl rfl) ?_
        refine zn_get (v := .ref 76) rfl (zv_R (a := 75) rfl rfl) ?_
        refine zn_ld rfl rfl rfl ?_
        refine zn_ld rfl rfl rfl ?_
        refine zn_ld rfl rfl rfl ?_
        refine zn_zt [.ref 75, .ref 76, .int a3, .int a4, .int a5] [] rfl rfl rfl rfl rfl (Zt.imp h (fun v5 s6 h => ?_))
        obtain ⟨rfl, h⟩ := h
        change Zn _ _ _ _ _ _ _ _ _ _ _ [] _ _
        refine zn_ld rfl rfl rfl ?_
        refine zn_get (v := .ref 75) rfl (zv_R (a := 84) rfl rfl) ?_
        refine zn_ld rfl rfl rfl ?_
        refine zn_get (v := .ref 3) rfl (zv_C (a := 84) (n := 0) rfl rfl rfl) ?_
        refine zn_ld rfl rfl rfl ?_
        refine zn_ld rfl rfl rfl ?_
        replace h := h _ (i_add (x := a1) (y := a7) rfl rfl)
        refine zn_c [.int (a1 + a7), .ref 3, .ref 75] xo_iadd rfl rfl ?_
        refine zn_c [.int 3, .int (a1 + a7), .ref 3, .ref 75] (xo_push (.int 3)) rfl rfl ?_
        refine zn_zt [.ref 3, .int (a1 + a7), .int 3] [.ref 75] (c := []) rfl rfl rfl rfl rfl (Zt.imp (zp_42 hd (Or.inl rfl)) (fun vq sq hq => ?_))
        obtain ⟨rfl, hq⟩ := hq
        rw [hq]
        change Zn _ _ _ _ _ _ _ _ _ _ _ [.int (zg s6 33 ((a1 + a7) * 5 + 3)), .ref 75] _ _
        refine zn_ld rfl rfl rfl ?_
        refine zn_get (v := .ref 75) rfl (zv_R (a := 84) rfl rfl) ?_
        refine zn_get (v := .ref 76) rfl (zv_R (a := 75) rfl rfl) ?_
        refine zn_zt [.ref 75, .int (zg s6 33 ((a1 + a7) * 5 + 3)), .ref 76] [] rfl rfl rfl rfl rfl (Zt.imp h (fun v9 s10 h => ?_))
        obtain ⟨x11, rfl, h⟩ := h
        change Zn _ _ _ _ _ _ _ _ _ _ _ [.int x11] _ _
        refine zn_st [.ref 84, .int a1, .int a2, .int a3, .int a4, .int a5, .int a6, .int a7, .int (s.1 75 3), .int (s.1 84 5), .int x4, .int x11, .null, .null, .null, .null, .null, .null, .null] rfl rfl rfl ?_
        refine zn_ld rfl rfl rfl ?_
        refine zn_get (v := .ref 3) rfl (zv_C (a := 84) (n := 0) rfl rfl rfl) ?_
        refine zn_ld rfl rfl rfl ?_
        refine zn_brP rfl rfl ⟨fun hcn => ?_, fun hcn => ?_⟩
        · replace h := h.1 ((i_le (x := 0) (y := x11) (show (0 : Int32).toInt = 0 by decide) rfl).mp hcn)
          refine zn_ld rfl rfl rfl ?_
          refine zn_get (v := .ref 75) rfl (zv_R (a := 84) rfl rfl) ?_
          refine zn_ld rfl rfl rfl ?_
          refine zn_ld rfl rfl rfl ?_
          refine zn_zt [.ref 75, .int x4, .int x11] [.ref 3] rfl rfl rfl rfl rfl (Zt.imp h (fun v12 s13 h => ?_))
          obtain ⟨x14, rfl, h⟩ := h
          change Zn _ _ _ _ _ _ _ _ _ _ _ [.int x14, .ref 3] _ _
          exact m_11_66_3 hd r8 h
        · replace h := h.2 (fun q => hcn ((i_le (x := 0) (y := x11) (show (0 : Int32).toInt = 0 by decide) rfl).mpr q))
          refine zn_c [.int 9, .ref 3] (xo_push (.int 9)) rfl rfl ?_
          refine zn_go rfl ?_
          exact m_11_66_3 hd r8 h
theorem ml_11_8_3 {d d0 : Nat} (hd : d = d0 + 8)  {a1 : Int32} {a2 : Int32} {a3 : Int32} {a4 : Int32} {a5 : Int32} {a6 : Int32} {a7 : Int32} {s : zS} {Q : Option Value → zS → Prop}  (h : vl_11_8 (fun j => Zt d (wd 3 j) j) 3  a1 a2 a3 a4 a5 a6 a7 s Q) : Zn d [] [(3, 99), (3, 98)] ([(84, 2, 3), (84, 3, 4), (84, 4, 7), (83, 1, 3), (83, 2, 4), (75, 0, 3), (75, 1, 21), (75, 2, 25)] : zW) ([(84, 2, 3), (84, 3, 4), (84, 4, 7), (83, 1, 3), (83, 2, 4), (75, 0, 3), (75, 1, 21), (75, 2, 25)] : zW) xL_1 12 (none) xE_11 (xE_11.drop 8) [.ref 84, .int a1, .int a2, .int a3, .int a4, .int a5, .int a6, .int a7, .null, .null, .null, .null, .null, .null, .null, .null, .null, .null, .null] [] s Q := by
  obtain ⟨I, μ, h0, h1⟩ := h
  have key : ∀ (n : Nat) (a1 : Int32) (a2 : Int32) (a3 : Int32) (a4 : Int32) (a5 : Int32) (a6 : Int32) (a7 : Int32) (s : zS), μ a1 a2 a3 a4 a5 a6 a7 s = n → I a1 a2 a3 a4 a5 a6 a7 s → Zn d [] [(3, 99), (3, 98)] ([(84, 2, 3), (84, 3, 4), (84, 4, 7), (83, 1, 3), (83, 2, 4), (75, 0, 3), (75, 1, 21), (75, 2, 25)] : zW) ([(84, 2, 3), (84, 3, 4), (84, 4, 7), (83, 1, 3), (83, 2, 4), (75, 0, 3), (75, 1, 21), (75, 2, 25)] : zW) xL_1 12 (none) xE_11 (xE_11.drop 8) [.ref 84, .int a1, .int a2, .int a3, .int a4, .int a5, .int a6, .int a7, .null, .null, .null, .null, .null, .null, .null, .null, .null, .null, .null] [] s Q := by
    intro n
    induction n using Nat.strongRecOn with
    | ind n ih =>
      intro a1 a2 a3 a4 a5 a6 a7 s e hI
      exact m_11_8_3 hd (fun a1' a2' a3' a4' a5' a6' a7' s' q => ih _ (by rw [← e]; exact q.2) a1' a2' a3' a4' a5' a6' a7' s' rfl q.1) (h1 a1 a2 a3 a4 a5 a6 a7 s hI)
  exact key _ a1 a2 a3 a4 a5 a6 a7 s rfl h0
set_option maxRecDepth 20000 in
theorem m_11_0_3 {d d0 : Nat} (hd : d = d0 + 8)  {a1 : Int32} {a2 : Int32} {a3 : Int32} {a4 : Int32} {a5 : Int32} {a6 : Int32} {s : zS} {Q : Option Value → zS → Prop}  (h : v_11_0 (fun j => Zt d (wd 3 j) j) 3  a1 a2 a3 a4 a5 a6 s Q) : Zn d [] [(3, 99), (3, 98)] ([(84, 2, 3), (84, 3, 4), (84, 4, 7), (83, 1, 3), (83, 2, 4), (75, 0, 3), (75, 1, 21), (75, 2, 25)] : zW) ([(84, 2, 3), (84, 3, 4), (84, 4, 7), (83, 1, 3), (83, 2, 4), (75, 0, 3), (75, 1, 21), (75, 2, 25)] : zW) xL_1 12 (none) xE_11 (xE_11.drop 0) [.ref 84, .int a1, .int a2, .int a3, .int a4, .int a5, .int a6, .null, .null, .null, .null, .null, .null, .null, .null, .null, .null, .null, .null] [] s Q := by
  unfold v_11_0 at h
  refine zn_ld rfl rfl rfl ?_
  refine zn_c [.ref 84, .ref 84] xo_dup rfl rfl ?_
  refine zn_get (v := .int (s.1 84 5)) rfl (zv_I (a := 84) rfl rfl) ?_
  refine zn_c [.int 1, .int (s.1 84 5), .ref 84] (xo_push (.int 1)) rfl rfl ?_
  replace h := h _ (i_add (x := s.1 84 5) (y := 1) rfl (show (1 : Int32).toInt = 1 by decide))
  refine zn_c [.int ((s.1 84 5) + 1), .ref 84] xo_iadd rfl rfl ?_
  refine zn_putI (a := 84) rfl rfl rfl rfl ⟨Int32.le_toInt _, Int.le_of_lt_add_one (Int32.toInt_lt _)⟩ rfl rfl rfl ?_
  replace h := h _ rfl
  refine zn_c [.int 0] (xo_push (.int 0)) rfl rfl ?_
  refine zn_st [.ref 84, .int a1, .int a2, .int a3, .int a4, .int a5, .int a6, .int 0, .null, .null, .null, .null, .null, .null, .null, .null, .null, .null, .null] rfl rfl rfl ?_
  exact ml_11_8_3 hd  h
theorem zq_11_3 {d : Nat} {a1 : Int32} {a2 : Int32} {a3 : Int32} {a4 : Int32} {a5 : Int32} {a6 : Int32} {s : zS} {Q : Option Value → zS → Prop} (h : v_11_0 (fun j => Zt (d + 8) (wd 3 j) j) 3 a1 a2 a3 a4 a5 a6 s Q) : Zt (d + 9) ([(84, 2, 3), (84, 3, 4), (84, 4, 7), (83, 1, 3), (83, 2, 4), (75, 0, 3), (75, 1, 21), (75, 2, 25)] : zW) 11 [.ref 84, .int a1, .int a2, .int a3, .int a4, .int a5, .int a6] s Q := zt_of (E := xE_11) (L := xL_1) (ml := 12) (ret := none) rfl rfl rfl (m_11_0_3 rfl h)
set_option maxRecDepth 20000 in
theorem m_11_87_39 {d d0 : Nat} (hd : d = d0 + 8)  {a1 : Int32} {a2 : Int32} {a3 : Int32} {a4 : Int32} {a5 : Int32} {a6 : Int32} {a7 : Int32} {s : zS} {Q : Option Value → zS → Prop}  (h : v_11_87 (fun j => Zt d (wd 39 j) j) 39  a1 a2 a3 a4 a5 a6 a7 s Q) : Zn d [] [(39, 99), (39, 98)] ([(84, 2, 39), (84, 3, 40), (84, 4, 43), (83, 1, 39), (83, 2, 40), (75, 0, 39), (75, 1, 57), (75, 2, 61)] : zW) ([(84, 2, 39), (84, 3, 40), (84, 4, 43), (83, 1, 39), (83, 2, 40), (75, 0, 39), (75, 1, 57), (75, 2, 61)] : zW) xL_1 12 (none) xE_11 (xE_11.drop 87) [.ref 84, .int a1, .int a2, .int a3, .int a4, .int a5, .int a6, .int a7, .null, .null, .null, .null, .null, .null, .null, .null, .null, .null, .null] [] s Q := by
  unfold v_11_87 at h
  refine zn_ld rfl rfl rfl ?_
  refine zn_c [.ref 84, .ref 84] xo_dup rfl rfl ?_
  refine zn_get (v := .int (s.1 84 5)) rfl (zv_I (a := 84) rfl rfl) ?_
  refine zn_c [.int 1, .int (s.1 84 5), .ref 84] (xo_push (.int 1)) rfl rfl ?_
  replace h := h _ (i_add (x := s.1 84 5) (y := 1) rfl (show (1 : Int32).toInt = 1 by decide))
  refine zn_c [.int ((s.1 84 5) + 1), .ref 84] xo_iadd rfl rfl ?_
  refine zn_putI (a := 84) rfl rfl rfl rfl ⟨Int32.le_toInt _, Int.le_of_lt_add_one (Int32.toInt_lt _)⟩ rfl rfl rfl ?_
  replace h := h _ rfl
  exact zn_ret0 rfl h
set_option maxRecDepth 20000 in
theorem m_11_83_39 {d d0 : Nat} (hd : d = d0 + 8) {R8 : Int32 → Int32 → Int32 → Int32 → Int32 → Int32 → Int32 → zS → Prop} {a1 : Int32} {a2 : Int32} {a3 : Int32} {a4 : Int32} {a5 : Int32} {a6 : Int32} {a7 : Int32} {a8 : Int32} {a9 : Int32} {a10 : Int32} {t1 : Int32} {t2 : Int32} {s : zS} {Q : Option Value → zS → Prop} (r8 : ∀ a1 a2 a3 a4 a5 a6 a7 s, R8 a1 a2 a3 a4 a5 a6 a7 s → Zn d [] [(39, 99), (39, 98)] ([(84, 2, 39), (84, 3, 40), (84, 4, 43), (83, 1, 39), (83, 2, 40), (75, 0, 39), (75, 1, 57), (75, 2, 61)] : zW) ([(84, 2, 39), (84, 3, 40), (84, 4, 43), (83, 1, 39), (83, 2, 40), (75, 0, 39), (75, 1, 57), (75, 2, 61)] : zW) xL_1 12 (none) xE_11 (xE_11.drop 8) [.ref 84, .int a1, .int a2, .int a3, .int a4, .int a5, .int a6, .int a7, .null, .null, .null, .null, .null, .null, .null, .null, .null, .null, .null] [] s Q) (h : v_11_83 (fun j => Zt d (wd 39 j) j) 39 R8 a1 a2 a3 a4 a5 a6 a7 a8 a9 a10 t1 t2 s Q) : Zn d [] [(39, 99), (39, 98)] ([(84, 2, 39), (84, 3, 40), (84, 4, 43), (83, 1, 39), (83, 2, 40), (75, 0, 39), (75, 1, 57), (75, 2, 61)] : zW) ([(84, 2, 39), (84, 3, 40), (84, 4, 43), (83, 1, 39), (83, 2, 40), (75, 0, 39), (75, 1, 57), (75, 2, 61)] : zW) xL_1 12 (none) xE_11 (xE_11.drop 83) [.ref 84, .int a1, .int a2, .int a3, .int a4, .int a5, .int a6, .int a7, .int a8, .int a9, .int a10, .null, .null, .null, .null, .null, .null, .null, .null] [.int t2, .int t1, .ref 84] s Q := by
  unfold v_11_83 at h
  replace h := h _ (i_add (x := t1) (y := t2) rfl rfl)
  refine zn_c [.int (t1 + t2), .ref 84] xo_iadd rfl rfl ?_
  refine zn_putI (a := 84) rfl rfl rfl rfl ⟨Int32.le_toInt _, Int.le_of_lt_add_one (Int32.toInt_lt _)⟩ rfl rfl rfl ?_
  replace h := h _ rfl
  replace h := h _ (i_add (x := a7) (y := 1) rfl (show (1 : Int32).toInt = 1 by decide))
  refine zn_inc [.ref 84, .int a1, .int a2, .int a3, .int a4, .int a5, .int a6, .int (a7 + 1), .int a8, .int a9, .int a10, .null, .null, .null, .null, .null, .null, .null, .null] rfl rfl rfl rfl ?_
  refine zn_go rfl ?_
  refine zn_fg 8 ?_
  refine zn_fg 9 ?_
  refine zn_fg 10 ?_
  exact r8 a1 a2 a3 a4 a5 a6 (a7 + 1) (zf s 84 5 (t1 + t2)) h
set_option maxRecDepth 20000 in
theorem m_11_68_39 {d d0 : Nat} (hd : d = d0 + 8) {R8 : Int32 → Int32 → Int32 → Int32 → Int32 → Int32 → Int32 → zS → Prop} {a1 : Int32} {a2 : Int32} {a3 : Int32} {a4 : Int32} {a5 : Int32} {a6 : Int32} {a7 : Int32} {a8 : Int32} {a9 : Int32} {a10 : Int32} {s : zS} {Q : Option Value → zS → Prop} (r8 : ∀ a1 a2 a3 a4 a5 a6 a7 s, R8 a1 a2 a3 a4 a5 a6 a7 s → Zn d [] [(39, 99), (39, 98)] ([(84, 2, 39), (84, 3, 40), (84, 4, 43), (83, 1, 39), (83, 2, 40), (75, 0, 39), (75, 1, 57), (75, 2, 61)] : zW) ([(84, 2, 39), (84, 3, 40), (84, 4, 43), (83, 1, 39), (83, 2, 40), (75, 0, 39), (75, 1, 57), (75, 2, 61)] : zW) xL_1 12 (none) xE_11 (xE_11.drop 8) [.ref 84, .int a1, .int a2, .int a3, .int a4, .int a5, .int a6, .int a7, .null, .null, .null, .null, .null, .null, .null, .null, .null, .null, .null] [] s Q) (h : v_11_68 (fun j => Zt d (wd 39 j) j) 39 R8 a1 a2 a3 a4 a5 a6 a7 a8 a9 a10 s Q) : Zn d [] [(39, 99), (39, 98)] ([(84, 2, 39), (84, 3, 40), (84, 4, 43), (83, 1, 39), (83, 2, 40), (75, 0, 39), (75, 1, 57), (75, 2, 61)] : zW) ([(84, 2, 39), (84, 3, 40), (84, 4, 43), (83, 1, 39), (83, 2, 40), (75, 0, 39), (75, 1, 57), (75, 2, 61)] : zW) xL_1 12 (none) xE_11 (xE_11.drop 68) [.ref 84, .int a1, .int a2, .int a3, .int a4, .int a5, .int a6, .int a7, .int a8, .int a9, .int a10, .null, .null, .null, .null, .null, .null, .null, .null] [] s Q := by
  unfold v_11_68 at h
  refine zn_ld rfl rfl rfl ?_
  refine zn_get (v := .ref 75) rfl (zv_R (a := 84) rfl rfl) ?_
  refine zn_ld rfl rfl rfl ?_
  refine zn_putI (a := 75) rfl rfl rfl rfl ⟨Int32.le_toInt _, Int.le_of_lt_add_one (Int32.toInt_lt _)⟩ rfl rfl rfl ?_
  replace h := h _ rfl
  refine zn_ld rfl rfl rfl ?_
  refine zn_c [.ref 84, .ref 84] xo_dup rfl rfl ?_
  refine zn_get (v := .int ((zf s 75 3 a8).1 84 5)) rfl (zv_I (a := 84) rfl rfl) ?_
  refine zn_ld rfl rfl rfl ?_
  refine zn_ld rfl rfl rfl ?_
  refine zn_c [.int 1, .int a2, .int a7, .int ((zf s 75 3 a8).1 84 5), .ref 84] (xo_push (.int 1)) rfl rfl ?_
  replace h := h _ (i_sub (x := a2) (y := 1) rfl (show (1 : Int32).toInt = 1 by decide))
  refine zn_c [.int (a2 - 1), .int a7, .int ((zf s 75 3 a8).1 84 5), .ref 84] xo_isub rfl rfl ?_
  refine zn_brP rfl rfl ⟨fun hcn => ?_, fun hcn => ?_⟩
  · replace h := h.1 ((i_le (x := (a2 - 1)) (y := a7) rfl rfl).mp hcn)
    refine zn_c [.int 0, .int ((zf s 75 3 a8).1 84 5), .ref 84] (xo_push (.int 0)) rfl rfl ?_
    exact m_11_83_39 hd r8 h
  · replace h := h.2 (fun q => hcn ((i_le (x := (a2 - 1)) (y := a7) rfl rfl).mpr q))
    refine zn_c [.int 1, .int ((zf s 75 3 a8).1 84 5), .ref 84] (xo_push (.int 1)) rfl rfl ?_
    refine zn_go rfl ?_
    exact m_11_83_39 hd r8 h
set_option maxRecDepth 20000 in
theorem m_11_66_39 {d d0 : Nat} (hd : d = d0 + 8) {R8 : Int32 → Int32 → Int32 → Int32 → Int32 → Int32 → Int32 → zS → Prop} {a1 : Int32} {a2 : Int32} {a3 : Int32} {a4 : Int32} {a5 : Int32} {a6 : Int32} {a7 : Int32} {a8 : Int32} {a9 : Int32} {a10 : Int32} {a11 : Int32} {t1 : Int32} {s : zS} {Q : Option Value → zS → Prop} (r8 : ∀ a1 a2 a3 a4 a5 a6 a7 s, R8 a1 a2 a3 a4 a5 a6 a7 s → Zn d [] [(39, 99), (39, 98)] ([(84, 2, 39), (84, 3, 40), (84, 4, 43), (83, 1, 39), (83, 2, 40), (75, 0, 39), (75, 1, 57), (75, 2, 61)] : zW) ([(84, 2, 39), (84, 3, 40), (84, 4, 43), (83, 1, 39), (83, 2, 40), (75, 0, 39), (75, 1, 57), (75, 2, 61)] : zW) xL_1 12 (none) xE_11 (xE_11.drop 8) [.ref 84, .int a1, .int a2, .int a3, .int a4, .int a5, .int a6, .int a7, .null, .null, .null, .null, .null, .null, .null, .null, .null, .null, .null] [] s Q) (h : v_11_66 (fun j => Zt d (wd 39 j) j) 39 R8 a1 a2 a3 a4 a5 a6 a7 a8 a9 a10 a11 t1 s Q) : Zn d [] [(39, 99), (39, 98)] ([(84, 2, 39), (84, 3, 40), (84, 4, 43), (83, 1, 39), (83, 2, 40), (75, 0, 39), (75, 1, 57), (75, 2, 61)] : zW) ([(84, 2, 39), (84, 3, 40), (84, 4, 43), (83, 1, 39), (83, 2, 40), (75, 0, 39), (75, 1, 57), (75, 2, 61)] : zW) xL_1 12 (none) xE_11 (xE_11.drop 66) [.ref 84, .int a1, .int a2, .int a3, .int a4, .int a5, .int a6, .int a7, .int a8, .int a9, .int a10, .int a11, .null, .null, .null, .null, .null, .null, .null] [.int t1, .ref 39] s Q := by
  unfold v_11_66 at h
  refine zn_ld rfl rfl rfl ?_
  refine zn_zt [.ref 39, .int t1, .int a9] [] rfl rfl rfl rfl rfl (Zt.imp h (fun v1 s2 h => ?_))
  obtain ⟨rfl, h⟩ := h
  change Zn _ _ _ _ _ _ _ _ _ _ _ [] _ _
  refine zn_fg 11 ?_
  exact m_11_68_39 hd r8 h
set_option maxRecDepth 20000 in
theorem m_11_8_39 {d d0 : Nat} (hd : d = d0 + 8) {R8 : Int32 → Int32 → Int32 → Int32 → Int32 → Int32 → Int32 → zS → Prop} {a1 : Int32} {a2 : Int32} {a3 : Int32} {a4 : Int32} {a5 : Int32} {a6 : Int32} {a7 : Int32} {s : zS} {Q : Option Value → zS → Prop} (r8 : ∀ a1 a2 a3 a4 a5 a6 a7 s, R8 a1 a2 a3 a4 a5 a6 a7 s → Zn d [] [(39, 99), (39, 98)] ([(84, 2, 39), (84, 3, 40), (84, 4, 43), (83, 1, 39), (83, 2, 40), (75, 0, 39), (75, 1, 57), (75, 2, 61)] : zW) ([(84, 2, 39), (84, 3, 40), (84, 4, 43), (83, 1, 39), (83, 2, 40), (75, 0, 39), (75, 1, 57), (75, 2, 61)] : zW) xL_1 12 (none) xE_11 (xE_11.drop 8) [.ref 84, .int a1, .int a2, .int a3, .int a4, .int a5, .int a6, .int a7, .null, .null, .null, .null, .null, .null, .null, .null, .null, .null, .null] [] s Q) (h : v_11_8 (fun j => Zt d (wd 39 j) j) 39 R8 a1 a2 a3 a4 a5 a6 a7 s Q) : Zn d [] [(39, 99), (39, 98)] ([(84, 2, 39), (84, 3, 40), (84, 4, 43), (83, 1, 39), (83, 2, 40), (75, 0, 39), (75, 1, 57), (75, 2, 61)] : zW) ([(84, 2, 39), (84, 3, 40), (84, 4, 43), (83, 1, 39), (83, 2, 40), (75, 0, 39), (75, 1, 57), (75, 2, 61)] : zW) xL_1 12 (none) xE_11 (xE_11.drop 8) [.ref 84, .int a1, .int a2, .int a3, .int a4, .int a5, .int a6, .int a7, .null, .null, .null, .null, .null, .null, .null, .null, .null, .null, .null] [] s Q := by
  unfold v_11_8 at h
  refine zn_ld rfl rfl rfl ?_
  refine zn_ld rfl rfl rfl ?_
  refine zn_brP rfl rfl ⟨fun hcn => ?_, fun hcn => ?_⟩
  · replace h := h.1 ((i_le (x := a2) (y := a7) rfl rfl).mp hcn)
    exact m_11_87_39 hd  h
  · replace h := h.2 (fun q => hcn ((i_le (x := a2) (y := a7) rfl rfl).mpr q))
    refine zn_ld rfl rfl rfl ?_
    refine zn_get (v := .ref 39) rfl (zv_C (a := 84) (n := 0) rfl rfl rfl) ?_
    refine zn_get (v := .int (s.1 39 14)) rfl (zv_I (a := 39) rfl rfl) ?_
    refine zn_brN rfl rfl ⟨fun hcn => ?_, fun hcn => ?_⟩
    · replace h := h.1 (fun q => hcn ((i_eq (x := s.1 39 14) (y := 0) rfl (show (0 : Int32).toInt = 0 by decide)).mpr q))
      exact m_11_87_39 hd  h
    · replace h := h.2 ((i_eq (x := s.1 39 14) (y := 0) rfl (show (0 : Int32).toInt = 0 by decide)).mp hcn)
      refine zn_ld rfl rfl rfl ?_
      refine zn_get (v := .ref 75) rfl (zv_R (a := 84) rfl rfl) ?_
      refine zn_get (v := .int (s.1 75 3)) rfl (zv_I (a := 75) rfl rfl) ?_
      refine zn_st [.ref 84, .int a1, .int a2, .int a3, .int a4, .int a5, .int a6, .int a7, .int (s.1 75 3), .null, .null, .null, .null, .null, .null, .null, .null, .null, .null] rfl rfl rfl ?_
      refine zn_ld rfl rfl rfl ?_
      refine zn_get (v := .int (s.1 84 5)) rfl (zv_I (a := 84) rfl rfl) ?_
      refine zn_st [.ref 84, .int a1, .int a2, .int a3, .int a4, .int a5, .int a6, .int a7, .int (s.1 75 3), .int (s.1 84 5), .null, .null, .null, .null, .null, .null, .null, .null, .null] rfl rfl rfl ?_
      refine zn_ld rfl rfl rfl ?_
      refine zn_ld rfl rfl rfl ?_
      refine zn_c [.int 1, .int a6, .ref 84] (xo_push (.int 1)) rfl rfl ?_
      replace h := h _ (i_add (x := a6) (y := 1) rfl (show (1 : Int32).toInt = 1 by decide))
      refine zn_c [.int (a6 + 1), .ref 84] xo_iadd rfl rfl ?_
      refine zn_zt [.ref 84, .int (a6 + 1)] [] rfl rfl rfl rfl rfl (Zt.imp h (fun v2 s3 h => ?_))
      obtain ⟨x4, rfl, h⟩ := h
      change Zn _ _ _ _ _ _ _ _ _ _ _ [.int x4] _ _
      refine zn_st [.ref 84, .int a1, .int a2, .int a3, .int a4, .int a5, .int a6, .int a7, .int (s.1 75 3), .int (s.1 84 5), .int x4, .null, .null, .null, .null, .null, .null, .null, .null] rfl rfl rfl ?_
      refine zn_ld rfl rfl rfl ?_
      refine zn_get (v := .ref 39) rfl (zv_C (a := 84) (n := 0) rfl rfl rfl) ?_
      refine zn_get (v := .int (s3.1 39 14)) rfl (zv_I (a := 39) rfl rfl) ?_
      refine zn_brN rfl rfl ⟨fun hcn => ?_, fun hcn => ?_⟩
      · replace h := h.1 (fun q => hcn ((i_eq (x := s3.1 39 14) (y := 0) rfl (show (0 : Int32).toInt = 0 by decide)).mpr q))
        exact m_11_68_39 hd r8 h
      · replace h := h.2 ((i_eq (x := s3.1 39 14) (y := 0) rfl (show (0 : Int32).toInt = 0 by decide)).mp hcn)
        refine zn_ld rfl rfl rfl ?_
        refine zn_get (v := .ref 75) rfl (zv_R (a := 84) rfl rfl) ?_
        refine zn_ld rfl rfl rfl ?_
        refine zn_get (v := .ref 75) rfl (zv_R (a := 84) rfl rfl) ?_
        refine zn_get (v := .ref 76) rfl (zv_R (a := 75) rfl rfl) ?_
        refine zn_ld rfl rfl rfl ?_
        refine zn_ld rfl rfl rfl ?_
        refine zn_ld rfl rfl rfl ?_
        refine zn_zt [.ref 75, .ref 76, .int a3, .int a4, .int a5] [] rfl rfl rfl rfl rfl (Zt.imp h (fun v5 s6 h => ?_))
        obtain ⟨rfl, h⟩ := h
        change Zn _ _ _ _ _ _ _ _ _ _ _ [] _ _
        refine zn_ld rfl rfl rfl ?_
        refine zn_get (v := .ref 75) rfl (zv_R (a := 84) rfl rfl) ?_
        refine zn_ld rfl rfl rfl ?_
        refine zn_get (v := .ref 39) rfl (zv_C (a := 84) (n := 0) rfl rfl rfl) ?_
        refine zn_ld rfl rfl rfl ?_
        refine zn_ld rfl rfl rfl ?_
        replace h := h _ (i_add (x := a1) (y := a7) rfl rfl)
        refine zn_c [.int (a1 + a7), .ref 39, .ref 75] xo_iadd rfl rfl ?_
        refine zn_c [.int 3, .int (a1 + a7), .ref 39, .ref 75] (xo_push (.int 3)) rfl rfl ?_
        refine zn_zt [.ref 39, .int (a1 + a7), .int 3] [.ref 75] (c := []) rfl rfl rfl rfl rfl (Zt.imp (zp_42 hd (Or.inr rfl)) (fun vq sq hq => ?_))
        obtain ⟨rfl, hq⟩ := hq
        rw [hq]
        change Zn _ _ _ _ _ _ _ _ _ _ _ [.int (zg s6 69 ((a1 + a7) * 5 + 3)), .ref 75] _ _
        refine zn_ld rfl rfl rfl ?_
        refine zn_get (v := .ref 75) rfl (zv_R (a := 84) rfl rfl) ?_
        refine zn_get (v := .ref 76) rfl (zv_R (a := 75) rfl rfl) ?_
        refine zn_zt [.ref 75, .int (zg s6 69 ((a1 + a7) * 5 + 3)), .ref 76] [] rfl rfl rfl rfl rfl (Zt.imp h (fun v9 s10 h => ?_))
        obtain ⟨x11, rfl, h⟩ := h
        change Zn _ _ _ _ _ _ _ _ _ _ _ [.int x11] _ _
        refine zn_st [.ref 84, .int a1, .int a2, .int a3, .int a4, .int a5, .int a6, .int a7, .int (s.1 75 3), .int (s.1 84 5), .int x4, .int x11, .null, .null, .null, .null, .null, .null, .null] rfl rfl rfl ?_
        refine zn_ld rfl rfl rfl ?_
        refine zn_get (v := .ref 39) rfl (zv_C (a := 84) (n := 0) rfl rfl rfl) ?_
        refine zn_ld rfl rfl rfl ?_
        refine zn_brP rfl rfl ⟨fun hcn => ?_, fun hcn => ?_⟩
        · replace h := h.1 ((i_le (x := 0) (y := x11) (show (0 : Int32).toInt = 0 by decide) rfl).mp hcn)
          refine zn_ld rfl rfl rfl ?_
          refine zn_get (v := .ref 75) rfl (zv_R (a := 84) rfl rfl) ?_
          refine zn_ld rfl rfl rfl ?_
          refine zn_ld rfl rfl rfl ?_
          refine zn_zt [.ref 75, .int x4, .int x11] [.ref 39] rfl rfl rfl rfl rfl (Zt.imp h (fun v12 s13 h => ?_))
          obtain ⟨x14, rfl, h⟩ := h
          change Zn _ _ _ _ _ _ _ _ _ _ _ [.int x14, .ref 39] _ _
          exact m_11_66_39 hd r8 h
        · replace h := h.2 (fun q => hcn ((i_le (x := 0) (y := x11) (show (0 : Int32).toInt = 0 by decide) rfl).mpr q))
          refine zn_c [.int 9, .ref 39] (xo_push (.int 9)) rfl rfl ?_
          refine zn_go rfl ?_
          exact m_11_66_39 hd r8 h
theorem ml_11_8_39 {d d0 : Nat} (hd : d = d0 + 8)  {a1 : Int32} {a2 : Int32} {a3 : Int32} {a4 : Int32} {a5 : Int32} {a6 : Int32} {a7 : Int32} {s : zS} {Q : Option Value → zS → Prop}  (h : vl_11_8 (fun j => Zt d (wd 39 j) j) 39  a1 a2 a3 a4 a5 a6 a7 s Q) : Zn d [] [(39, 99), (39, 98)] ([(84, 2, 39), (84, 3, 40), (84, 4, 43), (83, 1, 39), (83, 2, 40), (75, 0, 39), (75, 1, 57), (75, 2, 61)] : zW) ([(84, 2, 39), (84, 3, 40), (84, 4, 43), (83, 1, 39), (83, 2, 40), (75, 0, 39), (75, 1, 57), (75, 2, 61)] : zW) xL_1 12 (none) xE_11 (xE_11.drop 8) [.ref 84, .int a1, .int a2, .int a3, .int a4, .int a5, .int a6, .int a7, .null, .null, .null, .null, .null, .null, .null, .null, .null, .null, .null] [] s Q := by
  obtain ⟨I, μ, h0, h1⟩ := h
  have key : ∀ (n : Nat) (a1 : Int32) (a2 : Int32) (a3 : Int32) (a4 : Int32) (a5 : Int32) (a6 : Int32) (a7 : Int32) (s : zS), μ a1 a2 a3 a4 a5 a6 a7 s = n → I a1 a2 a3 a4 a5 a6 a7 s → Zn d [] [(39, 99), (39, 98)] ([(84, 2, 39), (84, 3, 40), (84, 4, 43), (83, 1, 39), (83, 2, 40), (75, 0, 39), (75, 1, 57), (75, 2, 61)] : zW) ([(84, 2, 39), (84, 3, 40), (84, 4, 43), (83, 1, 39), (83, 2, 40), (75, 0, 39), (75, 1, 57), (75, 2, 61)] : zW) xL_1 12 (none) xE_11 (xE_11.drop 8) [.ref 84, .int a1, .int a2, .int a3, .int a4, .int a5, .int a6, .int a7, .null, .null, .null, .null, .null, .null, .null, .null, .null, .null, .null] [] s Q := by
    intro n
    induction n using Nat.strongRecOn with
    | ind n ih =>
      intro a1 a2 a3 a4 a5 a6 a7 s e hI
      exact m_11_8_39 hd (fun a1' a2' a3' a4' a5' a6' a7' s' q => ih _ (by rw [← e]; exact q.2) a1' a2' a3' a4' a5' a6' a7' s' rfl q.1) (h1 a1 a2 a3 a4 a5 a6 a7 s hI)
  exact key _ a1 a2 a3 a4 a5 a6 a7 s rfl h0
set_option maxRecDepth 20000 in
theorem m_11_0_39 {d d0 : Nat} (hd : d = d0 + 8)  {a1 : Int32} {a2 : Int32} {a3 : Int32} {a4 : Int32} {a5 : Int32} {a6 : Int32} {s : zS} {Q : Option Value → zS → Prop}  (h : v_11_0 (fun j => Zt d (wd 39 j) j) 39  a1 a2 a3 a4 a5 a6 s Q) : Zn d [] [(39, 99), (39, 98)] ([(84, 2, 39), (84, 3, 40), (84, 4, 43), (83, 1, 39), (83, 2, 40), (75, 0, 39), (75, 1, 57), (75, 2, 61)] : zW) ([(84, 2, 39), (84, 3, 40), (84, 4, 43), (83, 1, 39), (83, 2, 40), (75, 0, 39), (75, 1, 57), (75, 2, 61)] : zW) xL_1 12 (none) xE_11 (xE_11.drop 0) [.ref 84, .int a1, .int a2, .int a3, .int a4, .int a5, .int a6, .null, .null, .null, .null, .null, .null, .null, .null, .null, .null, .null, .null] [] s Q := by
  unfold v_11_0 at h
  refine zn_ld rfl rfl rfl ?_
  refine zn_c [.ref 84, .ref 84] xo_dup rfl rfl ?_
  refine zn_get (v := .int (s.1 84 5)) rfl (zv_I (a := 84) rfl rfl) ?_
  refine zn_c [.int 1, .int (s.1 84 5), .ref 84] (xo_push (.int 1)) rfl rfl ?_
  replace h := h _ (i_add (x := s.1 84 5) (y := 1) rfl (show (1 : Int32).toInt = 1 by decide))
  refine zn_c [.int ((s.1 84 5) + 1), .ref 84] xo_iadd rfl rfl ?_
  refine zn_putI (a := 84) rfl rfl rfl rfl ⟨Int32.le_toInt _, Int.le_of_lt_add_one (Int32.toInt_lt _)⟩ rfl rfl rfl ?_
  replace h := h _ rfl
  refine zn_c [.int 0] (xo_push (.int 0)) rfl rfl ?_
  refine zn_st [.ref 84, .int a1, .int a2, .int a3, .int a4, .int a5, .int a6, .int 0, .null, .null, .null, .null, .null, .null, .null, .null, .null, .null, .null] rfl rfl rfl ?_
  exact ml_11_8_39 hd  h
theorem zq_11_39 {d : Nat} {a1 : Int32} {a2 : Int32} {a3 : Int32} {a4 : Int32} {a5 : Int32} {a6 : Int32} {s : zS} {Q : Option Value → zS → Prop} (h : v_11_0 (fun j => Zt (d + 8) (wd 39 j) j) 39 a1 a2 a3 a4 a5 a6 s Q) : Zt (d + 9) ([(84, 2, 39), (84, 3, 40), (84, 4, 43), (83, 1, 39), (83, 2, 40), (75, 0, 39), (75, 1, 57), (75, 2, 61)] : zW) 11 [.ref 84, .int a1, .int a2, .int a3, .int a4, .int a5, .int a6] s Q := zt_of (E := xE_11) (L := xL_1) (ml := 12) (ret := none) rfl rfl rfl (m_11_0_39 rfl h)
theorem zc_11 {d P : Nat} (hP : P = 3 ∨ P = 39) {a1 : Int32} {a2 : Int32} {a3 : Int32} {a4 : Int32} {a5 : Int32} {a6 : Int32} {s : zS} {Q : Option Value → zS → Prop} (h : v_11_0 (fun j => Zt (d + 8) (wd P j) j) P a1 a2 a3 a4 a5 a6 s Q) : Zt (d + 9) (wd P 11) 11 [.ref 84, .int a1, .int a2, .int a3, .int a4, .int a5, .int a6] s Q := by
  rcases hP with rfl | rfl
  · exact zq_11_3 h
  · exact zq_11_39 h
/-! FeatherBench$Bodies.field -/
def v_12_29 (T : Nat → List Value → zS → (Option Value → zS → Prop) → Prop) (P : Nat) (R29 : Int32 → Int32 → Int32 → Int32 → Int32 → zS → Prop) (a1 : Int32) (a2 : Int32) (a3 : Int32) (a4 : Int32) (a5 : Int32) (s : zS) (Q : Option Value → zS → Prop) : Prop :=
  ((zg s (P + 24) (a4 * 6 + 4)).toInt ≤ a5.toInt → T 38 [.ref P, .int 2, .int a3] s (fun v2 s3 => v2 = none ∧ (Q (some (.int a1)) s3))) ∧ (¬ ((zg s (P + 24) (a4 * 6 + 4)).toInt ≤ a5.toInt) → ∀ x5 : Int32, (-2147483648 ≤ (zg s (P + 24) (a4 * 6 + 3)).toInt + a5.toInt ∧ (zg s (P + 24) (a4 * 6 + 3)).toInt + a5.toInt ≤ 2147483647 → x5.toInt = (zg s (P + 24) (a4 * 6 + 3)).toInt + a5.toInt) → (¬ ((zg s (P + 10) (zg s (P + 30) (x5 * 5 + 0))).toInt = (zg s (P + 10) a3).toInt) → ∀ x7 : Int32, (-2147483648 ≤ a5.toInt + 1 ∧ a5.toInt + 1 ≤ 2147483647 → x7.toInt = a5.toInt + 1) → R29 a1 a2 a3 a4 x7 s) ∧ ((zg s (P + 10) (zg s (P + 30) (x5 * 5 + 0))).toInt = (zg s (P + 10) a3).toInt → T 59 [.ref P, .int 4, .int a5, .int 0, .int 0, .int 0, .int 0] s (fun v8 s9 => v8 = none ∧ (T 13 [.ref 84, .int x5, .int a1, .int 0, .int 0, .int a3] s9 (fun v10 s11 => ∃ x12, v10 = some (.int x12) ∧ (Q (some (.int x12)) s11))))))
def vl_12_29 (T : Nat → List Value → zS → (Option Value → zS → Prop) → Prop) (P : Nat)  (a1 : Int32) (a2 : Int32) (a3 : Int32) (a4 : Int32) (a5 : Int32) (s : zS) (Q : Option Value → zS → Prop) : Prop :=
  ∃ (I : Int32 → Int32 → Int32 → Int32 → Int32 → zS → Prop) (μ : Int32 → Int32 → Int32 → Int32 → Int32 → zS → Nat), I a1 a2 a3 a4 a5 s ∧ ∀ (a1 : Int32) (a2 : Int32) (a3 : Int32) (a4 : Int32) (a5 : Int32) (s : zS), I a1 a2 a3 a4 a5 s → v_12_29 T P (fun a1' a2' a3' a4' a5' s' => I a1' a2' a3' a4' a5' s' ∧ μ a1' a2' a3' a4' a5' s' < μ a1 a2 a3 a4 a5 s) a1 a2 a3 a4 a5 s Q
def v_12_0 (T : Nat → List Value → zS → (Option Value → zS → Prop) → Prop) (P : Nat)  (a1 : Int32) (a2 : Int32) (s : zS) (Q : Option Value → zS → Prop) : Prop :=
  ∀ x1 : Int32, (-2147483648 ≤ (s.1 84 5).toInt + 1 ∧ (s.1 84 5).toInt + 1 ≤ 2147483647 → x1.toInt = (s.1 84 5).toInt + 1) → ∀ s2, s2 = zf s 84 5 x1 → (¬ ((zStr s2 P (zg s2 (P + 18) a1)).toInt = 0) → vl_12_29 T P  a1 a2 (s.1 84 5) (zg s2 (P + 18) a1) 0 s2 Q) ∧ ((zStr s2 P (zg s2 (P + 18) a1)).toInt = 0 → T 38 [.ref P, .int 6, .int a2] s2 (fun v3 s4 => v3 = none ∧ (Q (some (.int a1)) s4)))
set_option maxRecDepth 20000 in
theorem m_12_29_3 {d d0 : Nat} (hd : d = d0 + 8) {R29 : Int32 → Int32 → Int32 → Int32 → Int32 → zS → Prop} {a1 : Int32} {a2 : Int32} {a3 : Int32} {a4 : Int32} {a5 : Int32} {s : zS} {Q : Option Value → zS → Prop} (r29 : ∀ a1 a2 a3 a4 a5 s, R29 a1 a2 a3 a4 a5 s → Zn d [] [(3, 99), (3, 98)] ([(84, 2, 3), (84, 3, 4), (84, 4, 7), (83, 1, 3), (83, 2, 4), (75, 0, 3), (75, 1, 21), (75, 2, 25)] : zW) ([(84, 2, 3), (84, 3, 4), (84, 4, 7), (83, 1, 3), (83, 2, 4), (75, 0, 3), (75, 1, 21), (75, 2, 25)] : zW) xL_1 7 (some .int) xE_12 (xE_12.drop 29) [.ref 84, .int a1, .int a2, .int a3, .int a4, .int a5, .null, .null, .null, .null] [] s Q) (h : v_12_29 (fun j => Zt d (wd 3 j) j) 3 R29 a1 a2 a3 a4 a5 s Q) : Zn d [] [(3, 99), (3, 98)] ([(84, 2, 3), (84, 3, 4), (84, 4, 7), (83, 1, 3), (83, 2, 4), (75, 0, 3), (75, 1, 21), (75, 2, 25)] : zW) ([(84, 2, 3), (84, 3, 4), (84, 4, 7), (83, 1, 3), (83, 2, 4), (75, 0, 3), (75, 1, 21), (75, 2, 25)] : zW) xL_1 7 (some .int) xE_12 (xE_12.drop 29) [.ref 84, .int a1, .int a2, .int a3, .int a4, .int a5, .null, .null, .null, .null] [] s Q := by
  unfold v_12_29 at h
  refine zn_ld rfl rfl rfl ?_
  refine zn_ld rfl rfl rfl ?_
  refine zn_get (v := .ref 3) rfl (zv_C (a := 84) (n := 0) rfl rfl rfl) ?_
  refine zn_ld rfl rfl rfl ?_
  refine zn_c [.int 4, .int a4, .ref 3, .int a5] (xo_push (.int 4)) rfl rfl ?_
  refine zn_zt [.ref 3, .int a4, .int 4] [.int a5] (c := []) rfl rfl rfl rfl rfl (Zt.imp (zp_39 hd (Or.inl rfl)) (fun vq sq hq => ?_))
  obtain ⟨rfl, hq⟩ := hq
  rw [hq]
  change Zn _ _ _ _ _ _ _ _ _ _ _ [.int (zg s 27 (a4 * 6 + 4)), .int a5] _ _
  refine zn_brP rfl rfl ⟨fun hcn => ?_, fun hcn => ?_⟩
  · replace h := h.1 ((i_le (x := zg s 27 (a4 * 6 + 4)) (y := a5) rfl rfl).mp hcn)
    refine zn_ld rfl rfl rfl ?_
    refine zn_get (v := .ref 3) rfl (zv_C (a := 84) (n := 0) rfl rfl rfl) ?_
    refine zn_c [.int 2, .ref 3] (xo_push (.int 2)) rfl rfl ?_
    refine zn_ld rfl rfl rfl ?_
    refine zn_zt [.ref 3, .int 2, .int a3] [] rfl rfl rfl rfl rfl (Zt.imp h (fun v2 s3 h => ?_))
    obtain ⟨rfl, h⟩ := h
    change Zn _ _ _ _ _ _ _ _ _ _ _ [] _ _
    refine zn_ld rfl rfl rfl ?_
    exact zn_retI rfl h
  · replace h := h.2 (fun q => hcn ((i_le (x := zg s 27 (a4 * 6 + 4)) (y := a5) rfl rfl).mpr q))
    refine zn_ld rfl rfl rfl ?_
    refine zn_get (v := .ref 3) rfl (zv_C (a := 84) (n := 0) rfl rfl rfl) ?_
    refine zn_ld rfl rfl rfl ?_
    refine zn_c [.int 3, .int a4, .ref 3] (xo_push (.int 3)) rfl rfl ?_
    refine zn_zt [.ref 3, .int a4, .int 3] [] (c := []) rfl rfl rfl rfl rfl (Zt.imp (zp_39 hd (Or.inl rfl)) (fun vq sq hq => ?_))
    obtain ⟨rfl, hq⟩ := hq
    rw [hq]
    change Zn _ _ _ _ _ _ _ _ _ _ _ [.int (zg s 27 (a4 * 6 + 3))] _ _
    refine zn_ld rfl rfl rfl ?_
    replace h := h _ (i_add (x := zg s 27 (a4 * 6 + 3)) (y := a5) rfl rfl)
    refine zn_c [.int ((zg s 27 (a4 * 6 + 3)) + a5)] xo_iadd rfl rfl ?_
    refine zn_st [.ref 84, .int a1, .int a2, .int a3, .int a4, .int a5, .int ((zg s 27 (a4 * 6 + 3)) + a5), .null, .null, .null] rfl rfl rfl ?_
    refine zn_ld rfl rfl rfl ?_
    refine zn_get (v := .ref 4) rfl (zv_C (a := 84) (n := 1) rfl rfl rfl) ?_
    refine zn_get (v := .ref 13) rfl (zv_R (a := 4) rfl rfl) ?_
    refine zn_ld rfl rfl rfl ?_
    refine zn_get (v := .ref 3) rfl (zv_C (a := 84) (n := 0) rfl rfl rfl) ?_
    refine zn_ld rfl rfl rfl ?_
    refine zn_c [.int 0, .int ((zg s 27 (a4 * 6 + 3)) + a5), .ref 3, .ref 13] (xo_push (.int 0)) rfl rfl ?_
    refine zn_zt [.ref 3, .int ((zg s 27 (a4 * 6 + 3)) + a5), .int 0] [.ref 13] (c := []) rfl rfl rfl rfl rfl (Zt.imp (zp_42 hd (Or.inl rfl)) (fun vq sq hq => ?_))
    obtain ⟨rfl, hq⟩ := hq
    rw [hq]
    change Zn _ _ _ _ _ _ _ _ _ _ _ [.int (zg s 33 (((zg s 27 (a4 * 6 + 3)) + a5) * 5 + 0)), .ref 13] _ _
    refine zn_row (zg s 33 (((zg s 27 (a4 * 6 + 3)) + a5) * 5 + 0)) [] (a := 13) hd rfl rfl rfl rfl ?_
    change Zn _ _ _ _ _ _ _ _ _ _ _ [.int (zg s 13 (zg s 33 (((zg s 27 (a4 * 6 + 3)) + a5) * 5 + 0)))] _ _
    refine zn_ld rfl rfl rfl ?_
    refine zn_get (v := .ref 4) rfl (zv_C (a := 84) (n := 1) rfl rfl rfl) ?_
    refine zn_get (v := .ref 13) rfl (zv_R (a := 4) rfl rfl) ?_
    refine zn_ld rfl rfl rfl ?_
    refine zn_row a3 [.int (zg s 13 (zg s 33 (((zg s 27 (a4 * 6 + 3)) + a5) * 5 + 0)))] (a := 13) hd rfl rfl rfl rfl ?_
    change Zn _ _ _ _ _ _ _ _ _ _ _ [.int (zg s 13 a3), .int (zg s 13 (zg s 33 (((zg s 27 (a4 * 6 + 3)) + a5) * 5 + 0)))] _ _
    refine zn_brN rfl rfl ⟨fun hcn => ?_, fun hcn => ?_⟩
    · replace h := h.1 (fun q => hcn ((i_eq (x := zg s 13 (zg s 33 (((zg s 27 (a4 * 6 + 3)) + a5) * 5 + 0))) (y := zg s 13 a3) rfl rfl).mpr q))
      replace h := h _ (i_add (x := a5) (y := 1) rfl (show (1 : Int32).toInt = 1 by decide))
      refine zn_inc [.ref 84, .int a1, .int a2, .int a3, .int a4, .int (a5 + 1), .int ((zg s 27 (a4 * 6 + 3)) + a5), .null, .null, .null] rfl rfl rfl rfl ?_
      refine zn_go rfl ?_
      refine zn_fg 6 ?_
      exact r29 a1 a2 a3 a4 (a5 + 1) s h
    · replace h := h.2 ((i_eq (x := zg s 13 (zg s 33 (((zg s 27 (a4 * 6 + 3)) + a5) * 5 + 0))) (y := zg s 13 a3) rfl rfl).mp hcn)
      refine zn_ld rfl rfl rfl ?_
      refine zn_get (v := .ref 3) rfl (zv_C (a := 84) (n := 0) rfl rfl rfl) ?_
      refine zn_c [.int 4, .ref 3] (xo_push (.int 4)) rfl rfl ?_
      refine zn_ld rfl rfl rfl ?_
      refine zn_c [.int 0, .int a5, .int 4, .ref 3] (xo_push (.int 0)) rfl rfl ?_
      refine zn_c [.int 0, .int 0, .int a5, .int 4, .ref 3] (xo_push (.int 0)) rfl rfl ?_
      refine zn_c [.int 0, .int 0, .int 0, .int a5, .int 4, .ref 3] (xo_push (.int 0)) rfl rfl ?_
      refine zn_c [.int 0, .int 0, .int 0, .int 0, .int a5, .int 4, .ref 3] (xo_push (.int 0)) rfl rfl ?_
      refine zn_zt [.ref 3, .int 4, .int a5, .int 0, .int 0, .int 0, .int 0] [] rfl rfl rfl rfl rfl (Zt.imp h (fun v8 s9 h => ?_))
      obtain ⟨rfl, h⟩ := h
      change Zn _ _ _ _ _ _ _ _ _ _ _ [] _ _
      refine zn_ld rfl rfl rfl ?_
      refine zn_ld rfl rfl rfl ?_
      refine zn_ld rfl rfl rfl ?_
      refine zn_c [.int 0, .int a1, .int ((zg s 27 (a4 * 6 + 3)) + a5), .ref 84] (xo_push (.int 0)) rfl rfl ?_
      refine zn_c [.int 0, .int 0, .int a1, .int ((zg s 27 (a4 * 6 + 3)) + a5), .ref 84] (xo_push (.int 0)) rfl rfl ?_
      refine zn_ld rfl rfl rfl ?_
      refine zn_zt [.ref 84, .int ((zg s 27 (a4 * 6 + 3)) + a5), .int a1, .int 0, .int 0, .int a3] [] rfl rfl rfl rfl rfl (Zt.imp h (fun v10 s11 h => ?_))
      obtain ⟨x12, rfl, h⟩ := h
      change Zn _ _ _ _ _ _ _ _ _ _ _ [.int x12] _ _
      exact zn_retI rfl h
theorem ml_12_29_3 {d d0 : Nat} (hd : d = d0 + 8)  {a1 : Int32} {a2 : Int32} {a3 : Int32} {a4 : Int32} {a5 : Int32} {s : zS} {Q : Option Value → zS → Prop}  (h : vl_12_29 (fun j => Zt d (wd 3 j) j) 3  a1 a2 a3 a4 a5 s Q) : Zn d [] [(3, 99), (3, 98)] ([(84, 2, 3), (84, 3, 4), (84, 4, 7), (83, 1, 3), (83, 2, 4), (75, 0, 3), (75, 1, 21), (75, 2, 25)] : zW) ([(84, 2, 3), (84, 3, 4), (84, 4, 7), (83, 1, 3), (83, 2, 4), (75, 0, 3), (75, 1, 21), (75, 2, 25)] : zW) xL_1 7 (some .int) xE_12 (xE_12.drop 29) [.ref 84, .int a1, .int a2, .int a3, .int a4, .int a5, .null, .null, .null, .null] [] s Q := by
  obtain ⟨I, μ, h0, h1⟩ := h
  have key : ∀ (n : Nat) (a1 : Int32) (a2 : Int32) (a3 : Int32) (a4 : Int32) (a5 : Int32) (s : zS), μ a1 a2 a3 a4 a5 s = n → I a1 a2 a3 a4 a5 s → Zn d [] [(3, 99), (3, 98)] ([(84, 2, 3), (84, 3, 4), (84, 4, 7), (83, 1, 3), (83, 2, 4), (75, 0, 3), (75, 1, 21), (75, 2, 25)] : zW) ([(84, 2, 3), (84, 3, 4), (84, 4, 7), (83, 1, 3), (83, 2, 4), (75, 0, 3), (75, 1, 21), (75, 2, 25)] : zW) xL_1 7 (some .int) xE_12 (xE_12.drop 29) [.ref 84, .int a1, .int a2, .int a3, .int a4, .int a5, .null, .null, .null, .null] [] s Q := by
    intro n
    induction n using Nat.strongRecOn with
    | ind n ih =>
      intro a1 a2 a3 a4 a5 s e hI
      exact m_12_29_3 hd (fun a1' a2' a3' a4' a5' s' q => ih _ (by rw [← e]; exact q.2) a1' a2' a3' a4' a5' s' rfl q.1) (h1 a1 a2 a3 a4 a5 s hI)
  exact key _ a1 a2 a3 a4 a5 s rfl h0
set_option maxRecDepth 20000 in
theorem m_12_0_3 {d d0 : Nat} (hd : d = d0 + 8)  {a1 : Int32} {a2 : Int32} {s : zS} {Q : Option Value → zS → Prop}  (h : v_12_0 (fun j => Zt d (wd 3 j) j) 3  a1 a2 s Q) : Zn d [] [(3, 99), (3, 98)] ([(84, 2, 3), (84, 3, 4), (84, 4, 7), (83, 1, 3), (83, 2, 4), (75, 0, 3), (75, 1, 21), (75, 2, 25)] : zW) ([(84, 2, 3), (84, 3, 4), (84, 4, 7), (83, 1, 3), (83, 2, 4), (75, 0, 3), (75, 1, 21), (75, 2, 25)] : zW) xL_1 7 (some .int) xE_12 (xE_12.drop 0) [.ref 84, .int a1, .int a2, .null, .null, .null, .null, .null, .null, .null] [] s Q := by
  unfold v_12_0 at h
  refine zn_ld rfl rfl rfl ?_
  refine zn_get (v := .int (s.1 84 5)) rfl (zv_I (a := 84) rfl rfl) ?_
  refine zn_st [.ref 84, .int a1, .int a2, .int (s.1 84 5), .null, .null, .null, .null, .null, .null] rfl rfl rfl ?_
  refine zn_ld rfl rfl rfl ?_
  refine zn_c [.ref 84, .ref 84] xo_dup rfl rfl ?_
  refine zn_get (v := .int (s.1 84 5)) rfl (zv_I (a := 84) rfl rfl) ?_
  refine zn_c [.int 1, .int (s.1 84 5), .ref 84] (xo_push (.int 1)) rfl rfl ?_
  replace h := h _ (i_add (x := s.1 84 5) (y := 1) rfl (show (1 : Int32).toInt = 1 by decide))
  refine zn_c [.int ((s.1 84 5) + 1), .ref 84] xo_iadd rfl rfl ?_
  refine zn_putI (a := 84) rfl rfl rfl rfl ⟨Int32.le_toInt _, Int.le_of_lt_add_one (Int32.toInt_lt _)⟩ rfl rfl rfl ?_
  replace h := h _ rfl
  refine zn_ld rfl rfl rfl ?_
  refine zn_get (v := .ref 3) rfl (zv_C (a := 84) (n := 0) rfl rfl rfl) ?_
  refine zn_get (v := .ref 21) rfl (zv_R (a := 3) rfl rfl) ?_
  refine zn_ld rfl rfl rfl ?_
  refine zn_row a1 [] (a := 21) hd rfl rfl rfl rfl ?_
  change Zn _ _ _ _ _ _ _ _ _ _ _ [.int (zg (zf s 84 5 ((s.1 84 5) + 1)) 21 a1)] _ _
  refine zn_st [.ref 84, .int a1, .int a2, .int (s.1 84 5), .int (zg (zf s 84 5 ((s.1 84 5) + 1)) 21 a1), .null, .null, .null, .null, .null] rfl rfl rfl ?_
  refine zn_ld rfl rfl rfl ?_
  refine zn_get (v := .ref 3) rfl (zv_C (a := 84) (n := 0) rfl rfl rfl) ?_
  refine zn_ld rfl rfl rfl ?_
  refine zn_zt [.ref 3, .int (zg (zf s 84 5 ((s.1 84 5) + 1)) 21 a1)] [] (c := []) rfl rfl rfl rfl rfl (Zt.imp (zp_49 hd (Or.inl rfl)) (fun vq sq hq => ?_))
  obtain ⟨rfl, hq⟩ := hq
  rw [hq]
  change Zn _ _ _ _ _ _ _ _ _ _ _ [.int (zStr (zf s 84 5 ((s.1 84 5) + 1)) 3 (zg (zf s 84 5 ((s.1 84 5) + 1)) 21 a1))] _ _
  refine zn_brN rfl rfl ⟨fun hcn => ?_, fun hcn => ?_⟩
  · replace h := h.1 (fun q => hcn ((i_eq (x := zStr (zf s 84 5 ((s.1 84 5) + 1)) 3 (zg (zf s 84 5 ((s.1 84 5) + 1)) 21 a1)) (y := 0) rfl (show (0 : Int32).toInt = 0 by decide)).mpr q))
    refine zn_c [.int 0] (xo_push (.int 0)) rfl rfl ?_
    refine zn_st [.ref 84, .int a1, .int a2, .int (s.1 84 5), .int (zg (zf s 84 5 ((s.1 84 5) + 1)) 21 a1), .int 0, .null, .null, .null, .null] rfl rfl rfl ?_
    exact ml_12_29_3 hd  h
  · replace h := h.2 ((i_eq (x := zStr (zf s 84 5 ((s.1 84 5) + 1)) 3 (zg (zf s 84 5 ((s.1 84 5) + 1)) 21 a1)) (y := 0) rfl (show (0 : Int32).toInt = 0 by decide)).mp hcn)
    refine zn_ld rfl rfl rfl ?_
    refine zn_get (v := .ref 3) rfl (zv_C (a := 84) (n := 0) rfl rfl rfl) ?_
    refine zn_c [.int 6, .ref 3] (xo_push (.int 6)) rfl rfl ?_
    refine zn_ld rfl rfl rfl ?_
    refine zn_zt [.ref 3, .int 6, .int a2] [] rfl rfl rfl rfl rfl (Zt.imp h (fun v3 s4 h => ?_))
    obtain ⟨rfl, h⟩ := h
    change Zn _ _ _ _ _ _ _ _ _ _ _ [] _ _
    refine zn_ld rfl rfl rfl ?_
    exact zn_retI rfl h
theorem zq_12_3 {d : Nat} {a1 : Int32} {a2 : Int32} {s : zS} {Q : Option Value → zS → Prop} (h : v_12_0 (fun j => Zt (d + 8) (wd 3 j) j) 3 a1 a2 s Q) : Zt (d + 9) ([(84, 2, 3), (84, 3, 4), (84, 4, 7), (83, 1, 3), (83, 2, 4), (75, 0, 3), (75, 1, 21), (75, 2, 25)] : zW) 12 [.ref 84, .int a1, .int a2] s Q := zt_of (E := xE_12) (L := xL_1) (ml := 7) (ret := some .int) rfl rfl rfl (m_12_0_3 rfl h)
set_option maxRecDepth 20000 in
theorem m_12_29_39 {d d0 : Nat} (hd : d = d0 + 8) {R29 : Int32 → Int32 → Int32 → Int32 → Int32 → zS → Prop} {a1 : Int32} {a2 : Int32} {a3 : Int32} {a4 : Int32} {a5 : Int32} {s : zS} {Q : Option Value → zS → Prop} (r29 : ∀ a1 a2 a3 a4 a5 s, R29 a1 a2 a3 a4 a5 s → Zn d [] [(39, 99), (39, 98)] ([(84, 2, 39), (84, 3, 40), (84, 4, 43), (83, 1, 39), (83, 2, 40), (75, 0, 39), (75, 1, 57), (75, 2, 61)] : zW) ([(84, 2, 39), (84, 3, 40), (84, 4, 43), (83, 1, 39), (83, 2, 40), (75, 0, 39), (75, 1, 57), (75, 2, 61)] : zW) xL_1 7 (some .int) xE_12 (xE_12.drop 29) [.ref 84, .int a1, .int a2, .int a3, .int a4, .int a5, .null, .null, .null, .null] [] s Q) (h : v_12_29 (fun j => Zt d (wd 39 j) j) 39 R29 a1 a2 a3 a4 a5 s Q) : Zn d [] [(39, 99), (39, 98)] ([(84, 2, 39), (84, 3, 40), (84, 4, 43), (83, 1, 39), (83, 2, 40), (75, 0, 39), (75, 1, 57), (75, 2, 61)] : zW) ([(84, 2, 39), (84, 3, 40), (84, 4, 43), (83, 1, 39), (83, 2, 40), (75, 0, 39), (75, 1, 57), (75, 2, 61)] : zW) xL_1 7 (some .int) xE_12 (xE_12.drop 29) [.ref 84, .int a1, .int a2, .int a3, .int a4, .int a5, .null, .null, .null, .null] [] s Q := by
  unfold v_12_29 at h
  refine zn_ld rfl rfl rfl ?_
  refine zn_ld rfl rfl rfl ?_
  refine zn_get (v := .ref 39) rfl (zv_C (a := 84) (n := 0) rfl rfl rfl) ?_
  refine zn_ld rfl rfl rfl ?_
  refine zn_c [.int 4, .int a4, .ref 39, .int a5] (xo_push (.int 4)) rfl rfl ?_
  refine zn_zt [.ref 39, .int a4, .int 4] [.int a5] (c := []) rfl rfl rfl rfl rfl (Zt.imp (zp_39 hd (Or.inr rfl)) (fun vq sq hq => ?_))
  obtain ⟨rfl, hq⟩ := hq
  rw [hq]
  change Zn _ _ _ _ _ _ _ _ _ _ _ [.int (zg s 63 (a4 * 6 + 4)), .int a5] _ _
  refine zn_brP rfl rfl ⟨fun hcn => ?_, fun hcn => ?_⟩
  · replace h := h.1 ((i_le (x := zg s 63 (a4 * 6 + 4)) (y := a5) rfl rfl).mp hcn)
    refine zn_ld rfl rfl rfl ?_
    refine zn_get (v := .ref 39) rfl (zv_C (a := 84) (n := 0) rfl rfl rfl) ?_
    refine zn_c [.int 2, .ref 39] (xo_push (.int 2)) rfl rfl ?_
    refine zn_ld rfl rfl rfl ?_
    refine zn_zt [.ref 39, .int 2, .int a3] [] rfl rfl rfl rfl rfl (Zt.imp h (fun v2 s3 h => ?_))
    obtain ⟨rfl, h⟩ := h
    change Zn _ _ _ _ _ _ _ _ _ _ _ [] _ _
    refine zn_ld rfl rfl rfl ?_
    exact zn_retI rfl h
  · replace h := h.2 (fun q => hcn ((i_le (x := zg s 63 (a4 * 6 + 4)) (y := a5) rfl rfl).mpr q))
    refine zn_ld rfl rfl rfl ?_
    refine zn_get (v := .ref 39) rfl (zv_C (a := 84) (n := 0) rfl rfl rfl) ?_
    refine zn_ld rfl rfl rfl ?_
    refine zn_c [.int 3, .int a4, .ref 39] (xo_push (.int 3)) rfl rfl ?_
    refine zn_zt [.ref 39, .int a4, .int 3] [] (c := []) rfl rfl rfl rfl rfl (Zt.imp (zp_39 hd (Or.inr rfl)) (fun vq sq hq => ?_))
    obtain ⟨rfl, hq⟩ := hq
    rw [hq]
    change Zn _ _ _ _ _ _ _ _ _ _ _ [.int (zg s 63 (a4 * 6 + 3))] _ _
    refine zn_ld rfl rfl rfl ?_
    replace h := h _ (i_add (x := zg s 63 (a4 * 6 + 3)) (y := a5) rfl rfl)
    refine zn_c [.int ((zg s 63 (a4 * 6 + 3)) + a5)] xo_iadd rfl rfl ?_
    refine zn_st [.ref 84, .int a1, .int a2, .int a3, .int a4, .int a5, .int ((zg s 63 (a4 * 6 + 3)) + a5), .null, .null, .null] rfl rfl rfl ?_
    refine zn_ld rfl rfl rfl ?_
    refine zn_get (v := .ref 40) rfl (zv_C (a := 84) (n := 1) rfl rfl rfl) ?_
    refine zn_get (v := .ref 49) rfl (zv_R (a := 40) rfl rfl) ?_
    refine zn_ld rfl rfl rfl ?_
    refine zn_get (v := .ref 39) rfl (zv_C (a := 84) (n := 0) rfl rfl rfl) ?_
    refine zn_ld rfl rfl rfl ?_
    refine zn_c [.int 0, .int ((zg s 63 (a4 * 6 + 3)) + a5), .ref 39, .ref 49] (xo_push (.int 0)) rfl rfl ?_
    refine zn_zt [.ref 39, .int ((zg s 63 (a4 * 6 + 3)) + a5), .int 0] [.ref 49] (c := []) rfl rfl rfl rfl rfl (Zt.imp (zp_42 hd (Or.inr rfl)) (fun vq sq hq => ?_))
    obtain ⟨rfl, hq⟩ := hq
    rw [hq]
    change Zn _ _ _ _ _ _ _ _ _ _ _ [.int (zg s 69 (((zg s 63 (a4 * 6 + 3)) + a5) * 5 + 0)), .ref 49] _ _
    refine zn_row (zg s 69 (((zg s 63 (a4 * 6 + 3)) + a5) * 5 + 0)) [] (a := 49) hd rfl rfl rfl rfl ?_
    change Zn _ _ _ _ _ _ _ _ _ _ _ [.int (zg s 49 (zg s 69 (((zg s 63 (a4 * 6 + 3)) + a5) * 5 + 0)))] _ _
    refine zn_ld rfl rfl rfl ?_
    refine zn_get (v := .ref 40) rfl (zv_C (a := 84) (n := 1) rfl rfl rfl) ?_
    refine zn_get (v := .ref 49) rfl (zv_R (a := 40) rfl rfl) ?_
    refine zn_ld rfl rfl rfl ?_
    refine zn_row a3 [.int (zg s 49 (zg s 69 (((zg s 63 (a4 * 6 + 3)) + a5) * 5 + 0)))] (a := 49) hd rfl rfl rfl rfl ?_
    change Zn _ _ _ _ _ _ _ _ _ _ _ [.int (zg s 49 a3), .int (zg s 49 (zg s 69 (((zg s 63 (a4 * 6 + 3)) + a5) * 5 + 0)))] _ _
    refine zn_brN rfl rfl ⟨fun hcn => ?_, fun hcn => ?_⟩
    · replace h := h.1 (fun q => hcn ((i_eq (x := zg s 49 (zg s 69 (((zg s 63 (a4 * 6 + 3)) + a5) * 5 + 0))) (y := zg s 49 a3) rfl rfl).mpr q))
      replace h := h _ (i_add (x := a5) (y := 1) rfl (show (1 : Int32).toInt = 1 by decide))
      refine zn_inc [.ref 84, .int a1, .int a2, .int a3, .int a4, .int (a5 + 1), .int ((zg s 63 (a4 * 6 + 3)) + a5), .null, .null, .null] rfl rfl rfl rfl ?_
      refine zn_go rfl ?_
      refine zn_fg 6 ?_
      exact r29 a1 a2 a3 a4 (a5 + 1) s h
    · replace h := h.2 ((i_eq (x := zg s 49 (zg s 69 (((zg s 63 (a4 * 6 + 3)) + a5) * 5 + 0))) (y := zg s 49 a3) rfl rfl).mp hcn)
      refine zn_ld rfl rfl rfl ?_
      refine zn_get (v := .ref 39) rfl (zv_C (a := 84) (n := 0) rfl rfl rfl) ?_
      refine zn_c [.int 4, .ref 39] (xo_push (.int 4)) rfl rfl ?_
      refine zn_ld rfl rfl rfl ?_
      refine zn_c [.int 0, .int a5, .int 4, .ref 39] (xo_push (.int 0)) rfl rfl ?_
      refine zn_c [.int 0, .int 0, .int a5, .int 4, .ref 39] (xo_push (.int 0)) rfl rfl ?_
      refine zn_c [.int 0, .int 0, .int 0, .int a5, .int 4, .ref 39] (xo_push (.int 0)) rfl rfl ?_
      refine zn_c [.int 0, .int 0, .int 0, .int 0, .int a5, .int 4, .ref 39] (xo_push (.int 0)) rfl rfl ?_
      refine zn_zt [.ref 39, .int 4, .int a5, .int 0, .int 0, .int 0, .int 0] [] rfl rfl rfl rfl rfl (Zt.imp h (fun v8 s9 h => ?_))
      obtain ⟨rfl, h⟩ := h
      change Zn _ _ _ _ _ _ _ _ _ _ _ [] _ _
      refine zn_ld rfl rfl rfl ?_
      refine zn_ld rfl rfl rfl ?_
      refine zn_ld rfl rfl rfl ?_
      refine zn_c [.int 0, .int a1, .int ((zg s 63 (a4 * 6 + 3)) + a5), .ref 84] (xo_push (.int 0)) rfl rfl ?_
      refine zn_c [.int 0, .int 0, .int a1, .int ((zg s 63 (a4 * 6 + 3)) + a5), .ref 84] (xo_push (.int 0)) rfl rfl ?_
      refine zn_ld rfl rfl rfl ?_
      refine zn_zt [.ref 84, .int ((zg s 63 (a4 * 6 + 3)) + a5), .int a1, .int 0, .int 0, .int a3] [] rfl rfl rfl rfl rfl (Zt.imp h (fun v10 s11 h => ?_))
      obtain ⟨x12, rfl, h⟩ := h
      change Zn _ _ _ _ _ _ _ _ _ _ _ [.int x12] _ _
      exact zn_retI rfl h
theorem ml_12_29_39 {d d0 : Nat} (hd : d = d0 + 8)  {a1 : Int32} {a2 : Int32} {a3 : Int32} {a4 : Int32} {a5 : Int32} {s : zS} {Q : Option Value → zS → Prop}  (h : vl_12_29 (fun j => Zt d (wd 39 j) j) 39  a1 a2 a3 a4 a5 s Q) : Zn d [] [(39, 99), (39, 98)] ([(84, 2, 39), (84, 3, 40), (84, 4, 43), (83, 1, 39), (83, 2, 40), (75, 0, 39), (75, 1, 57), (75, 2, 61)] : zW) ([(84, 2, 39), (84, 3, 40), (84, 4, 43), (83, 1, 39), (83, 2, 40), (75, 0, 39), (75, 1, 57), (75, 2, 61)] : zW) xL_1 7 (some .int) xE_12 (xE_12.drop 29) [.ref 84, .int a1, .int a2, .int a3, .int a4, .int a5, .null, .null, .null, .null] [] s Q := by
  obtain ⟨I, μ, h0, h1⟩ := h
  have key : ∀ (n : Nat) (a1 : Int32) (a2 : Int32) (a3 : Int32) (a4 : Int32) (a5 : Int32) (s : zS), μ a1 a2 a3 a4 a5 s = n → I a1 a2 a3 a4 a5 s → Zn d [] [(39, 99), (39, 98)] ([(84, 2, 39), (84, 3, 40), (84, 4, 43), (83, 1, 39), (83, 2, 40), (75, 0, 39), (75, 1, 57), (75, 2, 61)] : zW) ([(84, 2, 39), (84, 3, 40), (84, 4, 43), (83, 1, 39), (83, 2, 40), (75, 0, 39), (75, 1, 57), (75, 2, 61)] : zW) xL_1 7 (some .int) xE_12 (xE_12.drop 29) [.ref 84, .int a1, .int a2, .int a3, .int a4, .int a5, .null, .null, .null, .null] [] s Q := by
    intro n
    induction n using Nat.strongRecOn with
    | ind n ih =>
      intro a1 a2 a3 a4 a5 s e hI
      exact m_12_29_39 hd (fun a1' a2' a3' a4' a5' s' q => ih _ (by rw [← e]; exact q.2) a1' a2' a3' a4' a5' s' rfl q.1) (h1 a1 a2 a3 a4 a5 s hI)
  exact key _ a1 a2 a3 a4 a5 s rfl h0
set_option maxRecDepth 20000 in
theorem m_12_0_39 {d d0 : Nat} (hd : d = d0 + 8)  {a1 : Int32} {a2 : Int32} {s : zS} {Q : Option Value → zS → Prop}  (h : v_12_0 (fun j => Zt d (wd 39 j) j) 39  a1 a2 s Q) : Zn d [] [(39, 99), (39, 98)] ([(84, 2, 39), (84, 3, 40), (84, 4, 43), (83, 1, 39), (83, 2, 40), (75, 0, 39), (75, 1, 57), (75, 2, 61)] : zW) ([(84, 2, 39), (84, 3, 40), (84, 4, 43), (83, 1, 39), (83, 2, 40), (75, 0, 39), (75, 1, 57), (75, 2, 61)] : zW) xL_1 7 (some .int) xE_12 (xE_12.drop 0) [.ref 84, .int a1, .int a2, .null, .null, .null, .null, .null, .null, .null] [] s Q := by
  unfold v_12_0 at h
  refine zn_ld rfl rfl rfl ?_
  refine zn_get (v := .int (s.1 84 5)) rfl (zv_I (a := 84) rfl rfl) ?_
  refine zn_st [.ref 84, .int a1, .int a2, .int (s.1 84 5), .null, .null, .null, .null, .null, .null] rfl rfl rfl ?_
  refine zn_ld rfl rfl rfl ?_
  refine zn_c [.ref 84, .ref 84] xo_dup rfl rfl ?_
  refine zn_get (v := .int (s.1 84 5)) rfl (zv_I (a := 84) rfl rfl) ?_
  refine zn_c [.int 1, .int (s.1 84 5), .ref 84] (xo_push (.int 1)) rfl rfl ?_
  replace h := h _ (i_add (x := s.1 84 5) (y := 1) rfl (show (1 : Int32).toInt = 1 by decide))
  refine zn_c [.int ((s.1 84 5) + 1), .ref 84] xo_iadd rfl rfl ?_
  refine zn_putI (a := 84) rfl rfl rfl rfl ⟨Int32.le_toInt _, Int.le_of_lt_add_one (Int32.toInt_lt _)⟩ rfl rfl rfl ?_
  replace h := h _ rfl
  refine zn_ld rfl rfl rfl ?_
  refine zn_get (v := .ref 39) rfl (zv_C (a := 84) (n := 0) rfl rfl rfl) ?_
  refine zn_get (v := .ref 57) rfl (zv_R (a := 39) rfl rfl) ?_
  refine zn_ld rfl rfl rfl ?_
  refine zn_row a1 [] (a := 57) hd rfl rfl rfl rfl ?_
  change Zn _ _ _ _ _ _ _ _ _ _ _ [.int (zg (zf s 84 5 ((s.1 84 5) + 1)) 57 a1)] _ _
  refine zn_st [.ref 84, .int a1, .int a2, .int (s.1 84 5), .int (zg (zf s 84 5 ((s.1 84 5) + 1)) 57 a1), .null, .null, .null, .null, .null] rfl rfl rfl ?_
  refine zn_ld rfl rfl rfl ?_
  refine zn_get (v := .ref 39) rfl (zv_C (a := 84) (n := 0) rfl rfl rfl) ?_
  refine zn_ld rfl rfl rfl ?_
  refine zn_zt [.ref 39, .int (zg (zf s 84 5 ((s.1 84 5) + 1)) 57 a1)] [] (c := []) rfl rfl rfl rfl rfl (Zt.imp (zp_49 hd (Or.inr rfl)) (fun vq sq hq => ?_))
  obtain ⟨rfl, hq⟩ := hq
  rw [hq]
  change Zn _ _ _ _ _ _ _ _ _ _ _ [.int (zStr (zf s 84 5 ((s.1 84 5) + 1)) 39 (zg (zf s 84 5 ((s.1 84 5) + 1)) 57 a1))] _ _
  refine zn_brN rfl rfl ⟨fun hcn => ?_, fun hcn => ?_⟩
  · replace h := h.1 (fun q => hcn ((i_eq (x := zStr (zf s 84 5 ((s.1 84 5) + 1)) 39 (zg (zf s 84 5 ((s.1 84 5) + 1)) 57 a1)) (y := 0) rfl (show (0 : Int32).toInt = 0 by decide)).mpr q))
    refine zn_c [.int 0] (xo_push (.int 0)) rfl rfl ?_
    refine zn_st [.ref 84, .int a1, .int a2, .int (s.1 84 5), .int (zg (zf s 84 5 ((s.1 84 5) + 1)) 57 a1), .int 0, .null, .null, .null, .null] rfl rfl rfl ?_
    exact ml_12_29_39 hd  h
  · replace h := h.2 ((i_eq (x := zStr (zf s 84 5 ((s.1 84 5) + 1)) 39 (zg (zf s 84 5 ((s.1 84 5) + 1)) 57 a1)) (y := 0) rfl (show (0 : Int32).toInt = 0 by decide)).mp hcn)
    refine zn_ld rfl rfl rfl ?_
    refine zn_get (v := .ref 39) rfl (zv_C (a := 84) (n := 0) rfl rfl rfl) ?_
    refine zn_c [.int 6, .ref 39] (xo_push (.int 6)) rfl rfl ?_
    refine zn_ld rfl rfl rfl ?_
    refine zn_zt [.ref 39, .int 6, .int a2] [] rfl rfl rfl rfl rfl (Zt.imp h (fun v3 s4 h => ?_))
    obtain ⟨rfl, h⟩ := h
    change Zn _ _ _ _ _ _ _ _ _ _ _ [] _ _
    refine zn_ld rfl rfl rfl ?_
    exact zn_retI rfl h
theorem zq_12_39 {d : Nat} {a1 : Int32} {a2 : Int32} {s : zS} {Q : Option Value → zS → Prop} (h : v_12_0 (fun j => Zt (d + 8) (wd 39 j) j) 39 a1 a2 s Q) : Zt (d + 9) ([(84, 2, 39), (84, 3, 40), (84, 4, 43), (83, 1, 39), (83, 2, 40), (75, 0, 39), (75, 1, 57), (75, 2, 61)] : zW) 12 [.ref 84, .int a1, .int a2] s Q := zt_of (E := xE_12) (L := xL_1) (ml := 7) (ret := some .int) rfl rfl rfl (m_12_0_39 rfl h)
theorem zc_12 {d P : Nat} (hP : P = 3 ∨ P = 39) {a1 : Int32} {a2 : Int32} {s : zS} {Q : Option Value → zS → Prop} (h : v_12_0 (fun j => Zt (d + 8) (wd P j) j) P a1 a2 s Q) : Zt (d + 9) (wd P 12) 12 [.ref 84, .int a1, .int a2] s Q := by
  rcases hP with rfl | rfl
  · exact zq_12_3 h
  · exact zq_12_39 h
/-! FeatherBench$Bodies.resultType -/
def v_13_0 (T : Nat → List Value → zS → (Option Value → zS → Prop) → Prop) (P : Nat)  (a1 : Int32) (a2 : Int32) (a3 : Int32) (a4 : Int32) (a5 : Int32) (s : zS) (Q : Option Value → zS → Prop) : Prop :=
  T 86 [.ref 75, .ref 76, .int a2, .int a3, .int a4] s (fun v1 s2 => v1 = none ∧ (T 87 [.ref 75, .int (zg s2 (P + 30) (a1 * 5 + 3)), .ref 76] s2 (fun v4 s5 => ∃ x6, v4 = some (.int x6) ∧ ((0 ≤ x6.toInt → Q (some (.int x6)) s5) ∧ (¬ (0 ≤ x6.toInt) → T 38 [.ref P, .int 9, .int a5] s5 (fun v7 s8 => v7 = none ∧ (Q (some (.int a2)) s8)))))))
set_option maxRecDepth 20000 in
theorem m_13_0_3 {d d0 : Nat} (hd : d = d0 + 8)  {a1 : Int32} {a2 : Int32} {a3 : Int32} {a4 : Int32} {a5 : Int32} {s : zS} {Q : Option Value → zS → Prop}  (h : v_13_0 (fun j => Zt d (wd 3 j) j) 3  a1 a2 a3 a4 a5 s Q) : Zn d [] [(3, 98)] ([(84, 2, 3), (84, 3, 4), (84, 4, 7), (83, 1, 3), (83, 2, 4), (75, 0, 3), (75, 1, 21), (75, 2, 25)] : zW) ([(84, 2, 3), (84, 3, 4), (84, 4, 7), (83, 1, 3), (83, 2, 4), (75, 0, 3), (75, 1, 21), (75, 2, 25)] : zW) xL_1 7 (some .int) xE_13 (xE_13.drop 0) [.ref 84, .int a1, .int a2, .int a3, .int a4, .int a5, .null, .null, .null, .null, .null, .null, .null] [] s Q := by
  unfold v_13_0 at h
  refine zn_ld rfl rfl rfl ?_
  refine zn_get (v := .ref 75) rfl (zv_R (a := 84) rfl rfl) ?_
  refine zn_ld rfl rfl rfl ?_
  refine zn_get (v := .ref 75) rfl (zv_R (a := 84) rfl rfl) ?_
  refine zn_get (v := .ref 76) rfl (zv_R (a := 75) rfl rfl) ?_
  refine zn_ld rfl rfl rfl ?_
  refine zn_ld rfl rfl rfl ?_
  refine zn_ld rfl rfl rfl ?_
  refine zn_zt [.ref 75, .ref 76, .int a2, .int a3, .int a4] [] rfl rfl rfl rfl rfl (Zt.imp h (fun v1 s2 h => ?_))
  obtain ⟨rfl, h⟩ := h
  change Zn _ _ _ _ _ _ _ _ _ _ _ [] _ _
  refine zn_ld rfl rfl rfl ?_
  refine zn_get (v := .ref 75) rfl (zv_R (a := 84) rfl rfl) ?_
  refine zn_ld rfl rfl rfl ?_
  refine zn_get (v := .ref 3) rfl (zv_C (a := 84) (n := 0) rfl rfl rfl) ?_
  refine zn_ld rfl rfl rfl ?_
  refine zn_c [.int 3, .int a1, .ref 3, .ref 75] (xo_push (.int 3)) rfl rfl ?_
  refine zn_zt [.ref 3, .int a1, .int 3] [.ref 75] (c := []) rfl rfl rfl rfl rfl (Zt.imp (zp_42 hd (Or.inl rfl)) (fun vq sq hq => ?_))
  obtain ⟨rfl, hq⟩ := hq
  rw [hq]
  change Zn _ _ _ _ _ _ _ _ _ _ _ [.int (zg s2 33 (a1 * 5 + 3)), .ref 75] _ _
  refine zn_ld rfl rfl rfl ?_
  refine zn_get (v := .ref 75) rfl (zv_R (a := 84) rfl rfl) ?_
  refine zn_get (v := .ref 76) rfl (zv_R (a := 75) rfl rfl) ?_
  refine zn_zt [.ref 75, .int (zg s2 33 (a1 * 5 + 3)), .ref 76] [] rfl rfl rfl rfl rfl (Zt.imp h (fun v4 s5 h => ?_))
  obtain ⟨x6, rfl, h⟩ := h
  change Zn _ _ _ _ _ _ _ _ _ _ _ [.int x6] _ _
  refine zn_st [.ref 84, .int a1, .int a2, .int a3, .int a4, .int a5, .int x6, .null, .null, .null, .null, .null, .null] rfl rfl rfl ?_
  refine zn_ld rfl rfl rfl ?_
  refine zn_brP rfl rfl ⟨fun hcn => ?_, fun hcn => ?_⟩
  · replace h := h.1 ((i_le (x := 0) (y := x6) (show (0 : Int32).toInt = 0 by decide) rfl).mp hcn)
    refine zn_ld rfl rfl rfl ?_
    exact zn_retI rfl h
  · replace h := h.2 (fun q => hcn ((i_le (x := 0) (y := x6) (show (0 : Int32).toInt = 0 by decide) rfl).mpr q))
    refine zn_ld rfl rfl rfl ?_
    refine zn_get (v := .ref 3) rfl (zv_C (a := 84) (n := 0) rfl rfl rfl) ?_
    refine zn_c [.int 9, .ref 3] (xo_push (.int 9)) rfl rfl ?_
    refine zn_ld rfl rfl rfl ?_
    refine zn_zt [.ref 3, .int 9, .int a5] [] rfl rfl rfl rfl rfl (Zt.imp h (fun v7 s8 h => ?_))
    obtain ⟨rfl, h⟩ := h
    change Zn _ _ _ _ _ _ _ _ _ _ _ [] _ _
    refine zn_ld rfl rfl rfl ?_
    exact zn_retI rfl h
theorem zq_13_3 {d : Nat} {a1 : Int32} {a2 : Int32} {a3 : Int32} {a4 : Int32} {a5 : Int32} {s : zS} {Q : Option Value → zS → Prop} (h : v_13_0 (fun j => Zt (d + 8) (wd 3 j) j) 3 a1 a2 a3 a4 a5 s Q) : Zt (d + 9) ([(84, 2, 3), (84, 3, 4), (84, 4, 7), (83, 1, 3), (83, 2, 4), (75, 0, 3), (75, 1, 21), (75, 2, 25)] : zW) 13 [.ref 84, .int a1, .int a2, .int a3, .int a4, .int a5] s Q := zt_of (E := xE_13) (L := xL_1) (ml := 7) (ret := some .int) rfl rfl rfl (m_13_0_3 rfl h)
set_option maxRecDepth 20000 in
theorem m_13_0_39 {d d0 : Nat} (hd : d = d0 + 8)  {a1 : Int32} {a2 : Int32} {a3 : Int32} {a4 : Int32} {a5 : Int32} {s : zS} {Q : Option Value → zS → Prop}  (h : v_13_0 (fun j => Zt d (wd 39 j) j) 39  a1 a2 a3 a4 a5 s Q) : Zn d [] [(39, 98)] ([(84, 2, 39), (84, 3, 40), (84, 4, 43), (83, 1, 39), (83, 2, 40), (75, 0, 39), (75, 1, 57), (75, 2, 61)] : zW) ([(84, 2, 39), (84, 3, 40), (84, 4, 43), (83, 1, 39), (83, 2, 40), (75, 0, 39), (75, 1, 57), (75, 2, 61)] : zW) xL_1 7 (some .int) xE_13 (xE_13.drop 0) [.ref 84, .int a1, .int a2, .int a3, .int a4, .int a5, .null, .null, .null, .null, .null, .null, .null] [] s Q := by
  unfold v_13_0 at h
  refine zn_ld rfl rfl rfl ?_
  refine zn_get (v := .ref 75) rfl (zv_R (a := 84) rfl rfl) ?_
  refine zn_ld rfl rfl rfl ?_
  refine zn_get (v := .ref 75) rfl (zv_R (a := 84) rfl rfl) ?_
  refine zn_get (v := .ref 76) rfl (zv_R (a := 75) rfl rfl) ?_
  refine zn_ld rfl rfl rfl ?_
  refine zn_ld rfl rfl rfl ?_
  refine zn_ld rfl rfl rfl ?_
  refine zn_zt [.ref 75, .ref 76, .int a2, .int a3, .int a4] [] rfl rfl rfl rfl rfl (Zt.imp h (fun v1 s2 h => ?_))
  obtain ⟨rfl, h⟩ := h
  change Zn _ _ _ _ _ _ _ _ _ _ _ [] _ _
  refine zn_ld rfl rfl rfl ?_
  refine zn_get (v := .ref 75) rfl (zv_R (a := 84) rfl rfl) ?_
  refine zn_ld rfl rfl rfl ?_
  refine zn_get (v := .ref 39) rfl (zv_C (a := 84) (n := 0) rfl rfl rfl) ?_
  refine zn_ld rfl rfl rfl ?_
  refine zn_c [.int 3, .int a1, .ref 39, .ref 75] (xo_push (.int 3)) rfl rfl ?_
  refine zn_zt [.ref 39, .int a1, .int 3] [.ref 75] (c := []) rfl rfl rfl rfl rfl (Zt.imp (zp_42 hd (Or.inr rfl)) (fun vq sq hq => ?_))
  obtain ⟨rfl, hq⟩ := hq
  rw [hq]
  change Zn _ _ _ _ _ _ _ _ _ _ _ [.int (zg s2 69 (a1 * 5 + 3)), .ref 75] _ _
  refine zn_ld rfl rfl rfl ?_
  refine zn_get (v := .ref 75) rfl (zv_R (a := 84) rfl rfl) ?_
  refine zn_get (v := .ref 76) rfl (zv_R (a := 75) rfl rfl) ?_
  refine zn_zt [.ref 75, .int (zg s2 69 (a1 * 5 + 3)), .ref 76] [] rfl rfl rfl rfl rfl (Zt.imp h (fun v4 s5 h => ?_))
  obtain ⟨x6, rfl, h⟩ := h
  change Zn _ _ _ _ _ _ _ _ _ _ _ [.int x6] _ _
  refine zn_st [.ref 84, .int a1, .int a2, .int a3, .int a4, .int a5, .int x6, .null, .null, .null, .null, .null, .null] rfl rfl rfl ?_
  refine zn_ld rfl rfl rfl ?_
  refine zn_brP rfl rfl ⟨fun hcn => ?_, fun hcn => ?_⟩
  · replace h := h.1 ((i_le (x := 0) (y := x6) (show (0 : Int32).toInt = 0 by decide) rfl).mp hcn)
    refine zn_ld rfl rfl rfl ?_
    exact zn_retI rfl h
  · replace h := h.2 (fun q => hcn ((i_le (x := 0) (y := x6) (show (0 : Int32).toInt = 0 by decide) rfl).mpr q))
    refine zn_ld rfl rfl rfl ?_
    refine zn_get (v := .ref 39) rfl (zv_C (a := 84) (n := 0) rfl rfl rfl) ?_
    refine zn_c [.int 9, .ref 39] (xo_push (.int 9)) rfl rfl ?_
    refine zn_ld rfl rfl rfl ?_
    refine zn_zt [.ref 39, .int 9, .int a5] [] rfl rfl rfl rfl rfl (Zt.imp h (fun v7 s8 h => ?_))
    obtain ⟨rfl, h⟩ := h
    change Zn _ _ _ _ _ _ _ _ _ _ _ [] _ _
    refine zn_ld rfl rfl rfl ?_
    exact zn_retI rfl h
theorem zq_13_39 {d : Nat} {a1 : Int32} {a2 : Int32} {a3 : Int32} {a4 : Int32} {a5 : Int32} {s : zS} {Q : Option Value → zS → Prop} (h : v_13_0 (fun j => Zt (d + 8) (wd 39 j) j) 39 a1 a2 a3 a4 a5 s Q) : Zt (d + 9) ([(84, 2, 39), (84, 3, 40), (84, 4, 43), (83, 1, 39), (83, 2, 40), (75, 0, 39), (75, 1, 57), (75, 2, 61)] : zW) 13 [.ref 84, .int a1, .int a2, .int a3, .int a4, .int a5] s Q := zt_of (E := xE_13) (L := xL_1) (ml := 7) (ret := some .int) rfl rfl rfl (m_13_0_39 rfl h)
theorem zc_13 {d P : Nat} (hP : P = 3 ∨ P = 39) {a1 : Int32} {a2 : Int32} {a3 : Int32} {a4 : Int32} {a5 : Int32} {s : zS} {Q : Option Value → zS → Prop} (h : v_13_0 (fun j => Zt (d + 8) (wd P j) j) P a1 a2 a3 a4 a5 s Q) : Zt (d + 9) (wd P 13) 13 [.ref 84, .int a1, .int a2, .int a3, .int a4, .int a5] s Q := by
  rcases hP with rfl | rfl
  · exact zq_13_3 h
  · exact zq_13_39 h
/-! FeatherBench$Bodies.method -/
def v_14_181 (T : Nat → List Value → zS → (Option Value → zS → Prop) → Prop) (P : Nat)  (a1 : Int32) (a2 : Int32) (a3 : Int32) (a4 : Int32) (a5 : Int32) (a6 : Int32) (a7 : Int32) (a8 : Int32) (a9 : Int32) (a10 : Int32) (a11 : Int32) (a12 : Int32) (t0 : Int32) (s : zS) (Q : Option Value → zS → Prop) : Prop :=
  Q (some (.int t0)) s
def v_14_126 (T : Nat → List Value → zS → (Option Value → zS → Prop) → Prop) (P : Nat)  (a1 : Int32) (a2 : Int32) (a3 : Int32) (a4 : Int32) (a5 : Int32) (a6 : Int32) (a7 : Int32) (a8 : Int32) (a9 : Int32) (a10 : Int32) (a11 : Int32) (a12 : Int32) (t1 : Int32) (t2 : Int32) (s : zS) (Q : Option Value → zS → Prop) : Prop :=
  ∀ x1 : Int32, (-2147483648 ≤ t1.toInt + t2.toInt ∧ t1.toInt + t2.toInt ≤ 2147483647 → x1.toInt = t1.toInt + t2.toInt) → ∀ s2, s2 = zf s 84 5 x1 → T 135 [.ref 83, .int a11, .int (s2.1 P 10)] s2 (fun v3 s4 => v3 = none ∧ (T 15 [.ref 84, .int a8, .int a4, .int a11, .int a9] s4 (fun v5 s6 => v5 = none ∧ (∀ x7 : Int32, (-2147483648 ≤ a8.toInt + a6.toInt ∧ a8.toInt + a6.toInt ≤ 2147483647 → x7.toInt = a8.toInt + a6.toInt) → T 11 [.ref 84, .int x7, .int a7, .int a4, .int a11, .int a9, .int a2] s6 (fun v8 s9 => v8 = none ∧ (T 59 [.ref P, .int 5, .int (zg s9 (P + 10) a3), .int a7, .int a11, .int a9, .int a10] s9 (fun v10 s11 => v10 = none ∧ ((¬ ((s11.1 P 14).toInt = 0) → v_14_181 T P  a1 a2 a3 a4 a5 a6 a7 a8 a9 a10 a11 a12 a1 s11 Q) ∧ ((s11.1 P 14).toInt = 0 → ∀ x12 : Int32, (-2147483648 ≤ a8.toInt + a6.toInt ∧ a8.toInt + a6.toInt ≤ 2147483647 → x12.toInt = a8.toInt + a6.toInt) → ∀ x13 : Int32, (-2147483648 ≤ x12.toInt + a7.toInt ∧ x12.toInt + a7.toInt ≤ 2147483647 → x13.toInt = x12.toInt + a7.toInt) → T 13 [.ref 84, .int x13, .int a4, .int a11, .int a9, .int a3] s11 (fun v14 s15 => ∃ x16, v14 = some (.int x16) ∧ (v_14_181 T P  a1 a2 a3 a4 a5 a6 a7 a8 a9 a10 a11 a12 x16 s15 Q)))))))))))
def v_14_118 (T : Nat → List Value → zS → (Option Value → zS → Prop) → Prop) (P : Nat)  (a1 : Int32) (a2 : Int32) (a3 : Int32) (a4 : Int32) (a5 : Int32) (a6 : Int32) (a7 : Int32) (a8 : Int32) (a9 : Int32) (a10 : Int32) (a11 : Int32) (a12 : Int32) (s : zS) (Q : Option Value → zS → Prop) : Prop :=
  (a9.toInt ≤ 0 → v_14_126 T P  a1 a2 a3 a4 a5 a6 a7 a8 a9 a10 a11 a12 (s.1 84 5) 0 s Q) ∧ (¬ (a9.toInt ≤ 0) → v_14_126 T P  a1 a2 a3 a4 a5 a6 a7 a8 a9 a10 a11 a12 (s.1 84 5) 1 s Q)
def v_14_99 (T : Nat → List Value → zS → (Option Value → zS → Prop) → Prop) (P : Nat) (R99 : Int32 → Int32 → Int32 → Int32 → Int32 → Int32 → Int32 → Int32 → Int32 → Int32 → Int32 → Int32 → zS → Prop) (a1 : Int32) (a2 : Int32) (a3 : Int32) (a4 : Int32) (a5 : Int32) (a6 : Int32) (a7 : Int32) (a8 : Int32) (a9 : Int32) (a10 : Int32) (a11 : Int32) (a12 : Int32) (s : zS) (Q : Option Value → zS → Prop) : Prop :=
  (a9.toInt ≤ a12.toInt → v_14_118 T P  a1 a2 a3 a4 a5 a6 a7 a8 a9 a10 a11 a12 s Q) ∧ (¬ (a9.toInt ≤ a12.toInt) → (¬ ((s.1 P 14).toInt = 0) → v_14_118 T P  a1 a2 a3 a4 a5 a6 a7 a8 a9 a10 a11 a12 s Q) ∧ ((s.1 P 14).toInt = 0 → ∀ x1 : Int32, (-2147483648 ≤ (s.1 84 5).toInt + 1 ∧ (s.1 84 5).toInt + 1 ≤ 2147483647 → x1.toInt = (s.1 84 5).toInt + 1) → T 132 [.ref 83, .int x1, .int 1] s (fun v2 s3 => ∃ x4, v2 = some (.int x4) ∧ (∀ s5, s5 = zf s3 84 5 x4 → ∀ x6 : Int32, (-2147483648 ≤ a12.toInt + 1 ∧ a12.toInt + 1 ≤ 2147483647 → x6.toInt = a12.toInt + 1) → R99 a1 a2 a3 a4 a5 a6 a7 a8 a9 a10 a11 x6 s5))))
def vl_14_99 (T : Nat → List Value → zS → (Option Value → zS → Prop) → Prop) (P : Nat)  (a1 : Int32) (a2 : Int32) (a3 : Int32) (a4 : Int32) (a5 : Int32) (a6 : Int32) (a7 : Int32) (a8 : Int32) (a9 : Int32) (a10 : Int32) (a11 : Int32) (a12 : Int32) (s : zS) (Q : Option Value → zS → Prop) : Prop :=
  ∃ (I : Int32 → Int32 → Int32 → Int32 → Int32 → Int32 → Int32 → Int32 → Int32 → Int32 → Int32 → Int32 → zS → Prop) (μ : Int32 → Int32 → Int32 → Int32 → Int32 → Int32 → Int32 → Int32 → Int32 → Int32 → Int32 → Int32 → zS → Nat), I a1 a2 a3 a4 a5 a6 a7 a8 a9 a10 a11 a12 s ∧ ∀ (a1 : Int32) (a2 : Int32) (a3 : Int32) (a4 : Int32) (a5 : Int32) (a6 : Int32) (a7 : Int32) (a8 : Int32) (a9 : Int32) (a10 : Int32) (a11 : Int32) (a12 : Int32) (s : zS), I a1 a2 a3 a4 a5 a6 a7 a8 a9 a10 a11 a12 s → v_14_99 T P (fun a1' a2' a3' a4' a5' a6' a7' a8' a9' a10' a11' a12' s' => I a1' a2' a3' a4' a5' a6' a7' a8' a9' a10' a11' a12' s' ∧ μ a1' a2' a3' a4' a5' a6' a7' a8' a9' a10' a11' a12' s' < μ a1 a2 a3 a4 a5 a6 a7 a8 a9 a10 a11 a12 s) a1 a2 a3 a4 a5 a6 a7 a8 a9 a10 a11 a12 s Q
def v_14_81 (T : Nat → List Value → zS → (Option Value → zS → Prop) → Prop) (P : Nat)  (a1 : Int32) (a2 : Int32) (a3 : Int32) (a4 : Int32) (a5 : Int32) (a6 : Int32) (a7 : Int32) (a8 : Int32) (a9 : Int32) (s : zS) (Q : Option Value → zS → Prop) : Prop :=
  T 38 [.ref P, .int 4, .int a3] s (fun v1 s2 => v1 = none ∧ (Q (some (.int a1)) s2))
def v_14_70 (T : Nat → List Value → zS → (Option Value → zS → Prop) → Prop) (P : Nat)  (a1 : Int32) (a2 : Int32) (a3 : Int32) (a4 : Int32) (a5 : Int32) (a6 : Int32) (a7 : Int32) (a8 : Int32) (t0 : Int32) (s : zS) (Q : Option Value → zS → Prop) : Prop :=
  (¬ (t0.toInt = a6.toInt) → v_14_81 T P  a1 a2 a3 a4 a5 a6 a7 a8 t0 s Q) ∧ (t0.toInt = a6.toInt → ((zg s (P + 12) a3).toInt = a7.toInt → T 92 [.ref 75, .int a1] s (fun v1 s2 => ∃ x3, v1 = some (.int x3) ∧ (vl_14_99 T P  a1 a2 a3 a4 a5 a6 a7 a8 t0 x3 (s2.1 P 10) 0 s2 Q))) ∧ (¬ ((zg s (P + 12) a3).toInt = a7.toInt) → v_14_81 T P  a1 a2 a3 a4 a5 a6 a7 a8 t0 s Q))
def v_14_0 (T : Nat → List Value → zS → (Option Value → zS → Prop) → Prop) (P : Nat)  (a1 : Int32) (a2 : Int32) (s : zS) (Q : Option Value → zS → Prop) : Prop :=
  ∀ x1 : Int32, (-2147483648 ≤ (s.1 84 5).toInt + 1 ∧ (s.1 84 5).toInt + 1 ≤ 2147483647 → x1.toInt = (s.1 84 5).toInt + 1) → ∀ s2, s2 = zf s 84 5 x1 → T 90 [.ref 75, .int a1] s2 (fun v3 s4 => ∃ x5, v3 = some (.int x5) ∧ (T 52 [.ref P, .int (zg s4 (P + 18) x5), .int (zg s4 (P + 10) (s.1 84 5))] s4 (fun v6 s7 => ∃ x8, v6 = some (.int x8) ∧ ((0 ≤ x8.toInt → (¬ ((zg s7 (P + 4) (s7.1 84 5)).toInt = 91) → v_14_70 T P  a1 a2 (s.1 84 5) x5 x8 (zg s7 (P + 28) (x8 * 5 + 3)) (zg s7 (P + 28) (x8 * 5 + 4)) (zg s7 (P + 28) (x8 * 5 + 2)) 0 s7 Q) ∧ ((zg s7 (P + 4) (s7.1 84 5)).toInt = 91 → v_14_70 T P  a1 a2 (s.1 84 5) x5 x8 (zg s7 (P + 28) (x8 * 5 + 3)) (zg s7 (P + 28) (x8 * 5 + 4)) (zg s7 (P + 28) (x8 * 5 + 2)) (zg s7 (P + 12) (s7.1 84 5)) s7 Q)) ∧ (¬ (0 ≤ x8.toInt) → T 38 [.ref P, .int 2, .int (s.1 84 5)] s7 (fun v12 s13 => v12 = none ∧ (Q (some (.int a1)) s13)))))))
set_option maxRecDepth 20000 in
theorem m_14_181_3 {d d0 : Nat} (hd : d = d0 + 8)  {a1 : Int32} {a2 : Int32} {a3 : Int32} {a4 : Int32} {a5 : Int32} {a6 : Int32} {a7 : Int32} {a8 : Int32} {a9 : Int32} {a10 : Int32} {a11 : Int32} {a12 : Int32} {t0 : Int32} {s : zS} {Q : Option Value → zS → Prop}  (h : v_14_181 (fun j => Zt d (wd 3 j) j) 3  a1 a2 a3 a4 a5 a6 a7 a8 a9 a10 a11 a12 t0 s Q) : Zn d [] [(3, 99), (3, 98)] ([(84, 2, 3), (84, 3, 4), (84, 4, 7), (83, 1, 3), (83, 2, 4), (75, 0, 3), (75, 1, 21), (75, 2, 25)] : zW) ([(84, 2, 3), (84, 3, 4), (84, 4, 7), (83, 1, 3), (83, 2, 4), (75, 0, 3), (75, 1, 21), (75, 2, 25)] : zW) xL_1 13 (some .int) xE_14 (xE_14.drop 181) [.ref 84, .int a1, .int a2, .int a3, .int a4, .int a5, .int a6, .int a7, .int a8, .int a9, .int a10, .int a11, .int a12, .null, .null, .null] [.int t0] s Q := by
  unfold v_14_181 at h
  exact zn_retI rfl h
set_option maxRecDepth 20000 in
theorem m_14_126_3 {d d0 : Nat} (hd : d = d0 + 8)  {a1 : Int32} {a2 : Int32} {a3 : Int32} {a4 : Int32} {a5 : Int32} {a6 : Int32} {a7 : Int32} {a8 : Int32} {a9 : Int32} {a10 : Int32} {a11 : Int32} {a12 : Int32} {t1 : Int32} {t2 : Int32} {s : zS} {Q : Option Value → zS → Prop}  (h : v_14_126 (fun j => Zt d (wd 3 j) j) 3  a1 a2 a3 a4 a5 a6 a7 a8 a9 a10 a11 a12 t1 t2 s Q) : Zn d [] [(3, 99), (3, 98)] ([(84, 2, 3), (84, 3, 4), (84, 4, 7), (83, 1, 3), (83, 2, 4), (75, 0, 3), (75, 1, 21), (75, 2, 25)] : zW) ([(84, 2, 3), (84, 3, 4), (84, 4, 7), (83, 1, 3), (83, 2, 4), (75, 0, 3), (75, 1, 21), (75, 2, 25)] : zW) xL_1 13 (some .int) xE_14 (xE_14.drop 126) [.ref 84, .int a1, .int a2, .int a3, .int a4, .int a5, .int a6, .int a7, .int a8, .int a9, .int a10, .int a11, .int a12, .null, .null, .null] [.int t2, .int t1, .ref 84] s Q := by
  unfold v_14_126 at h
  replace h := h _ (i_add (x := t1) (y := t2) rfl rfl)
  refine zn_c [.int (t1 + t2), .ref 84] xo_iadd rfl rfl ?_
  refine zn_putI (a := 84) rfl rfl rfl rfl ⟨Int32.le_toInt _, Int.le_of_lt_add_one (Int32.toInt_lt _)⟩ rfl rfl rfl ?_
  replace h := h _ rfl
  refine zn_ld rfl rfl rfl ?_
  refine zn_get (v := .ref 83) rfl (zv_R (a := 84) rfl rfl) ?_
  refine zn_ld rfl rfl rfl ?_
  refine zn_ld rfl rfl rfl ?_
  refine zn_get (v := .ref 3) rfl (zv_C (a := 84) (n := 0) rfl rfl rfl) ?_
  refine zn_get (v := .int ((zf s 84 5 (t1 + t2)).1 3 10)) rfl (zv_I (a := 3) rfl rfl) ?_
  refine zn_zt [.ref 83, .int a11, .int ((zf s 84 5 (t1 + t2)).1 3 10)] [] rfl rfl rfl rfl rfl (Zt.imp h (fun v3 s4 h => ?_))
  obtain ⟨rfl, h⟩ := h
  change Zn _ _ _ _ _ _ _ _ _ _ _ [] _ _
  refine zn_ld rfl rfl rfl ?_
  refine zn_ld rfl rfl rfl ?_
  refine zn_ld rfl rfl rfl ?_
  refine zn_ld rfl rfl rfl ?_
  refine zn_ld rfl rfl rfl ?_
  refine zn_zt [.ref 84, .int a8, .int a4, .int a11, .int a9] [] rfl rfl rfl rfl rfl (Zt.imp h (fun v5 s6 h => ?_))
  obtain ⟨rfl, h⟩ := h
  change Zn _ _ _ _ _ _ _ _ _ _ _ [] _ _
  refine zn_ld rfl rfl rfl ?_
  refine zn_ld rfl rfl rfl ?_
  refine zn_ld rfl rfl rfl ?_
  replace h := h _ (i_add (x := a8) (y := a6) rfl rfl)
  refine zn_c [.int (a8 + a6), .ref 84] xo_iadd rfl rfl ?_
  refine zn_ld rfl rfl rfl ?_
  refine zn_ld rfl rfl rfl ?_
  refine zn_ld rfl rfl rfl ?_
  refine zn_ld rfl rfl rfl ?_
  refine zn_ld rfl rfl rfl ?_
  refine zn_zt [.ref 84, .int (a8 + a6), .int a7, .int a4, .int a11, .int a9, .int a2] [] rfl rfl rfl rfl rfl (Zt.imp h (fun v8 s9 h => ?_))
  obtain ⟨rfl, h⟩ := h
  change Zn _ _ _ _ _ _ _ _ _ _ _ [] _ _
  refine zn_ld rfl rfl rfl ?_
  refine zn_get (v := .ref 3) rfl (zv_C (a := 84) (n := 0) rfl rfl rfl) ?_
  refine zn_c [.int 5, .ref 3] (xo_push (.int 5)) rfl rfl ?_
  refine zn_ld rfl rfl rfl ?_
  refine zn_get (v := .ref 4) rfl (zv_C (a := 84) (n := 1) rfl rfl rfl) ?_
  refine zn_get (v := .ref 13) rfl (zv_R (a := 4) rfl rfl) ?_
  refine zn_ld rfl rfl rfl ?_
  refine zn_row a3 [.int 5, .ref 3] (a := 13) hd rfl rfl rfl rfl ?_
  change Zn _ _ _ _ _ _ _ _ _ _ _ [.int (zg s9 13 a3), .int 5, .ref 3] _ _
  refine zn_ld rfl rfl rfl ?_
  refine zn_ld rfl rfl rfl ?_
  refine zn_ld rfl rfl rfl ?_
  refine zn_ld rfl rfl rfl ?_
  refine zn_zt [.ref 3, .int 5, .int (zg s9 13 a3), .int a7, .int a11, .int a9, .int a10] [] rfl rfl rfl rfl rfl (Zt.imp h (fun v10 s11 h => ?_))
  obtain ⟨rfl, h⟩ := h
  change Zn _ _ _ _ _ _ _ _ _ _ _ [] _ _
  refine zn_ld rfl rfl rfl ?_
  refine zn_get (v := .ref 3) rfl (zv_C (a := 84) (n := 0) rfl rfl rfl) ?_
  refine zn_get (v := .int (s11.1 3 14)) rfl (zv_I (a := 3) rfl rfl) ?_
  refine zn_brN rfl rfl ⟨fun hcn => ?_, fun hcn => ?_⟩
  · replace h := h.1 (fun q => hcn ((i_eq (x := s11.1 3 14) (y := 0) rfl (show (0 : Int32).toInt = 0 by decide)).mpr q))
    refine zn_ld rfl rfl rfl ?_
    exact m_14_181_3 hd  h
  · replace h := h.2 ((i_eq (x := s11.1 3 14) (y := 0) rfl (show (0 : Int32).toInt = 0 by decide)).mp hcn)
    refine zn_ld rfl rfl rfl ?_
    refine zn_ld rfl rfl rfl ?_
    refine zn_ld rfl rfl rfl ?_
    replace h := h _ (i_add (x := a8) (y := a6) rfl rfl)
    refine zn_c [.int (a8 + a6), .ref 84] xo_iadd rfl rfl ?_
    refine zn_ld rfl rfl rfl ?_
    replace h := h _ (i_add (x := (a8 + a6)) (y := a7) rfl rfl)
    refine zn_c [.int ((a8 + a6) + a7), .ref 84] xo_iadd rfl rfl ?_
    refine zn_ld rfl rfl rfl ?_
    refine zn_ld rfl rfl rfl ?_
    refine zn_ld rfl rfl rfl ?_
    refine zn_ld rfl rfl rfl ?_
    refine zn_zt [.ref 84, .int ((a8 + a6) + a7), .int a4, .int a11, .int a9, .int a3] [] rfl rfl rfl rfl rfl (Zt.imp h (fun v14 s15 h => ?_))
    obtain ⟨x16, rfl, h⟩ := h
    change Zn _ _ _ _ _ _ _ _ _ _ _ [.int x16] _ _
    refine zn_go rfl ?_
    exact m_14_181_3 hd  h
set_option maxRecDepth 20000 in
theorem m_14_118_3 {d d0 : Nat} (hd : d = d0 + 8)  {a1 : Int32} {a2 : Int32} {a3 : Int32} {a4 : Int32} {a5 : Int32} {a6 : Int32} {a7 : Int32} {a8 : Int32} {a9 : Int32} {a10 : Int32} {a11 : Int32} {a12 : Int32} {s : zS} {Q : Option Value → zS → Prop}  (h : v_14_118 (fun j => Zt d (wd 3 j) j) 3  a1 a2 a3 a4 a5 a6 a7 a8 a9 a10 a11 a12 s Q) : Zn d [] [(3, 99), (3, 98)] ([(84, 2, 3), (84, 3, 4), (84, 4, 7), (83, 1, 3), (83, 2, 4), (75, 0, 3), (75, 1, 21), (75, 2, 25)] : zW) ([(84, 2, 3), (84, 3, 4), (84, 4, 7), (83, 1, 3), (83, 2, 4), (75, 0, 3), (75, 1, 21), (75, 2, 25)] : zW) xL_1 13 (some .int) xE_14 (xE_14.drop 118) [.ref 84, .int a1, .int a2, .int a3, .int a4, .int a5, .int a6, .int a7, .int a8, .int a9, .int a10, .int a11, .int a12, .null, .null, .null] [] s Q := by
  unfold v_14_118 at h
  refine zn_ld rfl rfl rfl ?_
  refine zn_c [.ref 84, .ref 84] xo_dup rfl rfl ?_
  refine zn_get (v := .int (s.1 84 5)) rfl (zv_I (a := 84) rfl rfl) ?_
  refine zn_ld rfl rfl rfl ?_
  refine zn_brP rfl rfl ⟨fun hcn => ?_, fun hcn => ?_⟩
  · replace h := h.1 ((i_le (x := a9) (y := 0) rfl (show (0 : Int32).toInt = 0 by decide)).mp hcn)
    refine zn_c [.int 0, .int (s.1 84 5), .ref 84] (xo_push (.int 0)) rfl rfl ?_
    exact m_14_126_3 hd  h
  · replace h := h.2 (fun q => hcn ((i_le (x := a9) (y := 0) rfl (show (0 : Int32).toInt = 0 by decide)).mpr q))
    refine zn_c [.int 1, .int (s.1 84 5), .ref 84] (xo_push (.int 1)) rfl rfl ?_
    refine zn_go rfl ?_
    exact m_14_126_3 hd  h
set_option maxRecDepth 20000 in
theorem m_14_99_3 {d d0 : Nat} (hd : d = d0 + 8) {R99 : Int32 → Int32 → Int32 → Int32 → Int32 → Int32 → Int32 → Int32 → Int32 → Int32 → Int32 → Int32 → zS → Prop} {a1 : Int32} {a2 : Int32} {a3 : Int32} {a4 : Int32} {a5 : Int32} {a6 : Int32} {a7 : Int32} {a8 : Int32} {a9 : Int32} {a10 : Int32} {a11 : Int32} {a12 : Int32} {s : zS} {Q : Option Value → zS → Prop} (r99 : ∀ a1 a2 a3 a4 a5 a6 a7 a8 a9 a10 a11 a12 s, R99 a1 a2 a3 a4 a5 a6 a7 a8 a9 a10 a11 a12 s → Zn d [] [(3, 99), (3, 98)] ([(84, 2, 3), (84, 3, 4), (84, 4, 7), (83, 1, 3), (83, 2, 4), (75, 0, 3), (75, 1, 21), (75, 2, 25)] : zW) ([(84, 2, 3), (84, 3, 4), (84, 4, 7), (83, 1, 3), (83, 2, 4), (75, 0, 3), (75, 1, 21), (75, 2, 25)] : zW) xL_1 13 (some .int) xE_14 (xE_14.drop 99) [.ref 84, .int a1, .int a2, .int a3, .int a4, .int a5, .int a6, .int a7, .int a8, .int a9, .int a10, .int a11, .int a12, .null, .null, .null] [] s Q) (h : v_14_99 (fun j => Zt d (wd 3 j) j) 3 R99 a1 a2 a3 a4 a5 a6 a7 a8 a9 a10 a11 a12 s Q) : Zn d [] [(3, 99), (3, 98)] ([(84, 2, 3), (84, 3, 4), (84, 4, 7), (83, 1, 3), (83, 2, 4), (75, 0, 3), (75, 1, 21), (75, 2, 25)] : zW) ([(84, 2, 3), (84, 3, 4), (84, 4, 7), (83, 1, 3), (83, 2, 4), (75, 0, 3), (75, 1, 21), (75, 2, 25)] : zW) xL_1 13 (some .int) xE_14 (xE_14.drop 99) [.ref 84, .int a1, .int a2, .int a3, .int a4, .int a5, .int a6, .int a7, .int a8, .int a9, .int a10, .int a11, .int a12, .null, .null, .null] [] s Q := by
  unfold v_14_99 at h
  refine zn_ld rfl rfl rfl ?_
  refine zn_ld rfl rfl rfl ?_
  refine zn_brP rfl rfl ⟨fun hcn => ?_, fun hcn => ?_⟩
  · replace h := h.1 ((i_le (x := a9) (y := a12) rfl rfl).mp hcn)
    exact m_14_118_3 hd  h
  · replace h := h.2 (fun q => hcn ((i_le (x := a9) (y := a12) rfl rfl).mpr q))
    refine zn_ld rfl rfl rfl ?_
    refine zn_get (v := .ref 3) rfl (zv_C (a := 84) (n := 0) rfl rfl rfl) ?_
    refine zn_get (v := .int (s.1 3 14)) rfl (zv_I (a := 3) rfl rfl) ?_
    refine zn_brN rfl rfl ⟨fun hcn => ?_, fun hcn => ?_⟩
    · replace h := h.1 (fun q => hcn ((i_eq (x := s.1 3 14) (y := 0) rfl (show (0 : Int32).toInt = 0 by decide)).mpr q))
      exact m_14_118_3 hd  h
    · replace h := h.2 ((i_eq (x := s.1 3 14) (y := 0) rfl (show (0 : Int32).toInt = 0 by decide)).mp hcn)
      refine zn_ld rfl rfl rfl ?_
      refine zn_ld rfl rfl rfl ?_
      refine zn_get (v := .ref 83) rfl (zv_R (a := 84) rfl rfl) ?_
      refine zn_ld rfl rfl rfl ?_
      refine zn_get (v := .int (s.1 84 5)) rfl (zv_I (a := 84) rfl rfl) ?_
      refine zn_c [.int 1, .int (s.1 84 5), .ref 83, .ref 84] (xo_push (.int 1)) rfl rfl ?_
      replace h := h _ (i_add (x := s.1 84 5) (y := 1) rfl (show (1 : Int32).toInt = 1 by decide))
      refine zn_c [.int ((s.1 84 5) + 1), .ref 83, .ref 84] xo_iadd rfl rfl ?_
      refine zn_c [.int 1, .int ((s.1 84 5) + 1), .ref 83, .ref 84] (xo_push (.int 1)) rfl rfl ?_
      refine zn_zt [.ref 83, .int ((s.1 84 5) + 1), .int 1] [.ref 84] rfl rfl rfl rfl rfl (Zt.imp h (fun v2 s3 h => ?_))
      obtain ⟨x4, rfl, h⟩ := h
      change Zn _ _ _ _ _ _ _ _ _ _ _ [.int x4, .ref 84] _ _
      refine zn_putI (a := 84) rfl rfl rfl rfl ⟨Int32.le_toInt _, Int.le_of_lt_add_one (Int32.toInt_lt _)⟩ rfl rfl rfl ?_
      replace h := h _ rfl
      replace h := h _ (i_add (x := a12) (y := 1) rfl (show (1 : Int32).toInt = 1 by decide))
      refine zn_inc [.ref 84, .int a1, .int a2, .int a3, .int a4, .int a5, .int a6, .int a7, .int a8, .int a9, .int a10, .int a11, .int (a12 + 1), .null, .null, .null] rfl rfl rfl rfl ?_
      refine zn_go rfl ?_
      exact r99 a1 a2 a3 a4 a5 a6 a7 a8 a9 a10 a11 (a12 + 1) (zf s3 84 5 x4) h
theorem ml_14_99_3 {d d0 : Nat} (hd : d = d0 + 8)  {a1 : Int32} {a2 : Int32} {a3 : Int32} {a4 : Int32} {a5 : Int32} {a6 : Int32} {a7 : Int32} {a8 : Int32} {a9 : Int32} {a10 : Int32} {a11 : Int32} {a12 : Int32} {s : zS} {Q : Option Value → zS → Prop}  (h : vl_14_99 (fun j => Zt d (wd 3 j) j) 3  a1 a2 a3 a4 a5 a6 a7 a8 a9 a10 a11 a12 s Q) : Zn d [] [(3, 99), (3, 98)] ([(84, 2, 3), (84, 3, 4), (84, 4, 7), (83, 1, 3), (83, 2, 4), (75, 0, 3), (75, 1, 21), (75, 2, 25)] : zW) ([(84, 2, 3), (84, 3, 4), (84, 4, 7), (83, 1, 3), (83, 2, 4), (75, 0, 3), (75, 1, 21), (75, 2, 25)] : zW) xL_1 13 (some .int) xE_14 (xE_14.drop 99) [.ref 84, .int a1, .int a2, .int a3, .int a4, .int a5, .int a6, .int a7, .int a8, .int a9, .int a10, .int a11, .int a12, .null, .null, .null] [] s Q := by
  obtain ⟨I, μ, h0, h1⟩ := h
  have key : ∀ (n : Nat) (a1 : Int32) (a2 : Int32) (a3 : Int32) (a4 : Int32) (a5 : Int32) (a6 : Int32) (a7 : Int32) (a8 : Int32) (a9 : Int32) (a10 : Int32) (a11 : Int32) (a12 : Int32) (s : zS), μ a1 a2 a3 a4 a5 a6 a7 a8 a9 a10 a11 a12 s = n → I a1 a2 a3 a4 a5 a6 a7 a8 a9 a10 a11 a12 s → Zn d [] [(3, 99), (3, 98)] ([(84, 2, 3), (84, 3, 4), (84, 4, 7), (83, 1, 3), (83, 2, 4), (75, 0, 3), (75, 1, 21), (75, 2, 25)] : zW) ([(84, 2, 3), (84, 3, 4), (84, 4, 7), (83, 1, 3), (83, 2, 4), (75, 0, 3), (75, 1, 21), (75, 2, 25)] : zW) xL_1 13 (some .int) xE_14 (xE_14.drop 99) [.ref 84, .int a1, .int a2, .int a3, .int a4, .int a5, .int a6, .int a7, .int a8, .int a9, .int a10, .int a11, .int a12, .null, .null, .null] [] s Q := by
    intro n
    induction n using Nat.strongRecOn with
    | ind n ih =>
      intro a1 a2 a3 a4 a5 a6 a7 a8 a9 a10 a11 a12 s e hI
      exact m_14_99_3 hd (fun a1' a2' a3' a4' a5' a6' a7' a8' a9' a10' a11' a12' s' q => ih _ (by rw [← e]; exact q.2) a1' a2' a3' a4' a5' a6' a7' a8' a9' a10' a11' a12' s' rfl q.1) (h1 a1 a2 a3 a4 a5 a6 a7 a8 a9 a10 a11 a12 s hI)
  exact key _ a1 a2 a3 a4 a5 a6 a7 a8 a9 a10 a11 a12 s rfl h0
set_option maxRecDepth 20000 in
theorem m_14_81_3 {d d0 : Nat} (hd : d = d0 + 8)  {a1 : Int32} {a2 : Int32} {a3 : Int32} {a4 : Int32} {a5 : Int32} {a6 : Int32} {a7 : Int32} {a8 : Int32} {a9 : Int32} {s : zS} {Q : Option Value → zS → Prop}  (h : v_14_81 (fun j => Zt d (wd 3 j) j) 3  a1 a2 a3 a4 a5 a6 a7 a8 a9 s Q) : Zn d [] [(3, 99), (3, 98)] ([(84, 2, 3), (84, 3, 4), (84, 4, 7), (83, 1, 3), (83, 2, 4), (75, 0, 3), (75, 1, 21), (75, 2, 25)] : zW) ([(84, 2, 3), (84, 3, 4), (84, 4, 7), (83, 1, 3), (83, 2, 4), (75, 0, 3), (75, 1, 21), (75, 2, 25)] : zW) xL_1 13 (some .int) xE_14 (xE_14.drop 81) [.ref 84, .int a1, .int a2, .int a3, .int a4, .int a5, .int a6, .int a7, .int a8, .int a9, .null, .null, .null, .null, .null, .null] [] s Q := by
  unfold v_14_81 at h
  refine zn_ld rfl rfl rfl ?_
  refine zn_get (v := .ref 3) rfl (zv_C (a := 84) (n := 0) rfl rfl rfl) ?_
  refine zn_c [.int 4, .ref 3] (xo_push (.int 4)) rfl rfl ?_
  refine zn_ld rfl rfl rfl ?_
  refine zn_zt [.ref 3, .int 4, .int a3] [] rfl rfl rfl rfl rfl (Zt.imp h (fun v1 s2 h => ?_))
  obtain ⟨rfl, h⟩ := h
  change Zn _ _ _ _ _ _ _ _ _ _ _ [] _ _
  refine zn_ld rfl rfl rfl ?_
  exact zn_retI rfl h
set_option maxRecDepth 20000 in
theorem m_14_70_3 {d d0 : Nat} (hd : d = d0 + 8)  {a1 : Int32} {a2 : Int32} {a3 : Int32} {a4 : Int32} {a5 : Int32} {a6 : Int32} {a7 : Int32} {a8 : Int32} {t0 : Int32} {s : zS} {Q : Option Value → zS → Prop}  (h : v_14_70 (fun j => Zt d (wd 3 j) j) 3  a1 a2 a3 a4 a5 a6 a7 a8 t0 s Q) : Zn d [] [(3, 99), (3, 98)] ([(84, 2, 3), (84, 3, 4), (84, 4, 7), (83, 1, 3), (83, 2, 4), (75, 0, 3), (75, 1, 21), (75, 2, 25)] : zW) ([(84, 2, 3), (84, 3, 4), (84, 4, 7), (83, 1, 3), (83, 2, 4), (75, 0, 3), (75, 1, 21), (75, 2, 25)] : zW) xL_1 13 (some .int) xE_14 (xE_14.drop 70) [.ref 84, .int a1, .int a2, .int a3, .int a4, .int a5, .int a6, .int a7, .int a8, .null, .null, .null, .null, .null, .null, .null] [.int t0] s Q := by
  unfold v_14_70 at h
  refine zn_st [.ref 84, .int a1, .int a2, .int a3, .int a4, .int a5, .int a6, .int a7, .int a8, .int t0, .null, .null, .null, .null, .null, .null] rfl rfl rfl ?_
  refine zn_ld rfl rfl rfl ?_
  refine zn_ld rfl rfl rfl ?_
  refine zn_brN rfl rfl ⟨fun hcn => ?_, fun hcn => ?_⟩
  · replace h := h.1 (fun q => hcn ((i_eq (x := t0) (y := a6) rfl rfl).mpr q))
    exact m_14_81_3 hd  h
  · replace h := h.2 ((i_eq (x := t0) (y := a6) rfl rfl).mp hcn)
    refine zn_ld rfl rfl rfl ?_
    refine zn_get (v := .ref 4) rfl (zv_C (a := 84) (n := 1) rfl rfl rfl) ?_
    refine zn_get (v := .ref 15) rfl (zv_R (a := 4) rfl rfl) ?_
    refine zn_ld rfl rfl rfl ?_
    refine zn_row a3 [] (a := 15) hd rfl rfl rfl rfl ?_
    change Zn _ _ _ _ _ _ _ _ _ _ _ [.int (zg s 15 a3)] _ _
    refine zn_ld rfl rfl rfl ?_
    refine zn_brP rfl rfl ⟨fun hcn => ?_, fun hcn => ?_⟩
    · replace h := h.1 ((i_eq (x := zg s 15 a3) (y := a7) rfl rfl).mp hcn)
      refine zn_ld rfl rfl rfl ?_
      refine zn_get (v := .ref 75) rfl (zv_R (a := 84) rfl rfl) ?_
      refine zn_ld rfl rfl rfl ?_
      refine zn_zt [.ref 75, .int a1] [] rfl rfl rfl rfl rfl (Zt.imp h (fun v1 s2 h => ?_))
      obtain ⟨x3, rfl, h⟩ := h
      change Zn _ _ _ _ _ _ _ _ _ _ _ [.int x3] _ _
      refine zn_st [.ref 84, .int a1, .int a2, .int a3, .int a4, .int a5, .int a6, .int a7, .int a8, .int t0, .int x3, .null, .null, .null, .null, .null] rfl rfl rfl ?_
      refine zn_ld rfl rfl rfl ?_
      refine zn_get (v := .ref 3) rfl (zv_C (a := 84) (n := 0) rfl rfl rfl) ?_
      refine zn_get (v := .int (s2.1 3 10)) rfl (zv_I (a := 3) rfl rfl) ?_
      refine zn_st [.ref 84, .int a1, .int a2, .int a3, .int a4, .int a5, .int a6, .int a7, .int a8, .int t0, .int x3, .int (s2.1 3 10), .null, .null, .null, .null] rfl rfl rfl ?_
      refine zn_c [.int 0] (xo_push (.int 0)) rfl rfl ?_
      refine zn_st [.ref 84, .int a1, .int a2, .int a3, .int a4, .int a5, .int a6, .int a7, .int a8, .int t0, .int x3, .int (s2.1 3 10), .int 0, .null, .null, .null] rfl rfl rfl ?_
      exact ml_14_99_3 hd  h
    · replace h := h.2 (fun q => hcn ((i_eq (x := zg s 15 a3) (y := a7) rfl rfl).mpr q))
      exact m_14_81_3 hd  h
set_option maxRecDepth 20000 in
theorem m_14_0_3 {d d0 : Nat} (hd : d = d0 + 8)  {a1 : Int32} {a2 : Int32} {s : zS} {Q : Option Value → zS → Prop}  (h : v_14_0 (fun j => Zt d (wd 3 j) j) 3  a1 a2 s Q) : Zn d [] [(3, 99), (3, 98)] ([(84, 2, 3), (84, 3, 4), (84, 4, 7), (83, 1, 3), (83, 2, 4), (75, 0, 3), (75, 1, 21), (75, 2, 25)] : zW) ([(84, 2, 3), (84, 3, 4), (84, 4, 7), (83, 1, 3), (83, 2, 4), (75, 0, 3), (75, 1, 21), (75, 2, 25)] : zW) xL_1 13 (some .int) xE_14 (xE_14.drop 0) [.ref 84, .int a1, .int a2, .null, .null, .null, .null, .null, .null, .null, .null, .null, .null, .null, .null, .null] [] s Q := by
  unfold v_14_0 at h
  refine zn_ld rfl rfl rfl ?_
  refine zn_get (v := .int (s.1 84 5)) rfl (zv_I (a := 84) rfl rfl) ?_
  refine zn_st [.ref 84, .int a1, .int a2, .int (s.1 84 5), .null, .null, .null, .null, .null, .null, .null, .null, .null, .null, .null, .null] rfl rfl rfl ?_
  refine zn_ld rfl rfl rfl ?_
  refine zn_c [.ref 84, .ref 84] xo_dup rfl rfl ?_
  refine zn_get (v := .int (s.1 84 5)) rfl (zv_I (a := 84) rfl rfl) ?_
  refine zn_c [.int 1, .int (s.1 84 5), .ref 84] (xo_push (.int 1)) rfl rfl ?_
  replace h := h _ (i_add (x := s.1 84 5) (y := 1) rfl (show (1 : Int32).toInt = 1 by decide))
  refine zn_c [.int ((s.1 84 5) + 1), .ref 84] xo_iadd rfl rfl ?_
  refine zn_putI (a := 84) rfl rfl rfl rfl ⟨Int32.le_toInt _, Int.le_of_lt_add_one (Int32.toInt_lt _)⟩ rfl rfl rfl ?_
  replace h := h _ rfl
  refine zn_ld rfl rfl rfl ?_
  refine zn_get (v := .ref 75) rfl (zv_R (a := 84) rfl rfl) ?_
  refine zn_ld rfl rfl rfl ?_
  refine zn_zt [.ref 75, .int a1] [] rfl rfl rfl rfl rfl (Zt.imp h (fun v3 s4 h => ?_))
  obtain ⟨x5, rfl, h⟩ := h
  change Zn _ _ _ _ _ _ _ _ _ _ _ [.int x5] _ _
  refine zn_st [.ref 84, .int a1, .int a2, .int (s.1 84 5), .int x5, .null, .null, .null, .null, .null, .null, .null, .null, .null, .null, .null] rfl rfl rfl ?_
  refine zn_ld rfl rfl rfl ?_
  refine zn_get (v := .ref 3) rfl (zv_C (a := 84) (n := 0) rfl rfl rfl) ?_
  refine zn_ld rfl rfl rfl ?_
  refine zn_get (v := .ref 3) rfl (zv_C (a := 84) (n := 0) rfl rfl rfl) ?_
  refine zn_get (v := .ref 21) rfl (zv_R (a := 3) rfl rfl) ?_
  refine zn_ld rfl rfl rfl ?_
  refine zn_row x5 [.ref 3] (a := 21) hd rfl rfl rfl rfl ?_
  change Zn _ _ _ _ _ _ _ _ _ _ _ [.int (zg s4 21 x5), .ref 3] _ _
  refine zn_ld rfl rfl rfl ?_
  refine zn_get (v := .ref 4) rfl (zv_C (a := 84) (n := 1) rfl rfl rfl) ?_
  refine zn_get (v := .ref 13) rfl (zv_R (a := 4) rfl rfl) ?_
  refine zn_ld rfl rfl rfl ?_
  refine zn_row (s.1 84 5) [.int (zg s4 21 x5), .ref 3] (a := 13) hd rfl rfl rfl rfl ?_
  change Zn _ _ _ _ _ _ _ _ _ _ _ [.int (zg s4 13 (s.1 84 5)), .int (zg s4 21 x5), .ref 3] _ _
  refine zn_zt [.ref 3, .int (zg s4 21 x5), .int (zg s4 13 (s.1 84 5))] [] rfl rfl rfl rfl rfl (Zt.imp h (fun v6 s7 h => ?_))
  obtain ⟨x8, rfl, h⟩ := h
  change Zn _ _ _ _ _ _ _ _ _ _ _ [.int x8] _ _
  refine zn_st [.ref 84, .int a1, .int a2, .int (s.1 84 5), .int x5, .int x8, .null, .null, .null, .null, .null, .null, .null, .null, .null, .null] rfl rfl rfl ?_
  refine zn_ld rfl rfl rfl ?_
  refine zn_brP rfl rfl ⟨fun hcn => ?_, fun hcn => ?_⟩
  · replace h := h.1 ((i_le (x := 0) (y := x8) (show (0 : Int32).toInt = 0 by decide) rfl).mp hcn)
    refine zn_ld rfl rfl rfl ?_
    refine zn_get (v := .ref 3) rfl (zv_C (a := 84) (n := 0) rfl rfl rfl) ?_
    refine zn_ld rfl rfl rfl ?_
    refine zn_c [.int 3, .int x8, .ref 3] (xo_push (.int 3)) rfl rfl ?_
    refine zn_zt [.ref 3, .int x8, .int 3] [] (c := []) rfl rfl rfl rfl rfl (Zt.imp (zp_41 hd (Or.inl rfl)) (fun vq sq hq => ?_))
    obtain ⟨rfl, hq⟩ := hq
    rw [hq]
    change Zn _ _ _ _ _ _ _ _ _ _ _ [.int (zg s7 31 (x8 * 5 + 3))] _ _
    refine zn_st [.ref 84, .int a1, .int a2, .int (s.1 84 5), .int x5, .int x8, .int (zg s7 31 (x8 * 5 + 3)), .null, .null, .null, .null, .null, .null, .null, .null, .null] rfl rfl rfl ?_
    refine zn_ld rfl rfl rfl ?_
    refine zn_get (v := .ref 3) rfl (zv_C (a := 84) (n := 0) rfl rfl rfl) ?_
    refine zn_ld rfl rfl rfl ?_
    refine zn_c [.int 4, .int x8, .ref 3] (xo_push (.int 4)) rfl rfl ?_
    refine zn_zt [.ref 3, .int x8, .int 4] [] (c := []) rfl rfl rfl rfl rfl (Zt.imp (zp_41 hd (Or.inl rfl)) (fun vq sq hq => ?_))
    obtain ⟨rfl, hq⟩ := hq
    rw [hq]
    change Zn _ _ _ _ _ _ _ _ _ _ _ [.int (zg s7 31 (x8 * 5 + 4))] _ _
    refine zn_st [.ref 84, .int a1, .int a2, .int (s.1 84 5), .int x5, .int x8, .int (zg s7 31 (x8 * 5 + 3)), .int (zg s7 31 (x8 * 5 + 4)), .null, .null, .null, .null, .null, .null, .null, .null] rfl rfl rfl ?_
    refine zn_ld rfl rfl rfl ?_
    refine zn_get (v := .ref 3) rfl (zv_C (a := 84) (n := 0) rfl rfl rfl) ?_
    refine zn_ld rfl rfl rfl ?_
    refine zn_c [.int 2, .int x8, .ref 3] (xo_push (.int 2)) rfl rfl ?_
    refine zn_zt [.ref 3, .int x8, .int 2] [] (c := []) rfl rfl rfl rfl rfl (Zt.imp (zp_41 hd (Or.inl rfl)) (fun vq sq hq => ?_))
    obtain ⟨rfl, hq⟩ := hq
    rw [hq]
    change Zn _ _ _ _ _ _ _ _ _ _ _ [.int (zg s7 31 (x8 * 5 + 2))] _ _
    refine zn_st [.ref 84, .int a1, .int a2, .int (s.1 84 5), .int x5, .int x8, .int (zg s7 31 (x8 * 5 + 3)), .int (zg s7 31 (x8 * 5 + 4)), .int (zg s7 31 (x8 * 5 + 2)), .null, .null, .null, .null, .null, .null, .null] rfl rfl rfl ?_
    refine zn_ld rfl rfl rfl ?_
    refine zn_get (v := .ref 7) rfl (zv_C (a := 84) (n := 2) rfl rfl rfl) ?_
    refine zn_ld rfl rfl rfl ?_
    refine zn_get (v := .int (s7.1 84 5)) rfl (zv_I (a := 84) rfl rfl) ?_
    refine zn_row (s7.1 84 5) [] (a := 7) hd rfl rfl rfl rfl ?_
    change Zn _ _ _ _ _ _ _ _ _ _ _ [.int (zg s7 7 (s7.1 84 5))] _ _
    refine zn_c [.int 91, .int (zg s7 7 (s7.1 84 5))] (xo_push (.int 91)) rfl rfl ?_
    refine zn_brN rfl rfl ⟨fun hcn => ?_, fun hcn => ?_⟩
    · replace h := h.1 (fun q => hcn ((i_eq (x := zg s7 7 (s7.1 84 5)) (y := 91) rfl (show (91 : Int32).toInt = 91 by decide)).mpr q))
      refine zn_c [.int 0] (xo_push (.int 0)) rfl rfl ?_
      exact m_14_70_3 hd  h
    · replace h := h.2 ((i_eq (x := zg s7 7 (s7.1 84 5)) (y := 91) rfl (show (91 : Int32).toInt = 91 by decide)).mp hcn)
      refine zn_ld rfl rfl rfl ?_
      refine zn_get (v := .ref 4) rfl (zv_C (a := 84) (n := 1) rfl rfl rfl) ?_
      refine zn_get (v := .ref 15) rfl (zv_R (a := 4) rfl rfl) ?_
      refine zn_ld rfl rfl rfl ?_
      refine zn_get (v := .int (s7.1 84 5)) rfl (zv_I (a := 84) rfl rfl) ?_
      refine zn_row (s7.1 84 5) [] (a := 15) hd rfl rfl rfl rfl ?_
      change Zn _ _ _ _ _ _ _ _ _ _ _ [.int (zg s7 15 (s7.1 84 5))] _ _
      refine zn_go rfl ?_
      exact m_14_70_3 hd  h
  · replace h := h.2 (fun q => hcn ((i_le (x := 0) (y := x8) (show (0 : Int32).toInt = 0 by decide) rfl).mpr q))
    refine zn_ld rfl rfl rfl ?_
    refine zn_get (v := .ref 3) rfl (zv_C (a := 84) (n := 0) rfl rfl rfl) ?_
    refine zn_c [.int 2, .ref 3] (xo_push (.int 2)) rfl rfl ?_
    refine zn_ld rfl rfl rfl ?_
    refine zn_zt [.ref 3, .int 2, .int (s.1 84 5)] [] rfl rfl rfl rfl rfl (Zt.imp h (fun v12 s13 h => ?_))
    obtain ⟨rfl, h⟩ := h
    change Zn _ _ _ _ _ _ _ _ _ _ _ [] _ _
    refine zn_ld rfl rfl rfl ?_
    exact zn_retI rfl h
theorem zq_14_3 {d : Nat} {a1 : Int32} {a2 : Int32} {s : zS} {Q : Option Value → zS → Prop} (h : v_14_0 (fun j => Zt (d + 8) (wd 3 j) j) 3 a1 a2 s Q) : Zt (d + 9) ([(84, 2, 3), (84, 3, 4), (84, 4, 7), (83, 1, 3), (83, 2, 4), (75, 0, 3), (75, 1, 21), (75, 2, 25)] : zW) 14 [.ref 84, .int a1, .int a2] s Q := zt_of (E := xE_14) (L := xL_1) (ml := 13) (ret := some .int) rfl rfl rfl (m_14_0_3 rfl h)
set_option maxRecDepth 20000 in
theorem m_14_181_39 {d d0 : Nat} (hd : d = d0 + 8)  {a1 : Int32} {a2 : Int32} {a3 : Int32} {a4 : Int32} {a5 : Int32} {a6 : Int32} {a7 : Int32} {a8 : Int32} {a9 : Int32} {a10 : Int32} {a11 : Int32} {a12 : Int32} {t0 : Int32} {s : zS} {Q : Option Value → zS → Prop}  (h : v_14_181 (fun j => Zt d (wd 39 j) j) 39  a1 a2 a3 a4 a5 a6 a7 a8 a9 a10 a11 a12 t0 s Q) : Zn d [] [(39, 99), (39, 98)] ([(84, 2, 39), (84, 3, 40), (84, 4, 43), (83, 1, 39), (83, 2, 40), (75, 0, 39), (75, 1, 57), (75, 2, 61)] : zW) ([(84, 2, 39), (84, 3, 40), (84, 4, 43), (83, 1, 39), (83, 2, 40), (75, 0, 39), (75, 1, 57), (75, 2, 61)] : zW) xL_1 13 (some .int) xE_14 (xE_14.drop 181) [.ref 84, .int a1, .int a2, .int a3, .int a4, .int a5, .int a6, .int a7, .int a8, .int a9, .int a10, .int a11, .int a12, .null, .null, .null] [.int t0] s Q := by
  unfold v_14_181 at h
  exact zn_retI rfl h
set_option maxRecDepth 20000 in
theorem m_14_126_39 {d d0 : Nat} (hd : d = d0 + 8)  {a1 : Int32} {a2 : Int32} {a3 : Int32} {a4 : Int32} {a5 : Int32} {a6 : Int32} {a7 : Int32} {a8 : Int32} {a9 : Int32} {a10 : Int32} {a11 : Int32} {a12 : Int32} {t1 : Int32} {t2 : Int32} {s : zS} {Q : Option Value → zS → Prop}  (h : v_14_126 (fun j => Zt d (wd 39 j) j) 39  a1 a2 a3 a4 a5 a6 a7 a8 a9 a10 a11 a12 t1 t2 s Q) : Zn d [] [(39, 99), (39, 98)] ([(84, 2, 39), (84, 3, 40), (84, 4, 43), (83, 1, 39), (83, 2, 40), (75, 0, 39), (75, 1, 57), (75, 2, 61)] : zW) ([(84, 2, 39), (84, 3, 40), (84, 4, 43), (83, 1, 39), (83, 2, 40), (75, 0, 39), (75, 1, 57), (75, 2, 61)] : zW) xL_1 13 (some .int) xE_14 (xE_14.drop 126) [.ref 84, .int a1, .int a2, .int a3, .int a4, .int a5, .int a6, .int a7, .int a8, .int a9, .int a10, .int a11, .int a12, .null, .null, .null] [.int t2, .int t1, .ref 84] s Q := by
  unfold v_14_126 at h
  replace h := h _ (i_add (x := t1) (y := t2) rfl rfl)
  refine zn_c [.int (t1 + t2), .ref 84] xo_iadd rfl rfl ?_
  refine zn_putI (a := 84) rfl rfl rfl rfl ⟨Int32.le_toInt _, Int.le_of_lt_add_one (Int32.toInt_lt _)⟩ rfl rfl rfl ?_
  replace h := h _ rfl
  refine zn_ld rfl rfl rfl ?_
  refine zn_get (v := .ref 83) rfl (zv_R (a := 84) rfl rfl) ?_
  refine zn_ld rfl rfl rfl ?_
  refine zn_ld rfl rfl rfl ?_
  refine zn_get (v := .ref 39) rfl (zv_C (a := 84) (n := 0) rfl rfl rfl) ?_
  refine zn_get (v := .int ((zf s 84 5 (t1 + t2)).1 39 10)) rfl (zv_I (a := 39) rfl rfl) ?_
  refine zn_zt [.ref 83, .int a11, .int ((zf s 84 5 (t1 + t2)).1 39 10)] [] rfl rfl rfl rfl rfl (Zt.imp h (fun v3 s4 h => ?_))
  obtain ⟨rfl, h⟩ := h
  change Zn _ _ _ _ _ _ _ _ _ _ _ [] _ _
  refine zn_ld rfl rfl rfl ?_
  refine zn_ld rfl rfl rfl ?_
  refine zn_ld rfl rfl rfl ?_
  refine zn_ld rfl rfl rfl ?_
  refine zn_ld rfl rfl rfl ?_
  refine zn_zt [.ref 84, .int a8, .int a4, .int a11, .int a9] [] rfl rfl rfl rfl rfl (Zt.imp h (fun v5 s6 h => ?_))
  obtain ⟨rfl, h⟩ := h
  change Zn _ _ _ _ _ _ _ _ _ _ _ [] _ _
  refine zn_ld rfl rfl rfl ?_
  refine zn_ld rfl rfl rfl ?_
  refine zn_ld rfl rfl rfl ?_
  replace h := h _ (i_add (x := a8) (y := a6) rfl rfl)
  refine zn_c [.int (a8 + a6), .ref 84] xo_iadd rfl rfl ?_
  refine zn_ld rfl rfl rfl ?_
  refine zn_ld rfl rfl rfl ?_
  refine zn_ld rfl rfl rfl ?_
  refine zn_ld rfl rfl rfl ?_
  refine zn_ld rfl rfl rfl ?_
  refine zn_zt [.ref 84, .int (a8 + a6), .int a7, .int a4, .int a11, .int a9, .int a2] [] rfl rfl rfl rfl rfl (Zt.imp h (fun v8 s9 h => ?_))
  obtain ⟨rfl, h⟩ := h
  change Zn _ _ _ _ _ _ _ _ _ _ _ [] _ _
  refine zn_ld rfl rfl rfl ?_
  refine zn_get (v := .ref 39) rfl (zv_C (a := 84) (n := 0) rfl rfl rfl) ?_
  refine zn_c [.int 5, .ref 39] (xo_push (.int 5)) rfl rfl ?_
  refine zn_ld rfl rfl rfl ?_
  refine zn_get (v := .ref 40) rfl (zv_C (a := 84) (n := 1) rfl rfl rfl) ?_
  refine zn_get (v := .ref 49) rfl (zv_R (a := 40) rfl rfl) ?_
  refine zn_ld rfl rfl rfl ?_
  refine zn_row a3 [.int 5, .ref 39] (a := 49) hd rfl rfl rfl rfl ?_
  change Zn _ _ _ _ _ _ _ _ _ _ _ [.int (zg s9 49 a3), .int 5, .ref 39] _ _
  refine zn_ld rfl rfl rfl ?_
  refine zn_ld rfl rfl rfl ?_
  refine zn_ld rfl rfl rfl ?_
  refine zn_ld rfl rfl rfl ?_
  refine zn_zt [.ref 39, .int 5, .int (zg s9 49 a3), .int a7, .int a11, .int a9, .int a10] [] rfl rfl rfl rfl rfl (Zt.imp h (fun v10 s11 h => ?_))
  obtain ⟨rfl, h⟩ := h
  change Zn _ _ _ _ _ _ _ _ _ _ _ [] _ _
  refine zn_ld rfl rfl rfl ?_
  refine zn_get (v := .ref 39) rfl (zv_C (a := 84) (n := 0) rfl rfl rfl) ?_
  refine zn_get (v := .int (s11.1 39 14)) rfl (zv_I (a := 39) rfl rfl) ?_
  refine zn_brN rfl rfl ⟨fun hcn => ?_, fun hcn => ?_⟩
  · replace h := h.1 (fun q => hcn ((i_eq (x := s11.1 39 14) (y := 0) rfl (show (0 : Int32).toInt = 0 by decide)).mpr q))
    refine zn_ld rfl rfl rfl ?_
    exact m_14_181_39 hd  h
  · replace h := h.2 ((i_eq (x := s11.1 39 14) (y := 0) rfl (show (0 : Int32).toInt = 0 by decide)).mp hcn)
    refine zn_ld rfl rfl rfl ?_
    refine zn_ld rfl rfl rfl ?_
    refine zn_ld rfl rfl rfl ?_
    replace h := h _ (i_add (x := a8) (y := a6) rfl rfl)
    refine zn_c [.int (a8 + a6), .ref 84] xo_iadd rfl rfl ?_
    refine zn_ld rfl rfl rfl ?_
    replace h := h _ (i_add (x := (a8 + a6)) (y := a7) rfl rfl)
    refine zn_c [.int ((a8 + a6) + a7), .ref 84] xo_iadd rfl rfl ?_
    refine zn_ld rfl rfl rfl ?_
    refine zn_ld rfl rfl rfl ?_
    refine zn_ld rfl rfl rfl ?_
    refine zn_ld rfl rfl rfl ?_
    refine zn_zt [.ref 84, .int ((a8 + a6) + a7), .int a4, .int a11, .int a9, .int a3] [] rfl rfl rfl rfl rfl (Zt.imp h (fun v14 s15 h => ?_))
    obtain ⟨x16, rfl, h⟩ := h
    change Zn _ _ _ _ _ _ _ _ _ _ _ [.int x16] _ _
    refine zn_go rfl ?_
    exact m_14_181_39 hd  h
set_option maxRecDepth 20000 in
theorem m_14_118_39 {d d0 : Nat} (hd : d = d0 + 8)  {a1 : Int32} {a2 : Int32} {a3 : Int32} {a4 : Int32} {a5 : Int32} {a6 : Int32} {a7 : Int32} {a8 : Int32} {a9 : Int32} {a10 : Int32} {a11 : Int32} {a12 : Int32} {s : zS} {Q : Option Value → zS → Prop}  (h : v_14_118 (fun j => Zt d (wd 39 j) j) 39  a1 a2 a3 a4 a5 a6 a7 a8 a9 a10 a11 a12 s Q) : Zn d [] [(39, 99), (39, 98)] ([(84, 2, 39), (84, 3, 40), (84, 4, 43), (83, 1, 39), (83, 2, 40), (75, 0, 39), (75, 1, 57), (75, 2, 61)] : zW) ([(84, 2, 39), (84, 3, 40), (84, 4, 43), (83, 1, 39), (83, 2, 40), (75, 0, 39), (75, 1, 57), (75, 2, 61)] : zW) xL_1 13 (some .int) xE_14 (xE_14.drop 118) [.ref 84, .int a1, .int a2, .int a3, .int a4, .int a5, .int a6, .int a7, .int a8, .int a9, .int a10, .int a11, .int a12, .null, .null, .null] [] s Q := by
  unfold v_14_118 at h
  refine zn_ld rfl rfl rfl ?_
  refine zn_c [.ref 84, .ref 84] xo_dup rfl rfl ?_
  refine zn_get (v := .int (s.1 84 5)) rfl (zv_I (a := 84) rfl rfl) ?_
  refine zn_ld rfl rfl rfl ?_
  refine zn_brP rfl rfl ⟨fun hcn => ?_, fun hcn => ?_⟩
  · replace h := h.1 ((i_le (x := a9) (y := 0) rfl (show (0 : Int32).toInt = 0 by decide)).mp hcn)
    refine zn_c [.int 0, .int (s.1 84 5), .ref 84] (xo_push (.int 0)) rfl rfl ?_
    exact m_14_126_39 hd  h
  · replace h := h.2 (fun q => hcn ((i_le (x := a9) (y := 0) rfl (show (0 : Int32).toInt = 0 by decide)).mpr q))
    refine zn_c [.int 1, .int (s.1 84 5), .ref 84] (xo_push (.int 1)) rfl rfl ?_
    refine zn_go rfl ?_
    exact m_14_126_39 hd  h
set_option maxRecDepth 20000 in
theorem m_14_99_39 {d d0 : Nat} (hd : d = d0 + 8) {R99 : Int32 → Int32 → Int32 → Int32 → Int32 → Int32 → Int32 → Int32 → Int32 → Int32 → Int32 → Int32 → zS → Prop} {a1 : Int32} {a2 : Int32} {a3 : Int32} {a4 : Int32} {a5 : Int32} {a6 : Int32} {a7 : Int32} {a8 : Int32} {a9 : Int32} {a10 : Int32} {a11 : Int32} {a12 : Int32} {s : zS} {Q : Option Value → zS → Prop} (r99 : ∀ a1 a2 a3 a4 a5 a6 a7 a8 a9 a10 a11 a12 s, R99 a1 a2 a3 a4 a5 a6 a7 a8 a9 a10 a11 a12 s → Zn d [] [(39, 99), (39, 98)] ([(84, 2, 39), (84, 3, 40), (84, 4, 43), (83, 1, 39), (83, 2, 40), (75, 0, 39), (75, 1, 57), (75, 2, 61)] : zW) ([(84, 2, 39), (84, 3, 40), (84, 4, 43), (83, 1, 39), (83, 2, 40), (75, 0, 39), (75, 1, 57), (75, 2, 61)] : zW) xL_1 13 (some .int) xE_14 (xE_14.drop 99) [.ref 84, .int a1, .int a2, .int a3, .int a4, .int a5, .int a6, .int a7, .int a8, .int a9, .int a10, .int a11, .int a12, .null, .null, .null] [] s Q) (h : v_14_99 (fun j => Zt d (wd 39 j) j) 39 R99 a1 a2 a3 a4 a5 a6 a7 a8 a9 a10 a11 a12 s Q) : Zn d [] [(39, 99), (39, 98)] ([(84, 2, 39), (84, 3, 40), (84, 4, 43), (83, 1, 39), (83, 2, 40), (75, 0, 39), (75, 1, 57), (75, 2, 61)] : zW) ([(84, 2, 39), (84, 3, 40), (84, 4, 43), (83, 1, 39), (83, 2, 40), (75, 0, 39), (75, 1, 57), (75, 2, 61)] : zW) xL_1 13 (some .int) xE_14 (xE_14.drop 99) [.ref 84, .int a1, .int a2, .int a3, .int a4, .int a5, .int a6, .int a7, .int a8, .int a9, .int a10, .int a11, .int a12, .null, .null, .null] [] s Q := by
  unfold v_14_99 at h
  refine zn_ld rfl rfl rfl ?_
  refine zn_ld rfl rfl rfl ?_
  refine zn_brP rfl rfl ⟨fun hcn => ?_, fun hcn => ?_⟩
  · replace h := h.1 ((i_le (x := a9) (y := a12) rfl rfl).mp hcn)
    exact m_14_118_39 hd  h
  · replace h := h.2 (fun q => hcn ((i_le (x := a9) (y := a12) rfl rfl).mpr q))
    refine zn_ld rfl rfl rfl ?_
    refine zn_get (v := .ref 39) rfl (zv_C (a := 84) (n := 0) rfl rfl rfl) ?_
    refine zn_get (v := .int (s.1 39 14)) rfl (zv_I (a := 39) rfl rfl) ?_
    refine zn_brN rfl rfl ⟨fun hcn => ?_, fun hcn => ?_⟩
    · replace h := h.1 (fun q => hcn ((i_eq (x := s.1 39 14) (y := 0) rfl (show (0 : Int32).toInt = 0 by decide)).mpr q))
      exact m_14_118_39 hd  h
    · replace h := h.2 ((i_eq (x := s.1 39 14) (y := 0) rfl (show (0 : Int32).toInt = 0 by decide)).mp hcn)
      refine zn_ld rfl rfl rfl ?_
      refine zn_ld rfl rfl rfl ?_
      refine zn_get (v := .ref 83) rfl (zv_R (a := 84) rfl rfl) ?_
      refine zn_ld rfl rfl rfl ?_
      refine zn_get (v := .int (s.1 84 5)) rfl (zv_I (a := 84) rfl rfl) ?_
      refine zn_c [.int 1, .int (s.1 84 5), .ref 83, .ref 84] (xo_push (.int 1)) rfl rfl ?_
      replace h := h _ (i_add (x := s.1 84 5) (y := 1) rfl (show (1 : Int32).toInt = 1 by decide))
      refine zn_c [.int ((s.1 84 5) + 1), .ref 83, .ref 84] xo_iadd rfl rfl ?_
      refine zn_c [.int 1, .int ((s.1 84 5) + 1), .ref 83, .ref 84] (xo_push (.int 1)) rfl rfl ?_
      refine zn_zt [.ref 83, .int ((s.1 84 5) + 1), .int 1] [.ref 84] rfl rfl rfl rfl rfl (Zt.imp h (fun v2 s3 h => ?_))
      obtain ⟨x4, rfl, h⟩ := h
      change Zn _ _ _ _ _ _ _ _ _ _ _ [.int x4, .ref 84] _ _
      refine zn_putI (a := 84) rfl rfl rfl rfl ⟨Int32.le_toInt _, Int.le_of_lt_add_one (Int32.toInt_lt _)⟩ rfl rfl rfl ?_
      replace h := h _ rfl
      replace h := h _ (i_add (x := a12) (y := 1) rfl (show (1 : Int32).toInt = 1 by decide))
      refine zn_inc [.ref 84, .int a1, .int a2, .int a3, .int a4, .int a5, .int a6, .int a7, .int a8, .int a9, .int a10, .int a11, .int (a12 + 1), .null, .null, .null] rfl rfl rfl rfl ?_
      refine zn_go rfl ?_
      exact r99 a1 a2 a3 a4 a5 a6 a7 a8 a9 a10 a11 (a12 + 1) (zf s3 84 5 x4) h
theorem ml_14_99_39 {d d0 : Nat} (hd : d = d0 + 8)  {a1 : Int32} {a2 : Int32} {a3 : Int32} {a4 : Int32} {a5 : Int32} {a6 : Int32} {a7 : Int32} {a8 : Int32} {a9 : Int32} {a10 : Int32} {a11 : Int32} {a12 : Int32} {s : zS} {Q : Option Value → zS → Prop}  (h : vl_14_99 (fun j => Zt d (wd 39 j) j) 39  a1 a2 a3 a4 a5 a6 a7 a8 a9 a10 a11 a12 s Q) : Zn d [] [(39, 99), (39, 98)] ([(84, 2, 39), (84, 3, 40), (84, 4, 43), (83, 1, 39), (83, 2, 40), (75, 0, 39), (75, 1, 57), (75, 2, 61)] : zW) ([(84, 2, 39), (84, 3, 40), (84, 4, 43), (83, 1, 39), (83, 2, 40), (75, 0, 39), (75, 1, 57), (75, 2, 61)] : zW) xL_1 13 (some .int) xE_14 (xE_14.drop 99) [.ref 84, .int a1, .int a2, .int a3, .int a4, .int a5, .int a6, .int a7, .int a8, .int a9, .int a10, .int a11, .int a12, .null, .null, .null] [] s Q := by
  obtain ⟨I, μ, h0, h1⟩ := h
  have key : ∀ (n : Nat) (a1 : Int32) (a2 : Int32) (a3 : Int32) (a4 : Int32) (a5 : Int32) (a6 : Int32) (a7 : Int32) (a8 : Int32) (a9 : Int32) (a10 : Int32) (a11 : Int32) (a12 : Int32) (s : zS), μ a1 a2 a3 a4 a5 a6 a7 a8 a9 a10 a11 a12 s = n → I a1 a2 a3 a4 a5 a6 a7 a8 a9 a10 a11 a12 s → Zn d [] [(39, 99), (39, 98)] ([(84, 2, 39), (84, 3, 40), (84, 4, 43), (83, 1, 39), (83, 2, 40), (75, 0, 39), (75, 1, 57), (75, 2, 61)] : zW) ([(84, 2, 39), (84, 3, 40), (84, 4, 43), (83, 1, 39), (83, 2, 40), (75, 0, 39), (75, 1, 57), (75, 2, 61)] : zW) xL_1 13 (some .int) xE_14 (xE_14.drop 99) [.ref 84, .int a1, .int a2, .int a3, .int a4, .int a5, .int a6, .int a7, .int a8, .int a9, .int a10, .int a11, .int a12, .null, .null, .null] [] s Q := by
    intro n
    induction n using Nat.strongRecOn with
    | ind n ih =>
      intro a1 a2 a3 a4 a5 a6 a7 a8 a9 a10 a11 a12 s e hI
      exact m_14_99_39 hd (fun a1' a2' a3' a4' a5' a6' a7' a8' a9' a10' a11' a12' s' q => ih _ (by rw [← e]; exact q.2) a1' a2' a3' a4' a5' a6' a7' a8' a9' a10' a11' a12' s' rfl q.1) (h1 a1 a2 a3 a4 a5 a6 a7 a8 a9 a10 a11 a12 s hI)
  exact key _ a1 a2 a3 a4 a5 a6 a7 a8 a9 a10 a11 a12 s rfl h0
set_option maxRecDepth 20000 in
theorem m_14_81_39 {d d0 : Nat} (hd : d = d0 + 8)  {a1 : Int32} {a2 : Int32} {a3 : Int32} {a4 : Int32} {a5 : Int32} {a6 : Int32} {a7 : Int32} {a8 : Int32} {a9 : Int32} {s : zS} {Q : Option Value → zS → Prop}  (h : v_14_81 (fun j => Zt d (wd 39 j) j) 39  a1 a2 a3 a4 a5 a6 a7 a8 a9 s Q) : Zn d [] [(39, 99), (39, 98)] ([(84, 2, 39), (84, 3, 40), (84, 4, 43), (83, 1, 39), (83, 2, 40), (75, 0, 39), (75, 1, 57), (75, 2, 61)] : zW) ([(84, 2, 39), (84, 3, 40), (84, 4, 43), (83, 1, 39), (83, 2, 40), (75, 0, 39), (75, 1, 57), (75, 2, 61)] : zW) xL_1 13 (some .int) xE_14 (xE_14.drop 81) [.ref 84, .int a1, .int a2, .int a3, .int a4, .int a5, .int a6, .int a7, .int a8, .int a9, .null, .null, .null, .null, .null, .null] [] s Q := by
  unfold v_14_81 at h
  refine zn_ld rfl rfl rfl ?_
  refine zn_get (v := .ref 39) rfl (zv_C (a := 84) (n := 0) rfl rfl rfl) ?_
  refine zn_c [.int 4, .ref 39] (xo_push (.int 4)) rfl rfl ?_
  refine zn_ld rfl rfl rfl ?_
  refine zn_zt [.ref 39, .int 4, .int a3] [] rfl rfl rfl rfl rfl (Zt.imp h (fun v1 s2 h => ?_))
  obtain ⟨rfl, h⟩ := h
  change Zn _ _ _ _ _ _ _ _ _ _ _ [] _ _
  refine zn_ld rfl rfl rfl ?_
  exact zn_retI rfl h
set_option maxRecDepth 20000 in
theorem m_14_70_39 {d d0 : Nat} (hd : d = d0 + 8)  {a1 : Int32} {a2 : Int32} {a3 : Int32} {a4 : Int32} {a5 : Int32} {a6 : Int32} {a7 : Int32} {a8 : Int32} {t0 : Int32} {s : zS} {Q : Option Value → zS → Prop}  (h : v_14_70 (fun j => Zt d (wd 39 j) j) 39  a1 a2 a3 a4 a5 a6 a7 a8 t0 s Q) : Zn d [] [(39, 99), (39, 98)] ([(84, 2, 39), (84, 3, 40), (84, 4, 43), (83, 1, 39), (83, 2, 40), (75, 0, 39), (75, 1, 57), (75, 2, 61)] : zW) ([(84, 2, 39), (84, 3, 40), (84, 4, 43), (83, 1, 39), (83, 2, 40), (75, 0, 39), (75, 1, 57), (75, 2, 61)] : zW) xL_1 13 (some .int) xE_14 (xE_14.drop 70) [.ref 84, .int a1, .int a2, .int a3, .int a4, .int a5, .int a6, .int a7, .int a8, .null, .null, .null, .null, .null, .null, .null] [.int t0] s Q := by
  unfold v_14_70 at h
  refine zn_st [.ref 84, .int a1, .int a2, .int a3, .int a4, .int a5, .int a6, .int a7, .int a8, .int t0, .null, .null, .null, .null, .null, .null] rfl rfl rfl ?_
  refine zn_ld rfl rfl rfl ?_
  refine zn_ld rfl rfl rfl ?_
  refine zn_brN rfl rfl ⟨fun hcn => ?_, fun hcn => ?_⟩
  · replace h := h.1 (fun q => hcn ((i_eq (x := t0) (y := a6) rfl rfl).mpr q))
    exact m_14_81_39 hd  h
  · replace h := h.2 ((i_eq (x := t0) (y := a6) rfl rfl).mp hcn)
    refine zn_ld rfl rfl rfl ?_
    refine zn_get (v := .ref 40) rfl (zv_C (a := 84) (n := 1) rfl rfl rfl) ?_
    refine zn_get (v := .ref 51) rfl (zv_R (a := 40) rfl rfl) ?_
    refine zn_ld rfl rfl rfl ?_
    refine zn_row a3 [] (a := 51) hd rfl rfl rfl rfl ?_
    change Zn _ _ _ _ _ _ _ _ _ _ _ [.int (zg s 51 a3)] _ _
    refine zn_ld rfl rfl rfl ?_
    refine zn_brP rfl rfl ⟨fun hcn => ?_, fun hcn => ?_⟩
    · replace h := h.1 ((i_eq (x := zg s 51 a3) (y := a7) rfl rfl).mp hcn)
      refine zn_ld rfl rfl rfl ?_
      refine zn_get (v := .ref 75) rfl (zv_R (a := 84) rfl rfl) ?_
      refine zn_ld rfl rfl rfl ?_
      refine zn_zt [.ref 75, .int a1] [] rfl rfl rfl rfl rfl (Zt.imp h (fun v1 s2 h => ?_))
      obtain ⟨x3, rfl, h⟩ := h
      change Zn _ _ _ _ _ _ _ _ _ _ _ [.int x3] _ _
      refine zn_st [.ref 84, .int a1, .int a2, .int a3, .int a4, .int a5, .int a6, .int a7, .int a8, .int t0, .int x3, .null, .null, .null, .null, .null] rfl rfl rfl ?_
      refine zn_ld rfl rfl rfl ?_
      refine zn_get (v := .ref 39) rfl (zv_C (a := 84) (n := 0) rfl rfl rfl) ?_
      refine zn_get (v := .int (s2.1 39 10)) rfl (zv_I (a := 39) rfl rfl) ?_
      refine zn_st [.ref 84, .int a1, .int a2, .int a3, .int a4, .int a5, .int a6, .int a7, .int a8, .int t0, .int x3, .int (s2.1 39 10), .null, .null, .null, .null] rfl rfl rfl ?_
      refine zn_c [.int 0] (xo_push (.int 0)) rfl rfl ?_
      refine zn_st [.ref 84, .int a1, .int a2, .int a3, .int a4, .int a5, .int a6, .int a7, .int a8, .int t0, .int x3, .int (s2.1 39 10), .int 0, .null, .null, .null] rfl rfl rfl ?_
      exact ml_14_99_39 hd  h
    · replace h := h.2 (fun q => hcn ((i_eq (x := zg s 51 a3) (y := a7) rfl rfl).mpr q))
      exact m_14_81_39 hd  h
set_option maxRecDepth 20000 in
theorem m_14_0_39 {d d0 : Nat} (hd : d = d0 + 8)  {a1 : Int32} {a2 : Int32} {s : zS} {Q : Option Value → zS → Prop}  (h : v_14_0 (fun j => Zt d (wd 39 j) j) 39  a1 a2 s Q) : Zn d [] [(39, 99), (39, 98)] ([(84, 2, 39), (84, 3, 40), (84, 4, 43), (83, 1, 39), (83, 2, 40), (75, 0, 39), (75, 1, 57), (75, 2, 61)] : zW) ([(84, 2, 39), (84, 3, 40), (84, 4, 43), (83, 1, 39), (83, 2, 40), (75, 0, 39), (75, 1, 57), (75, 2, 61)] : zW) xL_1 13 (some .int) xE_14 (xE_14.drop 0) [.ref 84, .int a1, .int a2, .null, .null, .null, .null, .null, .null, .null, .null, .null, .null, .null, .null, .null] [] s Q := by
  unfold v_14_0 at h
  refine zn_ld rfl rfl rfl ?_
  refine zn_get (v := .int (s.1 84 5)) rfl (zv_I (a := 84) rfl rfl) ?_
  refine zn_st [.ref 84, .int a1, .int a2, .int (s.1 84 5), .null, .null, .null, .null, .null, .null, .null, .null, .null, .null, .null, .null] rfl rfl rfl ?_
  refine zn_ld rfl rfl rfl ?_
  refine zn_c [.ref 84, .ref 84] xo_dup rfl rfl ?_
  refine zn_get (v := .int (s.1 84 5)) rfl (zv_I (a := 84) rfl rfl) ?_
  refine zn_c [.int 1, .int (s.1 84 5), .ref 84] (xo_push (.int 1)) rfl rfl ?_
  replace h := h _ (i_add (x := s.1 84 5) (y := 1) rfl (show (1 : Int32).toInt = 1 by decide))
  refine zn_c [.int ((s.1 84 5) + 1), .ref 84] xo_iadd rfl rfl ?_
  refine zn_putI (a := 84) rfl rfl rfl rfl ⟨Int32.le_toInt _, Int.le_of_lt_add_one (Int32.toInt_lt _)⟩ rfl rfl rfl ?_
  replace h := h _ rfl
  refine zn_ld rfl rfl rfl ?_
  refine zn_get (v := .ref 75) rfl (zv_R (a := 84) rfl rfl) ?_
  refine zn_ld rfl rfl rfl ?_
  refine zn_zt [.ref 75, .int a1] [] rfl rfl rfl rfl rfl (Zt.imp h (fun v3 s4 h => ?_))
  obtain ⟨x5, rfl, h⟩ := h
  change Zn _ _ _ _ _ _ _ _ _ _ _ [.int x5] _ _
  refine zn_st [.ref 84, .int a1, .int a2, .int (s.1 84 5), .int x5, .null, .null, .null, .null, .null, .null, .null, .null, .null, .null, .null] rfl rfl rfl ?_
  refine zn_ld rfl rfl rfl ?_
  refine zn_get (v := .ref 39) rfl (zv_C (a := 84) (n := 0) rfl rfl rfl) ?_
  refine zn_ld rfl rfl rfl ?_
  refine zn_get (v := .ref 39) rfl (zv_C (a := 84) (n := 0) rfl rfl rfl) ?_
  refine zn_get (v := .ref 57) rfl (zv_R (a := 39) rfl rfl) ?_
  refine zn_ld rfl rfl rfl ?_
  refine zn_row x5 [.ref 39] (a := 57) hd rfl rfl rfl rfl ?_
  change Zn _ _ _ _ _ _ _ _ _ _ _ [.int (zg s4 57 x5), .ref 39] _ _
  refine zn_ld rfl rfl rfl ?_
  refine zn_get (v := .ref 40) rfl (zv_C (a := 84) (n := 1) rfl rfl rfl) ?_
  refine zn_get (v := .ref 49) rfl (zv_R (a := 40) rfl rfl) ?_
  refine zn_ld rfl rfl rfl ?_
  refine zn_row (s.1 84 5) [.int (zg s4 57 x5), .ref 39] (a := 49) hd rfl rfl rfl rfl ?_
  change Zn _ _ _ _ _ _ _ _ _ _ _ [.int (zg s4 49 (s.1 84 5)), .int (zg s4 57 x5), .ref 39] _ _
  refine zn_zt [.ref 39, .int (zg s4 57 x5), .int (zg s4 49 (s.1 84 5))] [] rfl rfl rfl rfl rfl (Zt.imp h (fun v6 s7 h => ?_))
  obtain ⟨x8, rfl, h⟩ := h
  change Zn _ _ _ _ _ _ _ _ _ _ _ [.int x8] _ _
  refine zn_st [.ref 84, .int a1, .int a2, .int (s.1 84 5), .int x5, .int x8, .null, .null, .null, .null, .null, .null, .null, .null, .null, .null] rfl rfl rfl ?_
  refine zn_ld rfl rfl rfl ?_
  refine zn_brP rfl rfl ⟨fun hcn => ?_, fun hcn => ?_⟩
  · replace h := h.1 ((i_le (x := 0) (y := x8) (show (0 : Int32).toInt = 0 by decide) rfl).mp hcn)
    refine zn_ld rfl rfl rfl ?_
    refine zn_get (v := .ref 39) rfl (zv_C (a := 84) (n := 0) rfl rfl rfl) ?_
    refine zn_ld rfl rfl rfl ?_
    refine zn_c [.int 3, .int x8, .ref 39] (xo_push (.int 3)) rfl rfl ?_
    refine zn_zt [.ref 39, .int x8, .int 3] [] (c := []) rfl rfl rfl rfl rfl (Zt.imp (zp_41 hd (Or.inr rfl)) (fun vq sq hq => ?_))
    obtain ⟨rfl, hq⟩ := hq
    rw [hq]
    change Zn _ _ _ _ _ _ _ _ _ _ _ [.int (zg s7 67 (x8 * 5 + 3))] _ _
    refine zn_st [.ref 84, .int a1, .int a2, .int (s.1 84 5), .int x5, .int x8, .int (zg s7 67 (x8 * 5 + 3)), .null, .null, .null, .null, .null, .null, .null, .null, .null] rfl rfl rfl ?_
    refine zn_ld rfl rfl rfl ?_
    refine zn_get (v := .ref 39) rfl (zv_C (a := 84) (n := 0) rfl rfl rfl) ?_
    refine zn_ld rfl rfl rfl ?_
    refine zn_c [.int 4, .int x8, .ref 39] (xo_push (.int 4)) rfl rfl ?_
    refine zn_zt [.ref 39, .int x8, .int 4] [] (c := []) rfl rfl rfl rfl rfl (Zt.imp (zp_41 hd (Or.inr rfl)) (fun vq sq hq => ?_))
    obtain ⟨rfl, hq⟩ := hq
    rw [hq]
    change Zn _ _ _ _ _ _ _ _ _ _ _ [.int (zg s7 67 (x8 * 5 + 4))] _ _
    refine zn_st [.ref 84, .int a1, .int a2, .int (s.1 84 5), .int x5, .int x8, .int (zg s7 67 (x8 * 5 + 3)), .int (zg s7 67 (x8 * 5 + 4)), .null, .null, .null, .null, .null, .null, .null, .null] rfl rfl rfl ?_
    refine zn_ld rfl rfl rfl ?_
    refine zn_get (v := .ref 39) rfl (zv_C (a := 84) (n := 0) rfl rfl rfl) ?_
    refine zn_ld rfl rfl rfl ?_
    refine zn_c [.int 2, .int x8, .ref 39] (xo_push (.int 2)) rfl rfl ?_
    refine zn_zt [.ref 39, .int x8, .int 2] [] (c := []) rfl rfl rfl rfl rfl (Zt.imp (zp_41 hd (Or.inr rfl)) (fun vq sq hq => ?_))
    obtain ⟨rfl, hq⟩ := hq
    rw [hq]
    change Zn _ _ _ _ _ _ _ _ _ _ _ [.int (zg s7 67 (x8 * 5 + 2))] _ _
    refine zn_st [.ref 84, .int a1, .int a2, .int (s.1 84 5), .int x5, .int x8, .int (zg s7 67 (x8 * 5 + 3)), .int (zg s7 67 (x8 * 5 + 4)), .int (zg s7 67 (x8 * 5 + 2)), .null, .null, .null, .null, .null, .null, .null] rfl rfl rfl ?_
    refine zn_ld rfl rfl rfl ?_
    refine zn_get (v := .ref 43) rfl (zv_C (a := 84) (n := 2) rfl rfl rfl) ?_
    refine zn_ld rfl rfl rfl ?_
    refine zn_get (v := .int (s7.1 84 5)) rfl (zv_I (a := 84) rfl rfl) ?_
    refine zn_row (s7.1 84 5) [] (a := 43) hd rfl rfl rfl rfl ?_
    change Zn _ _ _ _ _ _ _ _ _ _ _ [.int (zg s7 43 (s7.1 84 5))] _ _
    refine zn_c [.int 91, .int (zg s7 43 (s7.1 84 5))] (xo_push (.int 91)) rfl rfl ?_
    refine zn_brN rfl rfl ⟨fun hcn => ?_, fun hcn => ?_⟩
    · replace h := h.1 (fun q => hcn ((i_eq (x := zg s7 43 (s7.1 84 5)) (y := 91) rfl (show (91 : Int32).toInt = 91 by decide)).mpr q))
      refine zn_c [.int 0] (xo_push (.int 0)) rfl rfl ?_
      exact m_14_70_39 hd  h
    · replace h := h.2 ((i_eq (x := zg s7 43 (s7.1 84 5)) (y := 91) rfl (show (91 : Int32).toInt = 91 by decide)).mp hcn)
      refine zn_ld rfl rfl rfl ?_
      refine zn_get (v := .ref 40) rfl (zv_C (a := 84) (n := 1) rfl rfl rfl) ?_
      refine zn_get (v := .ref 51) rfl (zv_R (a := 40) rfl rfl) ?_
      refine zn_ld rfl rfl rfl ?_
      refine zn_get (v := .int (s7.1 84 5)) rfl (zv_I (a := 84) rfl rfl) ?_
      refine zn_row (s7.1 84 5) [] (a := 51) hd rfl rfl rfl rfl ?_
      change Zn _ _ _ _ _ _ _ _ _ _ _ [.int (zg s7 51 (s7.1 84 5))] _ _
      refine zn_go rfl ?_
      exact m_14_70_39 hd  h
  · replace h := h.2 (fun q => hcn ((i_le (x := 0) (y := x8) (show (0 : Int32).toInt = 0 by decide) rfl).mpr q))
    refine zn_ld rfl rfl rfl ?_
    refine zn_get (v := .ref 39) rfl (zv_C (a := 84) (n := 0) rfl rfl rfl) ?_
    refine zn_c [.int 2, .ref 39] (xo_push (.int 2)) rfl rfl ?_
    refine zn_ld rfl rfl rfl ?_
    refine zn_zt [.ref 39, .int 2, .int (s.1 84 5)] [] rfl rfl rfl rfl rfl (Zt.imp h (fun v12 s13 h => ?_))
    obtain ⟨rfl, h⟩ := h
    change Zn _ _ _ _ _ _ _ _ _ _ _ [] _ _
    refine zn_ld rfl rfl rfl ?_
    exact zn_retI rfl h
theorem zq_14_39 {d : Nat} {a1 : Int32} {a2 : Int32} {s : zS} {Q : Option Value → zS → Prop} (h : v_14_0 (fun j => Zt (d + 8) (wd 39 j) j) 39 a1 a2 s Q) : Zt (d + 9) ([(84, 2, 39), (84, 3, 40), (84, 4, 43), (83, 1, 39), (83, 2, 40), (75, 0, 39), (75, 1, 57), (75, 2, 61)] : zW) 14 [.ref 84, .int a1, .int a2] s Q := zt_of (E := xE_14) (L := xL_1) (ml := 13) (ret := some .int) rfl rfl rfl (m_14_0_39 rfl h)
theorem zc_14 {d P : Nat} (hP : P = 3 ∨ P = 39) {a1 : Int32} {a2 : Int32} {s : zS} {Q : Option Value → zS → Prop} (h : v_14_0 (fun j => Zt (d + 8) (wd P j) j) P a1 a2 s Q) : Zt (d + 9) (wd P 14) 14 [.ref 84, .int a1, .int a2] s Q := by
  rcases hP with rfl | rfl
  · exact zq_14_3 h
  · exact zq_14_39 h
/-! FeatherBench$Bodies.fitTypes -/
def v_15_70 (T : Nat → List Value → zS → (Option Value → zS → Prop) → Prop) (P : Nat)  (a1 : Int32) (a2 : Int32) (a3 : Int32) (a4 : Int32) (a5 : Int32) (a6 : Int32) (s : zS) (Q : Option Value → zS → Prop) : Prop :=
  Q none s
def v_15_47 (T : Nat → List Value → zS → (Option Value → zS → Prop) → Prop) (P : Nat) (R4 : Int32 → Int32 → Int32 → Int32 → Int32 → Int32 → zS → Prop) (a1 : Int32) (a2 : Int32) (a3 : Int32) (a4 : Int32) (a5 : Int32) (a6 : Int32) (a7 : Int32) (a8 : Int32) (t0 : Int32) (s : zS) (Q : Option Value → zS → Prop) : Prop :=
  ∀ x1 : Int32, (-2147483648 ≤ a5.toInt - 18738 ∧ a5.toInt - 18738 ≤ 2147483647 → x1.toInt = a5.toInt - 18738) → T 38 [.ref P, .int t0, .int (zg s (P + 20) x1)] s (fun v2 s3 => v2 = none ∧ (∀ s4, s4 = zf s3 75 3 a7 → T 83 [.ref 75, .int a5] s4 (fun v5 s6 => ∃ x7, v5 = some (.int x7) ∧ (∀ x8 : Int32, (-2147483648 ≤ a6.toInt + 1 ∧ a6.toInt + 1 ≤ 2147483647 → x8.toInt = a6.toInt + 1) → R4 a1 a2 a3 a4 x7 x8 s6))))
def v_15_4 (T : Nat → List Value → zS → (Option Value → zS → Prop) → Prop) (P : Nat) (R4 : Int32 → Int32 → Int32 → Int32 → Int32 → Int32 → zS → Prop) (a1 : Int32) (a2 : Int32) (a3 : Int32) (a4 : Int32) (a5 : Int32) (a6 : Int32) (s : zS) (Q : Option Value → zS → Prop) : Prop :=
  (a4.toInt ≤ a6.toInt → v_15_70 T P  a1 a2 a3 a4 a5 a6 s Q) ∧ (¬ (a4.toInt ≤ a6.toInt) → (¬ ((s.1 P 14).toInt = 0) → v_15_70 T P  a1 a2 a3 a4 a5 a6 s Q) ∧ ((s.1 P 14).toInt = 0 → T 86 [.ref 75, .ref 76, .int a2, .int a3, .int a4] s (fun v1 s2 => v1 = none ∧ (∀ x3 : Int32, (-2147483648 ≤ a1.toInt + a6.toInt ∧ a1.toInt + a6.toInt ≤ 2147483647 → x3.toInt = a1.toInt + a6.toInt) → T 87 [.ref 75, .int (zg s2 (P + 30) (x3 * 5 + 3)), .ref 76] s2 (fun v5 s6 => ∃ x7, v5 = some (.int x7) ∧ ((0 ≤ x7.toInt → T 88 [.ref 75, .int a5, .int x7] s6 (fun v8 s9 => ∃ x10, v8 = some (.int x10) ∧ (v_15_47 T P R4 a1 a2 a3 a4 a5 a6 (s.1 75 3) x7 x10 s9 Q))) ∧ (¬ (0 ≤ x7.toInt) → v_15_47 T P R4 a1 a2 a3 a4 a5 a6 (s.1 75 3) x7 9 s6 Q)))))))
def vl_15_4 (T : Nat → List Value → zS → (Option Value → zS → Prop) → Prop) (P : Nat)  (a1 : Int32) (a2 : Int32) (a3 : Int32) (a4 : Int32) (a5 : Int32) (a6 : Int32) (s : zS) (Q : Option Value → zS → Prop) : Prop :=
  ∃ (I : Int32 → Int32 → Int32 → Int32 → Int32 → Int32 → zS → Prop) (μ : Int32 → Int32 → Int32 → Int32 → Int32 → Int32 → zS → Nat), I a1 a2 a3 a4 a5 a6 s ∧ ∀ (a1 : Int32) (a2 : Int32) (a3 : Int32) (a4 : Int32) (a5 : Int32) (a6 : Int32) (s : zS), I a1 a2 a3 a4 a5 a6 s → v_15_4 T P (fun a1' a2' a3' a4' a5' a6' s' => I a1' a2' a3' a4' a5' a6' s' ∧ μ a1' a2' a3' a4' a5' a6' s' < μ a1 a2 a3 a4 a5 a6 s) a1 a2 a3 a4 a5 a6 s Q
def v_15_0 (T : Nat → List Value → zS → (Option Value → zS → Prop) → Prop) (P : Nat)  (a1 : Int32) (a2 : Int32) (a3 : Int32) (a4 : Int32) (s : zS) (Q : Option Value → zS → Prop) : Prop :=
  vl_15_4 T P  a1 a2 a3 a4 a3 0 s Q
set_option maxRecDepth 20000 in
theorem m_15_70_3 {d d0 : Nat} (hd : d = d0 + 8)  {a1 : Int32} {a2 : Int32} {a3 : Int32} {a4 : Int32} {a5 : Int32} {a6 : Int32} {s : zS} {Q : Option Value → zS → Prop}  (h : v_15_70 (fun j => Zt d (wd 3 j) j) 3  a1 a2 a3 a4 a5 a6 s Q) : Zn d [] [(3, 98)] ([(84, 2, 3), (84, 3, 4), (84, 4, 7), (83, 1, 3), (83, 2, 4), (75, 0, 3), (75, 1, 21), (75, 2, 25)] : zW) ([(84, 2, 3), (84, 3, 4), (84, 4, 7), (83, 1, 3), (83, 2, 4), (75, 0, 3), (75, 1, 21), (75, 2, 25)] : zW) xL_1 10 (none) xE_15 (xE_15.drop 70) [.ref 84, .int a1, .int a2, .int a3, .int a4, .int a5, .int a6, .null, .null, .null, .null, .null, .null, .null, .null] [] s Q := by
  unfold v_15_70 at h
  exact zn_ret0 rfl h
set_option maxRecDepth 20000 in
theorem m_15_47_3 {d d0 : Nat} (hd : d = d0 + 8) {R4 : Int32 → Int32 → Int32 → Int32 → Int32 → Int32 → zS → Prop} {a1 : Int32} {a2 : Int32} {a3 : Int32} {a4 : Int32} {a5 : Int32} {a6 : Int32} {a7 : Int32} {a8 : Int32} {t0 : Int32} {s : zS} {Q : Option Value → zS → Prop} (r4 : ∀ a1 a2 a3 a4 a5 a6 s, R4 a1 a2 a3 a4 a5 a6 s → Zn d [] [(3, 98)] ([(84, 2, 3), (84, 3, 4), (84, 4, 7), (83, 1, 3), (83, 2, 4), (75, 0, 3), (75, 1, 21), (75, 2, 25)] : zW) ([(84, 2, 3), (84, 3, 4), (84, 4, 7), (83, 1, 3), (83, 2, 4), (75, 0, 3), (75, 1, 21), (75, 2, 25)] : zW) xL_1 10 (none) xE_15 (xE_15.drop 4) [.ref 84, .int a1, .int a2, .int a3, .int a4, .int a5, .int a6, .null, .null, .null, .null, .null, .null, .null, .null] [] s Q) (h : v_15_47 (fun j => Zt d (wd 3 j) j) 3 R4 a1 a2 a3 a4 a5 a6 a7 a8 t0 s Q) : Zn d [] [(3, 98)] ([(84, 2, 3), (84, 3, 4), (84, 4, 7), (83, 1, 3), (83, 2, 4), (75, 0, 3), (75, 1, 21), (75, 2, 25)] : zW) ([(84, 2, 3), (84, 3, 4), (84, 4, 7), (83, 1, 3), (83, 2, 4), (75, 0, 3), (75, 1, 21), (75, 2, 25)] : zW) xL_1 10 (none) xE_15 (xE_15.drop 47) [.ref 84, .int a1, .int a2, .int a3, .int a4, .int a5, .int a6, .int a7, .int a8, .null, .null, .null, .null, .null, .null] [.int t0] s Q := by
  unfold v_15_47 at h
  refine zn_st [.ref 84, .int a1, .int a2, .int a3, .int a4, .int a5, .int a6, .int a7, .int a8, .int t0, .null, .null, .null, .null, .null] rfl rfl rfl ?_
  refine zn_ld rfl rfl rfl ?_
  refine zn_get (v := .ref 3) rfl (zv_C (a := 84) (n := 0) rfl rfl rfl) ?_
  refine zn_ld rfl rfl rfl ?_
  refine zn_ld rfl rfl rfl ?_
  refine zn_get (v := .ref 3) rfl (zv_C (a := 84) (n := 0) rfl rfl rfl) ?_
  refine zn_get (v := .ref 23) rfl (zv_R (a := 3) rfl rfl) ?_
  refine zn_ld rfl rfl rfl ?_
  refine zn_c [.int 18738, .int a5, .ref 23, .int t0, .ref 3] (xo_push (.int 18738)) rfl rfl ?_
  replace h := h _ (i_sub (x := a5) (y := 18738) rfl (show (18738 : Int32).toInt = 18738 by decide))
  refine zn_c [.int (a5 - 18738), .ref 23, .int t0, .ref 3] xo_isub rfl rfl ?_
  refine zn_row (a5 - 18738) [.int t0, .ref 3] (a := 23) hd rfl rfl rfl rfl ?_
  change Zn _ _ _ _ _ _ _ _ _ _ _ [.int (zg s 23 (a5 - 18738)), .int t0, .ref 3] _ _
  refine zn_zt [.ref 3, .int t0, .int (zg s 23 (a5 - 18738))] [] rfl rfl rfl rfl rfl (Zt.imp h (fun v2 s3 h => ?_))
  obtain ⟨rfl, h⟩ := h
  change Zn _ _ _ _ _ _ _ _ _ _ _ [] _ _
  refine zn_ld rfl rfl rfl ?_
  refine zn_get (v := .ref 75) rfl (zv_R (a := 84) rfl rfl) ?_
  refine zn_ld rfl rfl rfl ?_
  refine zn_putI (a := 75) rfl rfl rfl rfl ⟨Int32.le_toInt _, Int.le_of_lt_add_one (Int32.toInt_lt _)⟩ rfl rfl rfl ?_
  replace h := h _ rfl
  refine zn_ld rfl rfl rfl ?_
  refine zn_get (v := .ref 75) rfl (zv_R (a := 84) rfl rfl) ?_
  refine zn_ld rfl rfl rfl ?_
  refine zn_zt [.ref 75, .int a5] [] rfl rfl rfl rfl rfl (Zt.imp h (fun v5 s6 h => ?_))
  obtain ⟨x7, rfl, h⟩ := h
  change Zn _ _ _ _ _ _ _ _ _ _ _ [.int x7] _ _
  refine zn_st [.ref 84, .int a1, .int a2, .int a3, .int a4, .int x7, .int a6, .int a7, .int a8, .int t0, .null, .null, .null, .null, .null] rfl rfl rfl ?_
  replace h := h _ (i_add (x := a6) (y := 1) rfl (show (1 : Int32).toInt = 1 by decide))
  refine zn_inc [.ref 84, .int a1, .int a2, .int a3, .int a4, .int x7, .int (a6 + 1), .int a7, .int a8, .int t0, .null, .null, .null, .null, .null] rfl rfl rfl rfl ?_
  refine zn_go rfl ?_
  refine zn_fg 7 ?_
  refine zn_fg 8 ?_
  refine zn_fg 9 ?_
  exact r4 a1 a2 a3 a4 x7 (a6 + 1) s6 h
set_option maxRecDepth 20000 in
theorem m_15_4_3 {d d0 : Nat} (hd : d = d0 + 8) {R4 : Int32 → Int32 → Int32 → Int32 → Int32 → Int32 → zS → Prop} {a1 : Int32} {a2 : Int32} {a3 : Int32} {a4 : Int32} {a5 : Int32} {a6 : Int32} {s : zS} {Q : Option Value → zS → Prop} (r4 : ∀ a1 a2 a3 a4 a5 a6 s, R4 a1 a2 a3 a4 a5 a6 s → Zn d [] [(3, 98)] ([(84, 2, 3), (84, 3, 4), (84, 4, 7), (83, 1, 3), (83, 2, 4), (75, 0, 3), (75, 1, 21), (75, 2, 25)] : zW) ([(84, 2, 3), (84, 3, 4), (84, 4, 7), (83, 1, 3), (83, 2, 4), (75, 0, 3), (75, 1, 21), (75, 2, 25)] : zW) xL_1 10 (none) xE_15 (xE_15.drop 4) [.ref 84, .int a1, .int a2, .int a3, .int a4, .int a5, .int a6, .null, .null, .null, .null, .null, .null, .null, .null] [] s Q) (h : v_15_4 (fun j => Zt d (wd 3 j) j) 3 R4 a1 a2 a3 a4 a5 a6 s Q) : Zn d [] [(3, 98)] ([(84, 2, 3), (84, 3, 4), (84, 4, 7), (83, 1, 3), (83, 2, 4), (75, 0, 3), (75, 1, 21), (75, 2, 25)] : zW) ([(84, 2, 3), (84, 3, 4), (84, 4, 7), (83, 1, 3), (83, 2, 4), (75, 0, 3), (75, 1, 21), (75, 2, 25)] : zW) xL_1 10 (none) xE_15 (xE_15.drop 4) [.ref 84, .int a1, .int a2, .int a3, .int a4, .int a5, .int a6, .null, .null, .null, .null, .null, .null, .null, .null] [] s Q := by
  unfold v_15_4 at h
  refine zn_ld rfl rfl rfl ?_
  refine zn_ld rfl rfl rfl ?_
  refine zn_brP rfl rfl ⟨fun hcn => ?_, fun hcn => ?_⟩
  · replace h := h.1 ((i_le (x := a4) (y := a6) rfl rfl).mp hcn)
    exact m_15_70_3 hd  h
  · replace h := h.2 (fun q => hcn ((i_le (x := a4) (y := a6) rfl rfl).mpr q))
    refine zn_ld rfl rfl rfl ?_
    refine zn_get (v := .ref 3) rfl (zv_C (a := 84) (n := 0) rfl rfl rfl) ?_
    refine zn_get (v := .int (s.1 3 14)) rfl (zv_I (a := 3) rfl rfl) ?_
    refine zn_brN rfl rfl ⟨fun hcn => ?_, fun hcn => ?_⟩
    · replace h := h.1 (fun q => hcn ((i_eq (x := s.1 3 14) (y := 0) rfl (show (0 : Int32).toInt = 0 by decide)).mpr q))
      exact m_15_70_3 hd  h
    · replace h := h.2 ((i_eq (x := s.1 3 14) (y := 0) rfl (show (0 : Int32).toInt = 0 by decide)).mp hcn)
      refine zn_ld rfl rfl rfl ?_
      refine zn_get (v := .ref 75) rfl (zv_R (a := 84) rfl rfl) ?_
      refine zn_get (v := .int (s.1 75 3)) rfl (zv_I (a := 75) rfl rfl) ?_
      refine zn_st [.ref 84, .int a1, .int a2, .int a3, .int a4, .int a5, .int a6, .int (s.1 75 3), .null, .null, .null, .null, .null, .null, .null] rfl rfl rfl ?_
      refine zn_ld rfl rfl rfl ?_
      refine zn_get (v := .ref 75) rfl (zv_R (a := 84) rfl rfl) ?_
      refine zn_ld rfl rfl rfl ?_
      refine zn_get (v := .ref 75) rfl (zv_R (a := 84) rfl rfl) ?_
      refine zn_get (v := .ref 76) rfl (zv_R (a := 75) rfl rfl) ?_
      refine zn_ld rfl rfl rfl ?_
      refine zn_ld rfl rfl rfl ?_
      refine zn_ld rfl rfl rfl ?_
      refine zn_zt [.ref 75, .ref 76, .int a2, .int a3, .int a4] [] rfl rfl rfl rfl rfl (Zt.imp h (fun v1 s2 h => ?_))
      obtain ⟨rfl, h⟩ := h
      change Zn _ _ _ _ _ _ _ _ _ _ _ [] _ _
      refine zn_ld rfl rfl rfl ?_
      refine zn_get (v := .ref 75) rfl (zv_R (a := 84) rfl rfl) ?_
      refine zn_ld rfl rfl rfl ?_
      refine zn_get (v := .ref 3) rfl (zv_C (a := 84) (n := 0) rfl rfl rfl) ?_
      refine zn_ld rfl rfl rfl ?_
      refine zn_ld rfl rfl rfl ?_
      replace h := h _ (i_add (x := a1) (y := a6) rfl rfl)
      refine zn_c [.int (a1 + a6), .ref 3, .ref 75] xo_iadd rfl rfl ?_
      refine zn_c [.int 3, .int (a1 + a6), .ref 3, .ref 75] (xo_push (.int 3)) rfl rfl ?_
      refine zn_zt [.ref 3, .int (a1 + a6), .int 3] [.ref 75] (c := []) rfl rfl rfl rfl rfl (Zt.imp (zp_42 hd (Or.inl rfl)) (fun vq sq hq => ?_))
      obtain ⟨rfl, hq⟩ := hq
      rw [hq]
      change Zn _ _ _ _ _ _ _ _ _ _ _ [.int (zg s2 33 ((a1 + a6) * 5 + 3)), .ref 75] _ _
      refine zn_ld rfl rfl rfl ?_
      refine zn_get (v := .ref 75) rfl (zv_R (a := 84) rfl rfl) ?_
      refine zn_get (v := .ref 76) rfl (zv_R (a := 75) rfl rfl) ?_
      refine zn_zt [.ref 75, .int (zg s2 33 ((a1 + a6) * 5 + 3)), .ref 76] [] rfl rfl rfl rfl rfl (Zt.imp h (fun v5 s6 h => ?_))
      obtain ⟨x7, rfl, h⟩ := h
      change Zn _ _ _ _ _ _ _ _ _ _ _ [.int x7] _ _
      refine zn_st [.ref 84, .int a1, .int a2, .int a3, .int a4, .int a5, .int a6, .int (s.1 75 3), .int x7, .null, .null, .null, .null, .null, .null] rfl rfl rfl ?_
      refine zn_ld rfl rfl rfl ?_
      refine zn_brP rfl rfl ⟨fun hcn => ?_, fun hcn => ?_⟩
      · replace h := h.1 ((i_le (x := 0) (y := x7) (show (0 : Int32).toInt = 0 by decide) rfl).mp hcn)
        refine zn_ld rfl rfl rfl ?_
        refine zn_get (v := .ref 75) rfl (zv_R (a := 84) rfl rfl) ?_
        refine zn_ld rfl rfl rfl ?_
        refine zn_ld rfl rfl rfl ?_
        refine zn_zt [.ref 75, .int a5, .int x7] [] rfl rfl rfl rfl rfl (Zt.imp h (fun v8 s9 h => ?_))
        obtain ⟨x10, rfl, h⟩ := h
        change Zn _ _ _ _ _ _ _ _ _ _ _ [.int x10] _ _
        exact m_15_47_3 hd r4 h
      · replace h := h.2 (fun q => hcn ((i_le (x := 0) (y := x7) (show (0 : Int32).toInt = 0 by decide) rfl).mpr q))
        refine zn_c [.int 9] (xo_push (.int 9)) rfl rfl ?_
        refine zn_go rfl ?_
        exact m_15_47_3 hd r4 h
theorem ml_15_4_3 {d d0 : Nat} (hd : d = d0 + 8)  {a1 : Int32} {a2 : Int32} {a3 : Int32} {a4 : Int32} {a5 : Int32} {a6 : Int32} {s : zS} {Q : Option Value → zS → Prop}  (h : vl_15_4 (fun j => Zt d (wd 3 j) j) 3  a1 a2 a3 a4 a5 a6 s Q) : Zn d [] [(3, 98)] ([(84, 2, 3), (84, 3, 4), (84, 4, 7), (83, 1, 3), (83, 2, 4), (75, 0, 3), (75, 1, 21), (75, 2, 25)] : zW) ([(84, 2, 3), (84, 3, 4), (84, 4, 7), (83, 1, 3), (83, 2, 4), (75, 0, 3), (75, 1, 21), (75, 2, 25)] : zW) xL_1 10 (none) xE_15 (xE_15.drop 4) [.ref 84, .int a1, .int a2, .int a3, .int a4, .int a5, .int a6, .null, .null, .null, .null, .null, .null, .null, .null] [] s Q := by
  obtain ⟨I, μ, h0, h1⟩ := h
  have key : ∀ (n : Nat) (a1 : Int32) (a2 : Int32) (a3 : Int32) (a4 : Int32) (a5 : Int32) (a6 : Int32) (s : zS), μ a1 a2 a3 a4 a5 a6 s = n → I a1 a2 a3 a4 a5 a6 s → Zn d [] [(3, 98)] ([(84, 2, 3), (84, 3, 4), (84, 4, 7), (83, 1, 3), (83, 2, 4), (75, 0, 3), (75, 1, 21), (75, 2, 25)] : zW) ([(84, 2, 3), (84, 3, 4), (84, 4, 7), (83, 1, 3), (83, 2, 4), (75, 0, 3), (75, 1, 21), (75, 2, 25)] : zW) xL_1 10 (none) xE_15 (xE_15.drop 4) [.ref 84, .int a1, .int a2, .int a3, .int a4, .int a5, .int a6, .null, .null, .null, .null, .null, .null, .null, .null] [] s Q := by
    intro n
    induction n using Nat.strongRecOn with
    | ind n ih =>
      intro a1 a2 a3 a4 a5 a6 s e hI
      exact m_15_4_3 hd (fun a1' a2' a3' a4' a5' a6' s' q => ih _ (by rw [← e]; exact q.2) a1' a2' a3' a4' a5' a6' s' rfl q.1) (h1 a1 a2 a3 a4 a5 a6 s hI)
  exact key _ a1 a2 a3 a4 a5 a6 s rfl h0
set_option maxRecDepth 20000 in
theorem m_15_0_3 {d d0 : Nat} (hd : d = d0 + 8)  {a1 : Int32} {a2 : Int32} {a3 : Int32} {a4 : Int32} {s : zS} {Q : Option Value → zS → Prop}  (h : v_15_0 (fun j => Zt d (wd 3 j) j) 3  a1 a2 a3 a4 s Q) : Zn d [] [(3, 98)] ([(84, 2, 3), (84, 3, 4), (84, 4, 7), (83, 1, 3), (83, 2, 4), (75, 0, 3), (75, 1, 21), (75, 2, 25)] : zW) ([(84, 2, 3), (84, 3, 4), (84, 4, 7), (83, 1, 3), (83, 2, 4), (75, 0, 3), (75, 1, 21), (75, 2, 25)] : zW) xL_1 10 (none) xE_15 (xE_15.drop 0) [.ref 84, .int a1, .int a2, .int a3, .int a4, .null, .null, .null, .null, .null, .null, .null, .null, .null, .null] [] s Q := by
  unfold v_15_0 at h
  refine zn_ld rfl rfl rfl ?_
  refine zn_st [.ref 84, .int a1, .int a2, .int a3, .int a4, .int a3, .null, .null, .null, .null, .null, .null, .null, .null, .null] rfl rfl rfl ?_
  refine zn_c [.int 0] (xo_push (.int 0)) rfl rfl ?_
  refine zn_st [.ref 84, .int a1, .int a2, .int a3, .int a4, .int a3, .int 0, .null, .null, .null, .null, .null, .null, .null, .null] rfl rfl rfl ?_
  exact ml_15_4_3 hd  h
theorem zq_15_3 {d : Nat} {a1 : Int32} {a2 : Int32} {a3 : Int32} {a4 : Int32} {s : zS} {Q : Option Value → zS → Prop} (h : v_15_0 (fun j => Zt (d + 8) (wd 3 j) j) 3 a1 a2 a3 a4 s Q) : Zt (d + 9) ([(84, 2, 3), (84, 3, 4), (84, 4, 7), (83, 1, 3), (83, 2, 4), (75, 0, 3), (75, 1, 21), (75, 2, 25)] : zW) 15 [.ref 84, .int a1, .int a2, .int a3, .int a4] s Q := zt_of (E := xE_15) (L := xL_1) (ml := 10) (ret := none) rfl rfl rfl (m_15_0_3 rfl h)
set_option maxRecDepth 20000 in
theorem m_15_70_39 {d d0 : Nat} (hd : d = d0 + 8)  {a1 : Int32} {a2 : Int32} {a3 : Int32} {a4 : Int32} {a5 : Int32} {a6 : Int32} {s : zS} {Q : Option Value → zS → Prop}  (h : v_15_70 (fun j => Zt d (wd 39 j) j) 39  a1 a2 a3 a4 a5 a6 s Q) : Zn d [] [(39, 98)] ([(84, 2, 39), (84, 3, 40), (84, 4, 43), (83, 1, 39), (83, 2, 40), (75, 0, 39), (75, 1, 57), (75, 2, 61)] : zW) ([(84, 2, 39), (84, 3, 40), (84, 4, 43), (83, 1, 39), (83, 2, 40), (75, 0, 39), (75, 1, 57), (75, 2, 61)] : zW) xL_1 10 (none) xE_15 (xE_15.drop 70) [.ref 84, .int a1, .int a2, .int a3, .int a4, .int a5, .int a6, .null, .null, .null, .null, .null, .null, .null, .null] [] s Q := by
  unfold v_15_70 at h
  exact zn_ret0 rfl h
set_option maxRecDepth 20000 in
theorem m_15_47_39 {d d0 : Nat} (hd : d = d0 + 8) {R4 : Int32 → Int32 → Int32 → Int32 → Int32 → Int32 → zS → Prop} {a1 : Int32} {a2 : Int32} {a3 : Int32} {a4 : Int32} {a5 : Int32} {a6 : Int32} {a7 : Int32} {a8 : Int32} {t0 : Int32} {s : zS} {Q : Option Value → zS → Prop} (r4 : ∀ a1 a2 a3 a4 a5 a6 s, R4 a1 a2 a3 a4 a5 a6 s → Zn d [] [(39, 98)] ([(84, 2, 39), (84, 3, 40), (84, 4, 43), (83, 1, 39), (83, 2, 40), (75, 0, 39), (75, 1, 57), (75, 2, 61)] : zW) ([(84, 2, 39), (84, 3, 40), (84, 4, 43), (83, 1, 39), (83, 2, 40), (75, 0, 39), (75, 1, 57), (75, 2, 61)] : zW) xL_1 10 (none) xE_15 (xE_15.drop 4) [.ref 84, .int a1, .int a2, .int a3, .int a4, .int a5, .int a6, .null, .null, .null, .null, .null, .null, .null, .null] [] s Q) (h : v_15_47 (fun j => Zt d (wd 39 j) j) 39 R4 a1 a2 a3 a4 a5 a6 a7 a8 t0 s Q) : Zn d [] [(39, 98)] ([(84, 2, 39), (84, 3, 40), (84, 4, 43), (83, 1, 39), (83, 2, 40), (75, 0, 39), (75, 1, 57), (75, 2, 61)] : zW) ([(84, 2, 39), (84, 3, 40), (84, 4, 43), (83, 1, 39), (83, 2, 40), (75, 0, 39), (75, 1, 57), (75, 2, 61)] : zW) xL_1 10 (none) xE_15 (xE_15.drop 47) [.ref 84, .int a1, .int a2, .int a3, .int a4, .int a5, .int a6, .int a7, .int a8, .null, .null, .null, .null, .null, .null] [.int t0] s Q := by
  unfold v_15_47 at h
  refine zn_st [.ref 84, .int a1, .int a2, .int a3, .int a4, .int a5, .int a6, .int a7, .int a8, .int t0, .null, .null, .null, .null, .null] rfl rfl rfl ?_
  refine zn_ld rfl rfl rfl ?_
  refine zn_get (v := .ref 39) rfl (zv_C (a := 84) (n := 0) rfl rfl rfl) ?_
  refine zn_ld rfl rfl rfl ?_
  refine zn_ld rfl rfl rfl ?_
  refine zn_get (v := .ref 39) rfl (zv_C (a := 84) (n := 0) rfl rfl rfl) ?_
  refine zn_get (v := .ref 59) rfl (zv_R (a := 39) rfl rfl) ?_
  refine zn_ld rfl rfl rfl ?_
  refine zn_c [.int 18738, .int a5, .ref 59, .int t0, .ref 39] (xo_push (.int 18738)) rfl rfl ?_
  replace h := h _ (i_sub (x := a5) (y := 18738) rfl (show (18738 : Int32).toInt = 18738 by decide))
  refine zn_c [.int (a5 - 18738), .ref 59, .int t0, .ref 39] xo_isub rfl rfl ?_
  refine zn_row (a5 - 18738) [.int t0, .ref 39] (a := 59) hd rfl rfl rfl rfl ?_
  change Zn _ _ _ _ _ _ _ _ _ _ _ [.int (zg s 59 (a5 - 18738)), .int t0, .ref 39] _ _
  refine zn_zt [.ref 39, .int t0, .int (zg s 59 (a5 - 18738))] [] rfl rfl rfl rfl rfl (Zt.imp h (fun v2 s3 h => ?_))
  obtain ⟨rfl, h⟩ := h
  change Zn _ _ _ _ _ _ _ _ _ _ _ [] _ _
  refine zn_ld rfl rfl rfl ?_
  refine zn_get (v := .ref 75) rfl (zv_R (a := 84) rfl rfl) ?_
  refine zn_ld rfl rfl rfl ?_
  refine zn_putI (a := 75) rfl rfl rfl rfl ⟨Int32.le_toInt _, Int.le_of_lt_add_one (Int32.toInt_lt _)⟩ rfl rfl rfl ?_
  replace h := h _ rfl
  refine zn_ld rfl rfl rfl ?_
  refine zn_get (v := .ref 75) rfl (zv_R (a := 84) rfl rfl) ?_
  refine zn_ld rfl rfl rfl ?_
  refine zn_zt [.ref 75, .int a5] [] rfl rfl rfl rfl rfl (Zt.imp h (fun v5 s6 h => ?_))
  obtain ⟨x7, rfl, h⟩ := h
  change Zn _ _ _ _ _ _ _ _ _ _ _ [.int x7] _ _
  refine zn_st [.ref 84, .int a1, .int a2, .int a3, .int a4, .int x7, .int a6, .int a7, .int a8, .int t0, .null, .null, .null, .null, .null] rfl rfl rfl ?_
  replace h := h _ (i_add (x := a6) (y := 1) rfl (show (1 : Int32).toInt = 1 by decide))
  refine zn_inc [.ref 84, .int a1, .int a2, .int a3, .int a4, .int x7, .int (a6 + 1), .int a7, .int a8, .int t0, .null, .null, .null, .null, .null] rfl rfl rfl rfl ?_
  refine zn_go rfl ?_
  refine zn_fg 7 ?_
  refine zn_fg 8 ?_
  refine zn_fg 9 ?_
  exact r4 a1 a2 a3 a4 x7 (a6 + 1) s6 h
set_option maxRecDepth 20000 in
theorem m_15_4_39 {d d0 : Nat} (hd : d = d0 + 8) {R4 : Int32 → Int32 → Int32 → Int32 → Int32 → Int32 → zS → Prop} {a1 : Int32} {a2 : Int32} {a3 : Int32} {a4 : Int32} {a5 : Int32} {a6 : Int32} {s : zS} {Q : Option Value → zS → Prop} (r4 : ∀ a1 a2 a3 a4 a5 a6 s, R4 a1 a2 a3 a4 a5 a6 s → Zn d [] [(39, 98)] ([(84, 2, 39), (84, 3, 40), (84, 4, 43), (83, 1, 39), (83, 2, 40), (75, 0, 39), (75, 1, 57), (75, 2, 61)] : zW) ([(84, 2, 39), (84, 3, 40), (84, 4, 43), (83, 1, 39), (83, 2, 40), (75, 0, 39), (75, 1, 57), (75, 2, 61)] : zW) xL_1 10 (none) xE_15 (xE_15.drop 4) [.ref 84, .int a1, .int a2, .int a3, .int a4, .int a5, .int a6, .null, .null, .null, .null, .null, .null, .null, .null] [] s Q) (h : v_15_4 (fun j => Zt d (wd 39 j) j) 39 R4 a1 a2 a3 a4 a5 a6 s Q) : Zn d [] [(39, 98)] ([(84, 2, 39), (84, 3, 40), (84, 4, 43), (83, 1, 39), (83, 2, 40), (75, 0, 39), (75, 1, 57), (75, 2, 61)] : zW) ([(84, 2, 39), (84, 3, 40), (84, 4, 43), (83, 1, 39), (83, 2, 40), (75, 0, 39), (75, 1, 57), (75, 2, 61)] : zW) xL_1 10 (none) xE_15 (xE_15.drop 4) [.ref 84, .int a1, .int a2, .int a3, .int a4, .int a5, .int a6, .null, .null, .null, .null, .null, .null, .null, .null] [] s Q := by
  unfold v_15_4 at h
  refine zn_ld rfl rfl rfl ?_
  refine zn_ld rfl rfl rfl ?_
  refine zn_brP rfl rfl ⟨fun hcn => ?_, fun hcn => ?_⟩
  · replace h := h.1 ((i_le (x := a4) (y := a6) rfl rfl).mp hcn)
    exact m_15_70_39 hd  h
  · replace h := h.2 (fun q => hcn ((i_le (x := a4) (y := a6) rfl rfl).mpr q))
    refine zn_ld rfl rfl rfl ?_
    refine zn_get (v := .ref 39) rfl (zv_C (a := 84) (n := 0) rfl rfl rfl) ?_
    refine zn_get (v := .int (s.1 39 14)) rfl (zv_I (a := 39) rfl rfl) ?_
    refine zn_brN rfl rfl ⟨fun hcn => ?_, fun hcn => ?_⟩
    · replace h := h.1 (fun q => hcn ((i_eq (x := s.1 39 14) (y := 0) rfl (show (0 : Int32).toInt = 0 by decide)).mpr q))
      exact m_15_70_39 hd  h
    · replace h := h.2 ((i_eq (x := s.1 39 14) (y := 0) rfl (show (0 : Int32).toInt = 0 by decide)).mp hcn)
      refine zn_ld rfl rfl rfl ?_
      refine zn_get (v := .ref 75) rfl (zv_R (a := 84) rfl rfl) ?_
      refine zn_get (v := .int (s.1 75 3)) rfl (zv_I (a := 75) rfl rfl) ?_
      refine zn_st [.ref 84, .int a1, .int a2, .int a3, .int a4, .int a5, .int a6, .int (s.1 75 3), .null, .null, .null, .null, .null, .null, .null] rfl rfl rfl ?_
      refine zn_ld rfl rfl rfl ?_
      refine zn_get (v := .ref 75) rfl (zv_R (a := 84) rfl rfl) ?_
      refine zn_ld rfl rfl rfl ?_
      refine zn_get (v := .ref 75) rfl (zv_R (a := 84) rfl rfl) ?_
      refine zn_get (v := .ref 76) rfl (zv_R (a := 75) rfl rfl) ?_
      refine zn_ld rfl rfl rfl ?_
      refine zn_ld rfl rfl rfl ?_
      refine zn_ld rfl rfl rfl ?_
      refine zn_zt [.ref 75, .ref 76, .int a2, .int a3, .int a4] [] rfl rfl rfl rfl rfl (Zt.imp h (fun v1 s2 h => ?_))
      obtain ⟨rfl, h⟩ := h
      change Zn _ _ _ _ _ _ _ _ _ _ _ [] _ _
      refine zn_ld rfl rfl rfl ?_
      refine zn_get (v := .ref 75) rfl (zv_R (a := 84) rfl rfl) ?_
      refine zn_ld rfl rfl rfl ?_
      refine zn_get (v := .ref 39) rfl (zv_C (a := 84) (n := 0) rfl rfl rfl) ?_
      refine zn_ld rfl rfl rfl ?_
      refine zn_ld rfl rfl rfl ?_
      replace h := h _ (i_add (x := a1) (y := a6) rfl rfl)
      refine zn_c [.int (a1 + a6), .ref 39, .ref 75] xo_iadd rfl rfl ?_
      refine zn_c [.int 3, .int (a1 + a6), .ref 39, .ref 75] (xo_push (.int 3)) rfl rfl ?_
      refine zn_zt [.ref 39, .int (a1 + a6), .int 3] [.ref 75] (c := []) rfl rfl rfl rfl rfl (Zt.imp (zp_42 hd (Or.inr rfl)) (fun vq sq hq => ?_))
      obtain ⟨rfl, hq⟩ := hq
      rw [hq]
      change Zn _ _ _ _ _ _ _ _ _ _ _ [.int (zg s2 69 ((a1 + a6) * 5 + 3)), .ref 75] _ _
      refine zn_ld rfl rfl rfl ?_
      refine zn_get (v := .ref 75) rfl (zv_R (a := 84) rfl rfl) ?_
      refine zn_get (v := .ref 76) rfl (zv_R (a := 75) rfl rfl) ?_
      refine zn_zt [.ref 75, .int (zg s2 69 ((a1 + a6) * 5 + 3)), .ref 76] [] rfl rfl rfl rfl rfl (Zt.imp h (fun v5 s6 h => ?_))
      obtain ⟨x7, rfl, h⟩ := h
      change Zn _ _ _ _ _ _ _ _ _ _ _ [.int x7] _ _
      refine zn_st [.ref 84, .int a1, .int a2, .int a3, .int a4, .int a5, .int a6, .int (s.1 75 3), .int x7, .null, .null, .null, .null, .null, .null] rfl rfl rfl ?_
      refine zn_ld rfl rfl rfl ?_
      refine zn_brP rfl rfl ⟨fun hcn => ?_, fun hcn => ?_⟩
      · replace h := h.1 ((i_le (x := 0) (y := x7) (show (0 : Int32).toInt = 0 by decide) rfl).mp hcn)
        refine zn_ld rfl rfl rfl ?_
        refine zn_get (v := .ref 75) rfl (zv_R (a := 84) rfl rfl) ?_
        refine zn_ld rfl rfl rfl ?_
        refine zn_ld rfl rfl rfl ?_
        refine zn_zt [.ref 75, .int a5, .int x7] [] rfl rfl rfl rfl rfl (Zt.imp h (fun v8 s9 h => ?_))
        obtain ⟨x10, rfl, h⟩ := h
        change Zn _ _ _ _ _ _ _ _ _ _ _ [.int x10] _ _
        exact m_15_47_39 hd r4 h
      · replace h := h.2 (fun q => hcn ((i_le (x := 0) (y := x7) (show (0 : Int32).toInt = 0 by decide) rfl).mpr q))
        refine zn_c [.int 9] (xo_push (.int 9)) rfl rfl ?_
        refine zn_go rfl ?_
        exact m_15_47_39 hd r4 h
theorem ml_15_4_39 {d d0 : Nat} (hd : d = d0 + 8)  {a1 : Int32} {a2 : Int32} {a3 : Int32} {a4 : Int32} {a5 : Int32} {a6 : Int32} {s : zS} {Q : Option Value → zS → Prop}  (h : vl_15_4 (fun j => Zt d (wd 39 j) j) 39  a1 a2 a3 a4 a5 a6 s Q) : Zn d [] [(39, 98)] ([(84, 2, 39), (84, 3, 40), (84, 4, 43), (83, 1, 39), (83, 2, 40), (75, 0, 39), (75, 1, 57), (75, 2, 61)] : zW) ([(84, 2, 39), (84, 3, 40), (84, 4, 43), (83, 1, 39), (83, 2, 40), (75, 0, 39), (75, 1, 57), (75, 2, 61)] : zW) xL_1 10 (none) xE_15 (xE_15.drop 4) [.ref 84, .int a1, .int a2, .int a3, .int a4, .int a5, .int a6, .null, .null, .null, .null, .null, .null, .null, .null] [] s Q := by
  obtain ⟨I, μ, h0, h1⟩ := h
  have key : ∀ (n : Nat) (a1 : Int32) (a2 : Int32) (a3 : Int32) (a4 : Int32) (a5 : Int32) (a6 : Int32) (s : zS), μ a1 a2 a3 a4 a5 a6 s = n → I a1 a2 a3 a4 a5 a6 s → Zn d [] [(39, 98)] ([(84, 2, 39), (84, 3, 40), (84, 4, 43), (83, 1, 39), (83, 2, 40), (75, 0, 39), (75, 1, 57), (75, 2, 61)] : zW) ([(84, 2, 39), (84, 3, 40), (84, 4, 43), (83, 1, 39), (83, 2, 40), (75, 0, 39), (75, 1, 57), (75, 2, 61)] : zW) xL_1 10 (none) xE_15 (xE_15.drop 4) [.ref 84, .int a1, .int a2, .int a3, .int a4, .int a5, .int a6, .null, .null, .null, .null, .null, .null, .null, .null] [] s Q := by
    intro n
    induction n using Nat.strongRecOn with
    | ind n ih =>
      intro a1 a2 a3 a4 a5 a6 s e hI
      exact m_15_4_39 hd (fun a1' a2' a3' a4' a5' a6' s' q => ih _ (by rw [← e]; exact q.2) a1' a2' a3' a4' a5' a6' s' rfl q.1) (h1 a1 a2 a3 a4 a5 a6 s hI)
  exact key _ a1 a2 a3 a4 a5 a6 s rfl h0
set_option maxRecDepth 20000 in
theorem m_15_0_39 {d d0 : Nat} (hd : d = d0 + 8)  {a1 : Int32} {a2 : Int32} {a3 : Int32} {a4 : Int32} {s : zS} {Q : Option Value → zS → Prop}  (h : v_15_0 (fun j => Zt d (wd 39 j) j) 39  a1 a2 a3 a4 s Q) : Zn d [] [(39, 98)] ([(84, 2, 39), (84, 3, 40), (84, 4, 43), (83, 1, 39), (83, 2, 40), (75, 0, 39), (75, 1, 57), (75, 2, 61)] : zW) ([(84, 2, 39), (84, 3, 40), (84, 4, 43), (83, 1, 39), (83, 2, 40), (75, 0, 39), (75, 1, 57), (75, 2, 61)] : zW) xL_1 10 (none) xE_15 (xE_15.drop 0) [.ref 84, .int a1, .int a2, .int a3, .int a4, .null, .null, .null, .null, .null, .null, .null, .null, .null, .null] [] s Q := by
  unfold v_15_0 at h
  refine zn_ld rfl rfl rfl ?_
  refine zn_st [.ref 84, .int a1, .int a2, .int a3, .int a4, .int a3, .null, .null, .null, .null, .null, .null, .null, .null, .null] rfl rfl rfl ?_
  refine zn_c [.int 0] (xo_push (.int 0)) rfl rfl ?_
  refine zn_st [.ref 84, .int a1, .int a2, .int a3, .int a4, .int a3, .int 0, .null, .null, .null, .null, .null, .null, .null, .null] rfl rfl rfl ?_
  exact ml_15_4_39 hd  h
theorem zq_15_39 {d : Nat} {a1 : Int32} {a2 : Int32} {a3 : Int32} {a4 : Int32} {s : zS} {Q : Option Value → zS → Prop} (h : v_15_0 (fun j => Zt (d + 8) (wd 39 j) j) 39 a1 a2 a3 a4 s Q) : Zt (d + 9) ([(84, 2, 39), (84, 3, 40), (84, 4, 43), (83, 1, 39), (83, 2, 40), (75, 0, 39), (75, 1, 57), (75, 2, 61)] : zW) 15 [.ref 84, .int a1, .int a2, .int a3, .int a4] s Q := zt_of (E := xE_15) (L := xL_1) (ml := 10) (ret := none) rfl rfl rfl (m_15_0_39 rfl h)
theorem zc_15 {d P : Nat} (hP : P = 3 ∨ P = 39) {a1 : Int32} {a2 : Int32} {a3 : Int32} {a4 : Int32} {s : zS} {Q : Option Value → zS → Prop} (h : v_15_0 (fun j => Zt (d + 8) (wd P j) j) P a1 a2 a3 a4 s Q) : Zt (d + 9) (wd P 15) 15 [.ref 84, .int a1, .int a2, .int a3, .int a4] s Q := by
  rcases hP with rfl | rfl
  · exact zq_15_3 h
  · exact zq_15_39 h
