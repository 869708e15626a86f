/-! ===== the class: program, with what it leaves (wip/p5/mk140.py) ===== -/
/-- a call whose end may tell of references -/
def Zh (d : Nat) (U : List (Nat × Nat)) (c : zW) (j : Nat) (vs : List Value) (s : zS) (P : Option Value → xH → zS → Prop) : Prop :=
  ∀ hh, INV hh → zQ c hh s → ∃ (v : Option Value) (h' : xH) (cs sl : Nat) (s' : zS), P v h' s' ∧ zI h' s' ∧ CSY U (wrt c j vs) s s' hh h' cs sl ∧ yex d j vs hh = some (v, h', cs, sl)
theorem zh_of {d i ml : Nat} {W V : List (Nat × Nat)} {w : zW} {L : xLD} {vs : List Value} {s : zS} {Q : Option Value → xH → zS → Prop} {M : xM} {E : xCd} {ret : Option FieldType} (hM : xsg i = some M) (hF : xpr i = some (xmk L ml ret false E E)) (hl : Nat.ble (lg_sl vs).length M.2.2.1 = true) (g : Zm d W V w L ml ret E E (yin ml vs) [] s Q) (hV : V = wrt w i vs := by rfl) : Zh (d + 1) W w i vs s Q := by
  subst hV
  intro hh hI hw
  obtain ⟨n, v, h', cs, sl, s', h1, h2, h3, h4⟩ := g hh hI hw
  refine ⟨v, h', cs, sl, s', h1, h2, h3, yex_of (k := n) hM hF hl ?_⟩
  have := h4 (lv_args 0 vs) 0 0 yL_entry
  rw [Nat.zero_add, Nat.zero_add] at this
  exact this
/-- behind a good program: it is loaded, nothing was run, nothing made -/
def ldS (s : zS) : zS := zf (zf (zf (zf (zf (zf s 0 11 1) 105 10 0) 105 11 0) 105 13 5) 197 8 0) 197 9 0
/-- what program leaves: P the spare program, C the current one; s8: behind the check -/
def PRx (P C : Nat) (Q : zS → Prop) (v : Option Value) (h' : xH) (s' : zS) : Prop := ∃ s8 : zS, Q s8 ∧ v = some (.int (s8.1 P 14)) ∧ ((¬ s8.1 P 14 = 0 ∧ s' = s8 ∧ fld h' 0 9 = some (.ref C) ∧ fld h' 0 10 = some (.ref P)) ∨ (s8.1 P 14 = 0 ∧ s' = ldS s8 ∧ fld h' 0 9 = some (.ref P) ∧ fld h' 0 10 = some (.ref C)))
set_option maxRecDepth 20000 in
theorem zx_140_3_39 {d : Nat} {s : zS} {Q : zS → Prop} (h : v_140x d 3 s Q) : Zh (d + 74) [(84, 2), (84, 3), (84, 4), (83, 1), (83, 2), (82, 0), (82, 1), (82, 2), (75, 0), (75, 1), (75, 2), (0, 9), (0, 10)] ([(0, 10, 3), (0, 9, 39)] : zW) 140 [.ref 0] s (PRx 3 39 Q) := by
  unfold v_140x at h
  refine zh_of (E := xE_140) (L := xL_11) (ml := 2) (ret := some .int) rfl rfl rfl ?_
  refine zm_ld rfl rfl rfl ?_
  refine zm_get (v := .ref 3) rfl (zv_C (a := 0) (n := 0) rfl rfl rfl) ?_
  refine zm_st [.ref 0, .ref 3, .null] rfl rfl rfl ?_
  refine zm_ld rfl rfl rfl ?_
  refine zm_ld rfl rfl rfl ?_
  refine zm_get (v := .ref 1) rfl (zv_R (a := 0) rfl rfl) ?_
  refine zm_zt [.ref 3, .ref 1] [] (c := []) rfl rfl rfl rfl rfl (Zt.imp h (fun v1 s1 h => ?_))
  obtain ⟨rfl, hk, h⟩ := h
  change Zm _ _ _ _ _ _ _ _ _ _ [] _ _
  refine zm_ld rfl rfl rfl ?_
  refine zm_get (v := .ref 1) rfl (zv_R (a := 0) rfl rfl) ?_
  refine zm_clr [] (a := 1) (d' := d + 72) rfl rfl rfl rfl rfl rfl ?_
  replace hk : 18 ≤ ((zf s1 1 2 0).1 3 10).toInt := by rw [zf_1, if_neg (by decide)]; exact hk
  refine zm_ld rfl rfl rfl ?_
  refine zm_get (v := .ref 75) rfl (zv_R (a := 0) rfl rfl) ?_
  refine zm_ld rfl rfl rfl ?_
  refine zm_c [.int 18, .ref 3, .ref 75] (xo_push (.int 18)) rfl rfl ?_
  refine zm_zu [.ref 75, .ref 3, .int 18] [] (c := ([] : zW)) (c' := ([(75, 2, 25), (75, 1, 21), (75, 0, 3)] : zW)) (w1 := ([(0, 10, 3), (0, 9, 39)] : zW)) rfl rfl rfl rfl rfl rfl rfl (Zu.imp (Zu.kp (P := 3) h (by decide) hk) (fun v2 s2 h => ?_))
  obtain ⟨⟨rfl, h⟩, hk⟩ := h
  change Zm _ _ _ _ _ _ _ _ _ _ [] _ _
  refine zm_ld rfl rfl rfl ?_
  refine zm_get (v := .ref 82) rfl (zv_R (a := 0) rfl rfl) ?_
  refine zm_ld rfl rfl rfl ?_
  refine zm_zu [.ref 82, .ref 3] [] (c := ([] : zW)) (c' := ([(82, 2, 7), (82, 1, 4), (82, 0, 3)] : zW)) (w1 := ([(75, 2, 25), (75, 1, 21), (75, 0, 3), (0, 10, 3), (0, 9, 39)] : zW)) rfl rfl rfl rfl rfl rfl rfl (Zu.imp (Zu.kp (P := 3) h (by decide) hk) (fun v3 s3 h => ?_))
  obtain ⟨⟨rfl, h⟩, hk⟩ := h
  change Zm _ _ _ _ _ _ _ _ _ _ [] _ _
  refine zm_ld rfl rfl rfl ?_
  refine zm_get (v := .ref 83) rfl (zv_R (a := 0) rfl rfl) ?_
  refine zm_ld rfl rfl rfl ?_
  refine zm_zu [.ref 83, .ref 3] [] (c := ([(75, 0, 3), (75, 1, 21), (75, 2, 25)] : zW)) (c' := ([(83, 2, 4), (83, 1, 3), (75, 0, 3), (75, 1, 21), (75, 2, 25)] : zW)) (w1 := ([(0, 10, 3), (0, 9, 39)] : zW)) rfl rfl rfl rfl rfl rfl rfl (Zu.imp (Zu.kp (P := 3) h (by decide) hk) (fun v4 s4 h => ?_))
  obtain ⟨⟨rfl, h⟩, hk⟩ := h
  change Zm _ _ _ _ _ _ _ _ _ _ [] _ _
  refine zm_ld rfl rfl rfl ?_
  refine zm_get (v := .ref 83) rfl (zv_R (a := 0) rfl rfl) ?_
  refine zm_ld rfl rfl rfl ?_
  refine zm_zu [.ref 83, .ref 3] [] (c := ([(75, 0, 3), (75, 1, 21), (75, 2, 25)] : zW)) (c' := ([(83, 2, 4), (83, 1, 3), (75, 0, 3), (75, 1, 21), (75, 2, 25)] : zW)) (w1 := ([(0, 10, 3), (0, 9, 39)] : zW)) rfl rfl rfl rfl rfl rfl rfl (Zu.imp (Zu.kp (P := 3) h (by decide) hk) (fun v5 s5 h => ?_))
  obtain ⟨⟨rfl, h⟩, hk⟩ := h
  change Zm _ _ _ _ _ _ _ _ _ _ [] _ _
  refine zm_ld rfl rfl rfl ?_
  refine zm_get (v := .ref 83) rfl (zv_R (a := 0) rfl rfl) ?_
  refine zm_ld rfl rfl rfl ?_
  refine zm_zu [.ref 83, .ref 3] [] (c := ([(75, 0, 3), (75, 1, 21), (75, 2, 25)] : zW)) (c' := ([(83, 2, 4), (83, 1, 3), (75, 0, 3), (75, 1, 21), (75, 2, 25)] : zW)) (w1 := ([(0, 10, 3), (0, 9, 39)] : zW)) rfl rfl rfl rfl rfl rfl rfl (Zu.imp (Zu.kp (P := 3) h (by decide) hk) (fun v6 s6 h => ?_))
  obtain ⟨⟨rfl, h⟩, hk⟩ := h
  change Zm _ _ _ _ _ _ _ _ _ _ [] _ _
  refine zm_ld rfl rfl rfl ?_
  refine zm_get (v := .ref 83) rfl (zv_R (a := 0) rfl rfl) ?_
  refine zm_ld rfl rfl rfl ?_
  refine zm_zu [.ref 83, .ref 3] [] (c := ([(75, 0, 3), (75, 1, 21), (75, 2, 25)] : zW)) (c' := ([(83, 2, 4), (83, 1, 3), (75, 0, 3), (75, 1, 21), (75, 2, 25)] : zW)) (w1 := ([(0, 10, 3), (0, 9, 39)] : zW)) rfl rfl rfl rfl rfl rfl rfl (Zu.imp (Zu.kp (P := 3) h (by decide) hk) (fun v7 s7 h => ?_))
  obtain ⟨⟨rfl, h⟩, hk⟩ := h
  change Zm _ _ _ _ _ _ _ _ _ _ [] _ _
  refine zm_ld rfl rfl rfl ?_
  refine zm_get (v := .ref 84) rfl (zv_R (a := 0) rfl rfl) ?_
  refine zm_ld rfl rfl rfl ?_
  refine zm_zu [.ref 84, .ref 3] [] (c := ([(75, 0, 3), (75, 1, 21), (75, 2, 25)] : zW)) (c' := ([(83, 2, 4), (83, 1, 3), (84, 4, 7), (84, 3, 4), (84, 2, 3), (75, 0, 3), (75, 1, 21), (75, 2, 25)] : zW)) (w1 := ([(0, 10, 3), (0, 9, 39)] : zW)) rfl rfl rfl rfl rfl rfl rfl (Zu.imp (Zu.kp (P := 3) h (by decide) hk) (fun v8 s8 h => ?_))
  obtain ⟨⟨rfl, h⟩, hk⟩ := h
  change Zm _ _ _ _ _ _ _ _ _ _ [] _ _
  refine zm_ld rfl rfl rfl ?_
  refine zm_get (v := .int (s8.1 3 14)) rfl (zv_I (a := 3) rfl rfl) ?_
  refine zm_brP rfl rfl ⟨fun hcn => ?_, fun hcn => ?_⟩
  · refine zm_ld rfl rfl rfl ?_
    refine zm_ld rfl rfl rfl ?_
    refine zm_get (v := .ref 39) rfl (zv_C (a := 0) (n := 9) rfl rfl rfl) ?_
    refine zm_wk (c := []) rfl ?_
    refine zm_putR (a := 0) (b := 39) rfl rfl rfl rfl rfl rfl rfl rfl rfl ?_
    refine zm_ld rfl rfl rfl ?_
    refine zm_ld rfl rfl rfl ?_
    refine zm_putR (a := 0) (b := 3) rfl rfl rfl rfl rfl rfl rfl rfl rfl ?_ (hkr := Or.inr ⟨by decide, hk⟩)
    refine zm_ld rfl rfl rfl ?_
    refine zm_c [.int 1, .ref 0] (xo_push (.int 1)) rfl rfl ?_
    refine zm_putI (a := 0) rfl rfl rfl rfl (by decide) rfl rfl rfl ?_ (hkl := Or.inr (Or.inr ⟨⟨rfl, rfl⟩, 3, by decide, List.mem_cons_self, hk⟩))
    refine zm_ld rfl rfl rfl ?_
    refine zm_get (v := .ref 105) rfl (zv_R (a := 0) rfl rfl) ?_
    refine zm_zt [.ref 105] [] (c := []) rfl rfl rfl rfl rfl (Zt.imp (zq_17_3 (d := d + 64) (s := zf s8 0 11 1) (Q := fun v s' => v = none ∧ s' = zf (zf (zf (zf s8 0 11 1) 105 10 0) 105 11 0) 105 13 5) (fun s1 h1 s2 h2 s3 h3 => ⟨rfl, by rw [h3, h2, h1]⟩)) (fun v9 s9 h9 => ?_))
    obtain ⟨rfl, h9⟩ := h9
    change Zm _ _ _ _ _ _ _ _ _ _ [] _ _
    refine zm_ld rfl rfl rfl ?_
    refine zm_get (v := .ref 197) rfl (zv_R (a := 0) rfl rfl) ?_
    refine zm_zt [.ref 197] [] (c := []) rfl rfl rfl rfl rfl (Zt.imp (zq_94_3 (d := d + 64) (s := s9) (Q := fun v s' => v = none ∧ s' = zf (zf s9 197 8 0) 197 9 0) (fun s1 h1 s2 h2 => ⟨rfl, by rw [h2, h1]⟩)) (fun v10 s10 h10 => ?_))
    obtain ⟨rfl, h10⟩ := h10
    change Zm _ _ _ _ _ _ _ _ _ _ [] _ _
    refine zm_c [.int 0] (xo_push (.int 0)) rfl rfl ?_
    refine zm_retI rfl (fun hh _ hw => ⟨s8, h, by rw [hcn], Or.inr ⟨hcn, by rw [h10, h9]; rfl, hw.2 _ List.mem_cons_self, hw.2 _ (List.mem_cons_of_mem _ List.mem_cons_self)⟩⟩)
  · refine zm_ld rfl rfl rfl ?_
    refine zm_get (v := .int (s8.1 3 14)) rfl (zv_I (a := 3) rfl rfl) ?_
    refine zm_wk (c := [(0, 9, 39), (0, 10, 3)]) rfl ?_
    exact zm_retI rfl (fun hh _ hw => ⟨s8, h, rfl, Or.inl ⟨hcn, rfl, hw.2 _ List.mem_cons_self, hw.2 _ (List.mem_cons_of_mem _ List.mem_cons_self)⟩⟩)
set_option maxRecDepth 20000 in
theorem zx_140_39_3 {d : Nat} {s : zS} {Q : zS → Prop} (h : v_140x d 39 s Q) : Zh (d + 74) [(84, 2), (84, 3), (84, 4), (83, 1), (83, 2), (82, 0), (82, 1), (82, 2), (75, 0), (75, 1), (75, 2), (0, 9), (0, 10)] ([(0, 10, 39), (0, 9, 3)] : zW) 140 [.ref 0] s (PRx 39 3 Q) := by
  unfold v_140x at h
  refine zh_of (E := xE_140) (L := xL_11) (ml := 2) (ret := some .int) rfl rfl rfl ?_
  refine zm_ld rfl rfl rfl ?_
  refine zm_get (v := .ref 39) rfl (zv_C (a := 0) (n := 0) rfl rfl rfl) ?_
  refine zm_st [.ref 0, .ref 39, .null] rfl rfl rfl ?_
  refine zm_ld rfl rfl rfl ?_
  refine zm_ld rfl rfl rfl ?_
  refine zm_get (v := .ref 1) rfl (zv_R (a := 0) rfl rfl) ?_
  refine zm_zt [.ref 39, .ref 1] [] (c := []) rfl rfl rfl rfl rfl (Zt.imp h (fun v1 s1 h => ?_))
  obtain ⟨rfl, hk, h⟩ := h
  change Zm _ _ _ _ _ _ _ _ _ _ [] _ _
  refine zm_ld rfl rfl rfl ?_
  refine zm_get (v := .ref 1) rfl (zv_R (a := 0) rfl rfl) ?_
  refine zm_clr [] (a := 1) (d' := d + 72) rfl rfl rfl rfl rfl rfl ?_
  replace hk : 18 ≤ ((zf s1 1 2 0).1 39 10).toInt := by rw [zf_1, if_neg (by decide)]; exact hk
  refine zm_ld rfl rfl rfl ?_
  refine zm_get (v := .ref 75) rfl (zv_R (a := 0) rfl rfl) ?_
  refine zm_ld rfl rfl rfl ?_
  refine zm_c [.int 18, .ref 39, .ref 75] (xo_push (.int 18)) rfl rfl ?_
  refine zm_zu [.ref 75, .ref 39, .int 18] [] (c := ([] : zW)) (c' := ([(75, 2, 61), (75, 1, 57), (75, 0, 39)] : zW)) (w1 := ([(0, 10, 39), (0, 9, 3)] : zW)) rfl rfl rfl rfl rfl rfl rfl (Zu.imp (Zu.kp (P := 39) h (by decide) hk) (fun v2 s2 h => ?_))
  obtain ⟨⟨rfl, h⟩, hk⟩ := h
  change Zm _ _ _ _ _ _ _ _ _ _ [] _ _
  refine zm_ld rfl rfl rfl ?_
  refine zm_get (v := .ref 82) rfl (zv_R (a := 0) rfl rfl) ?_
  refine zm_ld rfl rfl rfl ?_
  refine zm_zu [.ref 82, .ref 39] [] (c := ([] : zW)) (c' := ([(82, 2, 43), (82, 1, 40), (82, 0, 39)] : zW)) (w1 := ([(75, 2, 61), (75, 1, 57), (75, 0, 39), (0, 10, 39), (0, 9, 3)] : zW)) rfl rfl rfl rfl rfl rfl rfl (Zu.imp (Zu.kp (P := 39) h (by decide) hk) (fun v3 s3 h => ?_))
  obtain ⟨⟨rfl, h⟩, hk⟩ := h
  change Zm _ _ _ _ _ _ _ _ _ _ [] _ _
  refine zm_ld rfl rfl rfl ?_
  refine zm_get (v := .ref 83) rfl (zv_R (a := 0) rfl rfl) ?_
  refine zm_ld rfl rfl rfl ?_
  refine zm_zu [.ref 83, .ref 39] [] (c := ([(75, 0, 39), (75, 1, 57), (75, 2, 61)] : zW)) (c' := ([(83, 2, 40), (83, 1, 39), (75, 0, 39), (75, 1, 57), (75, 2, 61)] : zW)) (w1 := ([(0, 10, 39), (0, 9, 3)] : zW)) rfl rfl rfl rfl rfl rfl rfl (Zu.imp (Zu.kp (P := 39) h (by decide) hk) (fun v4 s4 h => ?_))
  obtain ⟨⟨rfl, h⟩, hk⟩ := h
  change Zm _ _ _ _ _ _ _ _ _ _ [] _ _
  refine zm_ld rfl rfl rfl ?_
  refine zm_get (v := .ref 83) rfl (zv_R (a := 0) rfl rfl) ?_
  refine zm_ld rfl rfl rfl ?_
  refine zm_zu [.ref 83, .ref 39] [] (c := ([(75, 0, 39), (75, 1, 57), (75, 2, 61)] : zW)) (c' := ([(83, 2, 40), (83, 1, 39), (75, 0, 39), (75, 1, 57), (75, 2, 61)] : zW)) (w1 := ([(0, 10, 39), (0, 9, 3)] : zW)) rfl rfl rfl rfl rfl rfl rfl (Zu.imp (Zu.kp (P := 39) h (by decide) hk) (fun v5 s5 h => ?_))
  obtain ⟨⟨rfl, h⟩, hk⟩ := h
  change Zm _ _ _ _ _ _ _ _ _ _ [] _ _
  refine zm_ld rfl rfl rfl ?_
  refine zm_get (v := .ref 83) rfl (zv_R (a := 0) rfl rfl) ?_
  refine zm_ld rfl rfl rfl ?_
  refine zm_zu [.ref 83, .ref 39] [] (c := ([(75, 0, 39), (75, 1, 57), (75, 2, 61)] : zW)) (c' := ([(83, 2, 40), (83, 1, 39), (75, 0, 39), (75, 1, 57), (75, 2, 61)] : zW)) (w1 := ([(0, 10, 39), (0, 9, 3)] : zW)) rfl rfl rfl rfl rfl rfl rfl (Zu.imp (Zu.kp (P := 39) h (by decide) hk) (fun v6 s6 h => ?_))
  obtain ⟨⟨rfl, h⟩, hk⟩ := h
  change Zm _ _ _ _ _ _ _ _ _ _ [] _ _
  refine zm_ld rfl rfl rfl ?_
  refine zm_get (v := .ref 83) rfl (zv_R (a := 0) rfl rfl) ?_
  refine zm_ld rfl rfl rfl ?_
  refine zm_zu [.ref 83, .ref 39] [] (c := ([(75, 0, 39), (75, 1, 57), (75, 2, 61)] : zW)) (c' := ([(83, 2, 40), (83, 1, 39), (75, 0, 39), (75, 1, 57), (75, 2, 61)] : zW)) (w1 := ([(0, 10, 39), (0, 9, 3)] : zW)) rfl rfl rfl rfl rfl rfl rfl (Zu.imp (Zu.kp (P := 39) h (by decide) hk) (fun v7 s7 h => ?_))
  obtain ⟨⟨rfl, h⟩, hk⟩ := h
  change Zm _ _ _ _ _ _ _ _ _ _ [] _ _
  refine zm_ld rfl rfl rfl ?_
  refine zm_get (v := .ref 84) rfl (zv_R (a := 0) rfl rfl) ?_
  refine zm_ld rfl rfl rfl ?_
  refine zm_zu [.ref 84, .ref 39] [] (c := ([(75, 0, 39), (75, 1, 57), (75, 2, 61)] : zW)) (c' := ([(83, 2, 40), (83, 1, 39), (84, 4, 43), (84, 3, 40), (84, 2, 39), (75, 0, 39), (75, 1, 57), (75, 2, 61)] : zW)) (w1 := ([(0, 10, 39), (0, 9, 3)] : zW)) rfl rfl rfl rfl rfl rfl rfl (Zu.imp (Zu.kp (P := 39) h (by decide) hk) (fun v8 s8 h => ?_))
  obtain ⟨⟨rfl, h⟩, hk⟩ := h
  change Zm _ _ _ _ _ _ _ _ _ _ [] _ _
  refine zm_ld rfl rfl rfl ?_
  refine zm_get (v := .int (s8.1 39 14)) rfl (zv_I (a := 39) rfl rfl) ?_
  refine zm_brP rfl rfl ⟨fun hcn => ?_, fun hcn => ?_⟩
  · refine zm_ld rfl rfl rfl ?_
    refine zm_ld rfl rfl rfl ?_
    refine zm_get (v := .ref 3) rfl (zv_C (a := 0) (n := 9) rfl rfl rfl) ?_
    refine zm_wk (c := []) rfl ?_
    refine zm_putR (a := 0) (b := 3) rfl rfl rfl rfl rfl rfl rfl rfl rfl ?_
    refine zm_ld rfl rfl rfl ?_
    refine zm_ld rfl rfl rfl ?_
    refine zm_putR (a := 0) (b := 39) rfl rfl rfl rfl rfl rfl rfl rfl rfl ?_ (hkr := Or.inr ⟨by decide, hk⟩)
    refine zm_ld rfl rfl rfl ?_
    refine zm_c [.int 1, .ref 0] (xo_push (.int 1)) rfl rfl ?_
    refine zm_putI (a := 0) rfl rfl rfl rfl (by decide) rfl rfl rfl ?_ (hkl := Or.inr (Or.inr ⟨⟨rfl, rfl⟩, 39, by decide, List.mem_cons_self, hk⟩))
    refine zm_ld rfl rfl rfl ?_
    refine zm_get (v := .ref 105) rfl (zv_R (a := 0) rfl rfl) ?_
    refine zm_zt [.ref 105] [] (c := []) rfl rfl rfl rfl rfl (Zt.imp (zq_17_3 (d := d + 64) (s := zf s8 0 11 1) (Q := fun v s' => v = none ∧ s' = zf (zf (zf (zf s8 0 11 1) 105 10 0) 105 11 0) 105 13 5) (fun s1 h1 s2 h2 s3 h3 => ⟨rfl, by rw [h3, h2, h1]⟩)) (fun v9 s9 h9 => ?_))
    obtain ⟨rfl, h9⟩ := h9
    change Zm _ _ _ _ _ _ _ _ _ _ [] _ _
    refine zm_ld rfl rfl rfl ?_
    refine zm_get (v := .ref 197) rfl (zv_R (a := 0) rfl rfl) ?_
    refine zm_zt [.ref 197] [] (c := []) rfl rfl rfl rfl rfl (Zt.imp (zq_94_3 (d := d + 64) (s := s9) (Q := fun v s' => v = none ∧ s' = zf (zf s9 197 8 0) 197 9 0) (fun s1 h1 s2 h2 => ⟨rfl, by rw [h2, h1]⟩)) (fun v10 s10 h10 => ?_))
    obtain ⟨rfl, h10⟩ := h10
    change Zm _ _ _ _ _ _ _ _ _ _ [] _ _
    refine zm_c [.int 0] (xo_push (.int 0)) rfl rfl ?_
    refine zm_retI rfl (fun hh _ hw => ⟨s8, h, by rw [hcn], Or.inr ⟨hcn, by rw [h10, h9]; rfl, hw.2 _ List.mem_cons_self, hw.2 _ (List.mem_cons_of_mem _ List.mem_cons_self)⟩⟩)
  · refine zm_ld rfl rfl rfl ?_
    refine zm_get (v := .int (s8.1 39 14)) rfl (zv_I (a := 39) rfl rfl) ?_
    refine zm_wk (c := [(0, 9, 3), (0, 10, 39)]) rfl ?_
    exact zm_retI rfl (fun hh _ hw => ⟨s8, h, rfl, Or.inl ⟨hcn, rfl, hw.2 _ List.mem_cons_self, hw.2 _ (List.mem_cons_of_mem _ List.mem_cons_self)⟩⟩)
theorem zx_140 {d P C : Nat} (hP : (P = 3 ∧ C = 39) ∨ (P = 39 ∧ C = 3)) {s : zS} {Q : zS → Prop} (h : v_140x d P s Q) : Zh (d + 74) [(84, 2), (84, 3), (84, 4), (83, 1), (83, 2), (82, 0), (82, 1), (82, 2), (75, 0), (75, 1), (75, 2), (0, 9), (0, 10)] [(0, 10, P), (0, 9, C)] 140 [.ref 0] s (PRx P C Q) := by
  rcases hP with ⟨rfl, rfl⟩ | ⟨rfl, rfl⟩
  · exact zx_140_3_39 h
  · exact zx_140_39_3 h
