/-! ===== the class: worlds, small things ===== -/
/-- what a method must know of references -/
def wd (P j : Nat) : zW := bif Nat.blt j 4 then [] else bif Nat.blt j 16 then [(84, 2, P), (84, 3, P + 1), (84, 4, P + 4), (83, 1, P), (83, 2, P + 1), (75, 0, P), (75, 1, P + 18), (75, 2, P + 22)] else bif Nat.blt j 60 then [] else bif Nat.blt j 75 then [(82, 0, P), (82, 1, P + 1), (82, 2, P + 4)] else bif Nat.blt j 80 then [] else bif Nat.blt j 93 then [(75, 0, P), (75, 1, P + 18), (75, 2, P + 22)] else bif Nat.blt j 120 then [] else bif Nat.blt j 138 then [(83, 1, P), (83, 2, P + 1), (75, 0, P), (75, 1, P + 18), (75, 2, P + 22)] else []
theorem i_mx (x y : Int32) : (if x < y then y else x).toInt = max x.toInt y.toInt := by
  by_cases h : x < y
  · rw [if_pos h]
    have := (i_lt (x := x) (y := y) rfl rfl).mp h
    omega
  · rw [if_neg h]
    have := mt (i_lt (x := x) (y := y) rfl rfl).mpr h
    omega
theorem i_mn (x y : Int32) : (if y < x then y else x).toInt = min x.toInt y.toInt := by
  by_cases h : y < x
  · rw [if_pos h]
    have := (i_lt (x := y) (y := x) rfl rfl).mp h
    omega
  · rw [if_neg h]
    have := mt (i_lt (x := y) (y := x) rfl rfl).mpr h
    omega
theorem ls_no {k d : Int} : ∀ {l : List (Int × Int)}, (∀ q ∈ l, ¬ k = q.1) → Op.lookupswitch.offset l d k = d
  | [], _ => rfl
  | (a, o) :: l, h => by
    rw [Op.lookupswitch.offset_cons, if_neg (fun e => h (a, o) List.mem_cons_self e.symm)]
    exact ls_no (fun q hq => h q (List.mem_cons_of_mem _ hq))
section ZN1
variable {d ml : Nat} {W V : List (Nat × Nat)} {w w' : zW} {L : xLD} {ret : Option FieldType} {E : xCd} {pc len : Nat} {i : Instr} {r : xCd} {rl st : List Value} {s : zS} {P : Option Value → zS → Prop}
theorem zn_ls {dflt : Int} {ps : Array (Int × Int)} {x : Int32} (hp : (ps.toList.zip (ps.toList.drop 1)).all (fun (a, next) => a.1 < next.1) = true) (h : ∃ t, xgt E pc (Op.lookupswitch.offset ps.toList dflt x.toInt) = some t ∧ Zn d W V w w' L ml ret E (E.drop t) rl st s P) : Zn d W V w w' L ml ret E ((pc, .lookupswitch dflt ps, len) :: r) rl (.int x :: st) s P := by
  obtain ⟨t, h1, h2⟩ := h
  refine zn_jump (t := t) (f := xLs ps.toList dflt (xgt E pc)) ?_ (fun hh loc cs sl => ?_) h2
  · show xIf _ _ = _
    rw [hp]
    rfl
  · simp only [xLs, h1]
/-- Row.clear -/
theorem zn_clr (st' : List Value) {a n : Nat} {ci : Option Nat} {d' : Nat} (hd : d = d' + 1) (hf : xIt L ml ret false E pc i len r = xCall 79 n ci) (hst : st = .ref a :: st') (hn : (Nat.beq 1 n && (Nat.ble (xcs st') 8 && crc ci [.ref a])) = true) (ha : cmem a rowL = true) (hw : (w.all (fun p => isRf p.1 p.2.1 && !(wmem (p.1, p.2.1) []))) = true) (g : Zn d W V w w' L ml ret E r rl st' (zf s a 2 0) P) (hrw : rfK a 2 V = true := by rfl) : Zn d W V w w' L ml ret E ((pc, i, len) :: r) rl st s P := by
  subst hd
  refine zn_gen hf (fun hh hI hs => ?_)
  have hr := cmem_ok ha
  obtain ⟨c, n, f, z, e1, -⟩ := row_of hI hr
  have h6 := rowL_6 a hr
  have hp := put_ok (v := .int 0) hI (fk_row a hr).2.2 (by omega) (show hh[a]? = some (.inr (oc a, _)) by rw [h6]; exact e1) (fk_2 a hr) ⟨_, rfl, by rw [i0]; omega, by rw [i0]; omega⟩ (by omega) (by omega)
  rw [h6] at hp
  have hal : a < hh.length := (List.getElem?_eq_some_iff.mp e1).1
  have flo : ∀ b q, ¬ (b = a ∧ q = 2) → fld (hh.set a (.inr (6, List.set [.int (Int32.ofNat (lim a)), .ref c, z] 2 (.int 0)))) b q = fld hh b q := fun b q hb => by
    unfold fld
    by_cases eb : b = a
    · subst eb
      rw [List.getElem?_set_self hal, e1]
      show (List.set _ 2 _)[q]? = _
      rw [List.getElem?_set_ne (fun w => hb ⟨rfl, w.symm⟩)]
    · rw [List.getElem?_set_ne (Ne.symm eb)]
  have own : fld (hh.set a (.inr (6, List.set [.int (Int32.ofNat (lim a)), .ref c, z] 2 (.int 0)))) a 2 = some (.int 0) := by
    unfold fld
    rw [List.getElem?_set_self hal]
    rfl
  have q1 : zI (hh.set a (.inr (6, List.set [.int (Int32.ofNat (lim a)), .ref c, z] 2 (.int 0)))) (zf s a 2 0) := by
    refine ⟨fun b q hb => ?_, fun b hb j => ?_⟩
    · by_cases e : b = a ∧ q = 2
      · rw [e.1, e.2, own]
        show _ = some (Value.int (if a = a ∧ 2 = 2 then 0 else _))
        rw [if_pos ⟨rfl, rfl⟩]
      · rw [flo b q e, hs.1.1 b q hb]
        show _ = some (Value.int (if b = a ∧ q = 2 then _ else s.1 b q))
        rw [if_neg e]
    · rw [show (zf s a 2 0).2 b j = s.2 b j from rfl, ← hs.1.2 b hb j]
      unfold rv
      rw [rc_st hI e1 (fun w => absurd w.2 (by decide)) hb]
  have q2 : CSX [] hh (hh.set a (.inr (6, List.set [.int (Int32.ofNat (lim a)), .ref c, z] 2 (.int 0)))) 0 0 := ⟨hp.1, ⟨hp.2.1.1.1, fun b q hb _ => flo b q (fun w => by
    rw [w.1, w.2] at hb
    unfold isRf at hb
    rw [fk_2 a hr, Bool.and_eq_true] at hb
    cases hb.2)⟩, hp.2.2.1, hp.2.2.2, fun b hb j _ => by
    unfold rv
    rw [rc_st hI e1 (fun w => absurd w.2 (by decide)) (wk_row hb)], fun b hb _ j => Or.inl (by
    unfold rv
    rw [rc_st hI e1 (fun w => absurd w.2 (by decide)) hb]), KL_eq (flo 3 10 (fun w => absurd w.2 (by decide))) (flo 39 10 (fun w => absurd w.2 (by decide))) (flo 0 9 (fun w => absurd w.2 (by decide))) (flo 0 11 (fun w => absurd w.2 (by decide))) hI⟩
  refine ⟨_, 0, 0, w, _, st', ⟨CSX_mo q2 (fun _ w => absurd w List.not_mem_nil), FVz_f hrw⟩, zrf_ok q2 hw q1 hs, g, xCall_of hI (vs := [.ref a]) hst hn (v := none) (yex_of (k := 4) rfl rfl rfl ?_)⟩
  refine xit_l (q := (none, (_, [.ref a], hh, 0, 0))) rfl ?_
  refine xit_l (q := (none, (_, [.int 0, .ref a], hh, 0, 0))) rfl ?_
  refine xit_l (rput (calls := yex d') (k := 2) (t := 0) e1 rfl rfl) ?_
  exact xit_r rfl
/-- Row.add, of code -/
theorem zn_addC (v : Int32) (st' : List Value) {a n : Nat} {ci : Option Nat} {d' : Nat} (hd : d = d' + 3) (hf : xIt L ml ret false E pc i len r = xCall 78 n ci) (hst : st = .int v :: .ref a :: st') (hn : (Nat.beq 2 n && (Nat.ble (xcs st') 8 && crc ci [.ref a, .int v])) = true) (ha : cmem a rowL = true) (hk : ckR a = (-2147483648, 2147483647)) (hL : lim a = 24000) (hc : -1000 ≤ v.toInt ∧ v.toInt ≤ 100000) (hcd : cod a = true) (hw : (w.all (fun p => isRf p.1 p.2.1 && !(wmem (p.1, p.2.1) []))) = true) (g : Zn d W V w w' L ml ret E r rl st' (za s a v) P) (hrw : rwK a V = true := by rfl) : Zn d W V w w' L ml ret E ((pc, i, len) :: r) rl st s P :=
  zn_add v st' hd hf hst hn ha (by rw [hk]; exact ⟨Int32.le_toInt _, Int.le_of_lt_add_one (Int32.toInt_lt _)⟩) (fun _ _ _ => by omega) hw g (hrw := hrw) (hx := ⟨fun e => by subst e; exact absurd hL (by decide +kernel), fun e => by subst e; exact absurd hL (by decide +kernel)⟩) (hy := fun _ => by unfold skM; rw [hcd]; exact hc)
theorem zn_lenS {a : Nat} (hf : xIt L ml ret false E pc i len r = xLenS) (ha : (Nat.ble 1000000 a && (Nat.blt a 1000007 && Nat.ble (xcs st) 8)) = true) (g : Zn d W V w w' L ml ret E r rl (.int (xnS (a % 1000000)) :: st) s P) : Zn d W V w w' L ml ret E ((pc, i, len) :: r) rl (.ref a :: st) s P := by
  refine zn_step hf (fun l => l) (fun _ h => h) (fun hh loc cs sl _ _ _ => ?_) g
  simp only [xLenS, ha]
theorem zn_chS {a : Nat} {x : Int32} (hf : xIt L ml ret false E pc i len r = xChS) (ha : (Nat.ble 1000000 a && Nat.blt a 1000007) = true) (h8 : Nat.ble (xcs st) 8 = true) (hx : xIn x (xsl.getD (a % 1000000) 0) = true) (g : Zn d W V w w' L ml ret E r rl (.int (xch (a % 1000000) x) :: st) s P) : Zn d W V w w' L ml ret E ((pc, i, len) :: r) rl (.int x :: .ref a :: st) s P := by
  refine zn_step hf (fun l => l) (fun _ h => h) (fun hh loc cs sl _ _ _ => ?_) g
  rw [Bool.and_eq_true] at ha
  simp only [xChS, ha.1, ha.2, hx, h8, Bool.and_self]
end ZN1
theorem zp_39 {d d0 : Nat} (hd : d = d0 + 4) {P : Nat} (hP : P = 3 ∨ P = 39) {a1 : Int32} {a2 : Int32} {s : zS} : Zt d [] 39 [.ref P, .int a1, .int a2] s (fun v s' => v = some (.int (zg s (P + 24) ((a1 * 6) + a2))) ∧ s' = s) := by
  subst hd
  rcases hP with rfl | rfl
  · refine zt_of (w' := []) (d := d0 + 3) (E := xE_39) (L := xL_4) (ml := 3) (ret := some .int) rfl rfl rfl ?_
    refine zn_ld rfl rfl rfl ?_
    refine zn_get (v := .ref 27) rfl (zv_R (a := 3) rfl rfl) ?_
    refine zn_ld rfl rfl rfl ?_
    refine zn_c [.int 6, .int a1, .ref 27] (xo_push (.int 6)) rfl rfl ?_
    refine zn_c [.int (a1 * 6), .ref 27] xo_imul rfl rfl ?_
    refine zn_ld rfl rfl rfl ?_
    refine zn_c [.int ((a1 * 6) + a2), .ref 27] xo_iadd rfl rfl ?_
    refine zn_row ((a1 * 6) + a2) [] (a := 27) (d' := d0 + 2) rfl rfl rfl rfl rfl ?_
    change Zn _ _ _ _ _ _ _ _ _ _ _ [.int (zg s 27 ((a1 * 6) + a2))] _ _
    exact zn_retI rfl ⟨rfl, rfl⟩
  · refine zt_of (w' := []) (d := d0 + 3) (E := xE_39) (L := xL_4) (ml := 3) (ret := some .int) rfl rfl rfl ?_
    refine zn_ld rfl rfl rfl ?_
    refine zn_get (v := .ref 63) rfl (zv_R (a := 39) rfl rfl) ?_
    refine zn_ld rfl rfl rfl ?_
    refine zn_c [.int 6, .int a1, .ref 63] (xo_push (.int 6)) rfl rfl ?_
    refine zn_c [.int (a1 * 6), .ref 63] xo_imul rfl rfl ?_
    refine zn_ld rfl rfl rfl ?_
    refine zn_c [.int ((a1 * 6) + a2), .ref 63] xo_iadd rfl rfl ?_
    refine zn_row ((a1 * 6) + a2) [] (a := 63) (d' := d0 + 2) rfl rfl rfl rfl rfl ?_
    change Zn _ _ _ _ _ _ _ _ _ _ _ [.int (zg s 63 ((a1 * 6) + a2))] _ _
    exact zn_retI rfl ⟨rfl, rfl⟩
theorem zp_40 {d d0 : Nat} (hd : d = d0 + 4) {P : Nat} (hP : P = 3 ∨ P = 39) {a1 : Int32} {a2 : Int32} {s : zS} : Zt d [] 40 [.ref P, .int a1, .int a2] s (fun v s' => v = some (.int (zg s (P + 26) ((a1 * 10) + a2))) ∧ s' = s) := by
  subst hd
  rcases hP with rfl | rfl
  · refine zt_of (w' := []) (d := d0 + 3) (E := xE_40) (L := xL_4) (ml := 3) (ret := some .int) rfl rfl rfl ?_
    refine zn_ld rfl rfl rfl ?_
    refine zn_get (v := .ref 29) rfl (zv_R (a := 3) rfl rfl) ?_
    refine zn_ld rfl rfl rfl ?_
    refine zn_c [.int 10, .int a1, .ref 29] (xo_push (.int 10)) rfl rfl ?_
    refine zn_c [.int (a1 * 10), .ref 29] xo_imul rfl rfl ?_
    refine zn_ld rfl rfl rfl ?_
    refine zn_c [.int ((a1 * 10) + a2), .ref 29] xo_iadd rfl rfl ?_
    refine zn_row ((a1 * 10) + a2) [] (a := 29) (d' := d0 + 2) rfl rfl rfl rfl rfl ?_
    change Zn _ _ _ _ _ _ _ _ _ _ _ [.int (zg s 29 ((a1 * 10) + a2))] _ _
    exact zn_retI rfl ⟨rfl, rfl⟩
  · refine zt_of (w' := []) (d := d0 + 3) (E := xE_40) (L := xL_4) (ml := 3) (ret := some .int) rfl rfl rfl ?_
    refine zn_ld rfl rfl rfl ?_
    refine zn_get (v := .ref 65) rfl (zv_R (a := 39) rfl rfl) ?_
    refine zn_ld rfl rfl rfl ?_
    refine zn_c [.int 10, .int a1, .ref 65] (xo_push (.int 10)) rfl rfl ?_
    refine zn_c [.int (a1 * 10), .ref 65] xo_imul rfl rfl ?_
    refine zn_ld rfl rfl rfl ?_
    refine zn_c [.int ((a1 * 10) + a2), .ref 65] xo_iadd rfl rfl ?_
    refine zn_row ((a1 * 10) + a2) [] (a := 65) (d' := d0 + 2) rfl rfl rfl rfl rfl ?_
    change Zn _ _ _ _ _ _ _ _ _ _ _ [.int (zg s 65 ((a1 * 10) + a2))] _ _
    exact zn_retI rfl ⟨rfl, rfl⟩
theorem zp_41 {d d0 : Nat} (hd : d = d0 + 4) {P : Nat} (hP : P = 3 ∨ P = 39) {a1 : Int32} {a2 : Int32} {s : zS} : Zt d [] 41 [.ref P, .int a1, .int a2] s (fun v s' => v = some (.int (zg s (P + 28) ((a1 * 5) + a2))) ∧ s' = s) := by
  subst hd
  rcases hP with rfl | rfl
  · refine zt_of (w' := []) (d := d0 + 3) (E := xE_41) (L := xL_4) (ml := 3) (ret := some .int) rfl rfl rfl ?_
    refine zn_ld rfl rfl rfl ?_
    refine zn_get (v := .ref 31) rfl (zv_R (a := 3) rfl rfl) ?_
    refine zn_ld rfl rfl rfl ?_
    refine zn_c [.int 5, .int a1, .ref 31] (xo_push (.int 5)) rfl rfl ?_
    refine zn_c [.int (a1 * 5), .ref 31] xo_imul rfl rfl ?_
    refine zn_ld rfl rfl rfl ?_
    refine zn_c [.int ((a1 * 5) + a2), .ref 31] xo_iadd rfl rfl ?_
    refine zn_row ((a1 * 5) + a2) [] (a := 31) (d' := d0 + 2) rfl rfl rfl rfl rfl ?_
    change Zn _ _ _ _ _ _ _ _ _ _ _ [.int (zg s 31 ((a1 * 5) + a2))] _ _
    exact zn_retI rfl ⟨rfl, rfl⟩
  · refine zt_of (w' := []) (d := d0 + 3) (E := xE_41) (L := xL_4) (ml := 3) (ret := some .int) rfl rfl rfl ?_
    refine zn_ld rfl rfl rfl ?_
    refine zn_get (v := .ref 67) rfl (zv_R (a := 39) rfl rfl) ?_
    refine zn_ld rfl rfl rfl ?_
    refine zn_c [.int 5, .int a1, .ref 67] (xo_push (.int 5)) rfl rfl ?_
    refine zn_c [.int (a1 * 5), .ref 67] xo_imul rfl rfl ?_
    refine zn_ld rfl rfl rfl ?_
    refine zn_c [.int ((a1 * 5) + a2), .ref 67] xo_iadd rfl rfl ?_
    refine zn_row ((a1 * 5) + a2) [] (a := 67) (d' := d0 + 2) rfl rfl rfl rfl rfl ?_
    change Zn _ _ _ _ _ _ _ _ _ _ _ [.int (zg s 67 ((a1 * 5) + a2))] _ _
    exact zn_retI rfl ⟨rfl, rfl⟩
theorem zp_42 {d d0 : Nat} (hd : d = d0 + 4) {P : Nat} (hP : P = 3 ∨ P = 39) {a1 : Int32} {a2 : Int32} {s : zS} : Zt d [] 42 [.ref P, .int a1, .int a2] s (fun v s' => v = some (.int (zg s (P + 30) ((a1 * 5) + a2))) ∧ s' = s) := by
  subst hd
  rcases hP with rfl | rfl
  · refine zt_of (w' := []) (d := d0 + 3) (E := xE_42) (L := xL_4) (ml := 3) (ret := some .int) rfl rfl rfl ?_
    refine zn_ld rfl rfl rfl ?_
    refine zn_get (v := .ref 33) rfl (zv_R (a := 3) rfl rfl) ?_
    refine zn_ld rfl rfl rfl ?_
    refine zn_c [.int 5, .int a1, .ref 33] (xo_push (.int 5)) rfl rfl ?_
    refine zn_c [.int (a1 * 5), .ref 33] xo_imul rfl rfl ?_
    refine zn_ld rfl rfl rfl ?_
    refine zn_c [.int ((a1 * 5) + a2), .ref 33] xo_iadd rfl rfl ?_
    refine zn_row ((a1 * 5) + a2) [] (a := 33) (d' := d0 + 2) rfl rfl rfl rfl rfl ?_
    change Zn _ _ _ _ _ _ _ _ _ _ _ [.int (zg s 33 ((a1 * 5) + a2))] _ _
    exact zn_retI rfl ⟨rfl, rfl⟩
  · refine zt_of (w' := []) (d := d0 + 3) (E := xE_42) (L := xL_4) (ml := 3) (ret := some .int) rfl rfl rfl ?_
    refine zn_ld rfl rfl rfl ?_
    refine zn_get (v := .ref 69) rfl (zv_R (a := 39) rfl rfl) ?_
    refine zn_ld rfl rfl rfl ?_
    refine zn_c [.int 5, .int a1, .ref 69] (xo_push (.int 5)) rfl rfl ?_
    refine zn_c [.int (a1 * 5), .ref 69] xo_imul rfl rfl ?_
    refine zn_ld rfl rfl rfl ?_
    refine zn_c [.int ((a1 * 5) + a2), .ref 69] xo_iadd rfl rfl ?_
    refine zn_row ((a1 * 5) + a2) [] (a := 69) (d' := d0 + 2) rfl rfl rfl rfl rfl ?_
    change Zn _ _ _ _ _ _ _ _ _ _ _ [.int (zg s 69 ((a1 * 5) + a2))] _ _
    exact zn_retI rfl ⟨rfl, rfl⟩
theorem zp_43 {d d0 : Nat} (hd : d = d0 + 4) {P : Nat} (hP : P = 3 ∨ P = 39) {a1 : Int32} {a2 : Int32} {s : zS} : Zt d [] 43 [.ref P, .int a1, .int a2] s (fun v s' => v = some (.int (zg s (P + 32) ((a1 * 3) + a2))) ∧ s' = s) := by
  subst hd
  rcases hP with rfl | rfl
  · refine zt_of (w' := []) (d := d0 + 3) (E := xE_43) (L := xL_4) (ml := 3) (ret := some .int) rfl rfl rfl ?_
    refine zn_ld rfl rfl rfl ?_
    refine zn_get (v := .ref 35) rfl (zv_R (a := 3) rfl rfl) ?_
    refine zn_ld rfl rfl rfl ?_
    refine zn_c [.int 3, .int a1, .ref 35] (xo_push (.int 3)) rfl rfl ?_
    refine zn_c [.int (a1 * 3), .ref 35] xo_imul rfl rfl ?_
    refine zn_ld rfl rfl rfl ?_
    refine zn_c [.int ((a1 * 3) + a2), .ref 35] xo_iadd rfl rfl ?_
    refine zn_row ((a1 * 3) + a2) [] (a := 35) (d' := d0 + 2) rfl rfl rfl rfl rfl ?_
    change Zn _ _ _ _ _ _ _ _ _ _ _ [.int (zg s 35 ((a1 * 3) + a2))] _ _
    exact zn_retI rfl ⟨rfl, rfl⟩
  · refine zt_of (w' := []) (d := d0 + 3) (E := xE_43) (L := xL_4) (ml := 3) (ret := some .int) rfl rfl rfl ?_
    refine zn_ld rfl rfl rfl ?_
    refine zn_get (v := .ref 71) rfl (zv_R (a := 39) rfl rfl) ?_
    refine zn_ld rfl rfl rfl ?_
    refine zn_c [.int 3, .int a1, .ref 71] (xo_push (.int 3)) rfl rfl ?_
    refine zn_c [.int (a1 * 3), .ref 71] xo_imul rfl rfl ?_
    refine zn_ld rfl rfl rfl ?_
    refine zn_c [.int ((a1 * 3) + a2), .ref 71] xo_iadd rfl rfl ?_
    refine zn_row ((a1 * 3) + a2) [] (a := 71) (d' := d0 + 2) rfl rfl rfl rfl rfl ?_
    change Zn _ _ _ _ _ _ _ _ _ _ _ [.int (zg s 71 ((a1 * 3) + a2))] _ _
    exact zn_retI rfl ⟨rfl, rfl⟩
theorem zp_44 {d d0 : Nat} (hd : d = d0 + 4) {P : Nat} (hP : P = 3 ∨ P = 39)  {s : zS} : Zt d [] 44 [.ref P] s (fun v s' => v = some (.int ((s.1 (P + 24) 2) / 6)) ∧ s' = s) := by
  subst hd
  rcases hP with rfl | rfl
  · refine zt_of (w' := []) (d := d0 + 3) (E := xE_44) (L := xL_4) (ml := 1) (ret := some .int) rfl rfl rfl ?_
    refine zn_ld rfl rfl rfl ?_
    refine zn_get (v := .ref 27) rfl (zv_R (a := 3) rfl rfl) ?_
    refine zn_get (v := .int (s.1 27 2)) rfl (zv_I (a := 27) rfl rfl) ?_
    refine zn_c [.int 6, .int (s.1 27 2)] (xo_push (.int 6)) rfl rfl ?_
    refine zn_c [.int ((s.1 27 2) / 6)] xo_idiv rfl (o_idiv (by decide)) ?_
    exact zn_retI rfl ⟨rfl, rfl⟩
  · refine zt_of (w' := []) (d := d0 + 3) (E := xE_44) (L := xL_4) (ml := 1) (ret := some .int) rfl rfl rfl ?_
    refine zn_ld rfl rfl rfl ?_
    refine zn_get (v := .ref 63) rfl (zv_R (a := 39) rfl rfl) ?_
    refine zn_get (v := .int (s.1 63 2)) rfl (zv_I (a := 63) rfl rfl) ?_
    refine zn_c [.int 6, .int (s.1 63 2)] (xo_push (.int 6)) rfl rfl ?_
    refine zn_c [.int ((s.1 63 2) / 6)] xo_idiv rfl (o_idiv (by decide)) ?_
    exact zn_retI rfl ⟨rfl, rfl⟩
theorem zp_45 {d d0 : Nat} (hd : d = d0 + 4) {P : Nat} (hP : P = 3 ∨ P = 39)  {s : zS} : Zt d [] 45 [.ref P] s (fun v s' => v = some (.int ((s.1 (P + 26) 2) / 10)) ∧ s' = s) := by
  subst hd
  rcases hP with rfl | rfl
  · refine zt_of (w' := []) (d := d0 + 3) (E := xE_45) (L := xL_4) (ml := 1) (ret := some .int) rfl rfl rfl ?_
    refine zn_ld rfl rfl rfl ?_
    refine zn_get (v := .ref 29) rfl (zv_R (a := 3) rfl rfl) ?_
    refine zn_get (v := .int (s.1 29 2)) rfl (zv_I (a := 29) rfl rfl) ?_
    refine zn_c [.int 10, .int (s.1 29 2)] (xo_push (.int 10)) rfl rfl ?_
    refine zn_c [.int ((s.1 29 2) / 10)] xo_idiv rfl (o_idiv (by decide)) ?_
    exact zn_retI rfl ⟨rfl, rfl⟩
  · refine zt_of (w' := []) (d := d0 + 3) (E := xE_45) (L := xL_4) (ml := 1) (ret := some .int) rfl rfl rfl ?_
    refine zn_ld rfl rfl rfl ?_
    refine zn_get (v := .ref 65) rfl (zv_R (a := 39) rfl rfl) ?_
    refine zn_get (v := .int (s.1 65 2)) rfl (zv_I (a := 65) rfl rfl) ?_
    refine zn_c [.int 10, .int (s.1 65 2)] (xo_push (.int 10)) rfl rfl ?_
    refine zn_c [.int ((s.1 65 2) / 10)] xo_idiv rfl (o_idiv (by decide)) ?_
    exact zn_retI rfl ⟨rfl, rfl⟩
theorem zp_46 {d d0 : Nat} (hd : d = d0 + 4) {P : Nat} (hP : P = 3 ∨ P = 39)  {s : zS} : Zt d [] 46 [.ref P] s (fun v s' => v = some (.int ((s.1 (P + 28) 2) / 5)) ∧ s' = s) := by
  subst hd
  rcases hP with rfl | rfl
  · refine zt_of (w' := []) (d := d0 + 3) (E := xE_46) (L := xL_4) (ml := 1) (ret := some .int) rfl rfl rfl ?_
    refine zn_ld rfl rfl rfl ?_
    refine zn_get (v := .ref 31) rfl (zv_R (a := 3) rfl rfl) ?_
    refine zn_get (v := .int (s.1 31 2)) rfl (zv_I (a := 31) rfl rfl) ?_
    refine zn_c [.int 5, .int (s.1 31 2)] (xo_push (.int 5)) rfl rfl ?_
    refine zn_c [.int ((s.1 31 2) / 5)] xo_idiv rfl (o_idiv (by decide)) ?_
    exact zn_retI rfl ⟨rfl, rfl⟩
  · refine zt_of (w' := []) (d := d0 + 3) (E := xE_46) (L := xL_4) (ml := 1) (ret := some .int) rfl rfl rfl ?_
    refine zn_ld rfl rfl rfl ?_
    refine zn_get (v := .ref 67) rfl (zv_R (a := 39) rfl rfl) ?_
    refine zn_get (v := .int (s.1 67 2)) rfl (zv_I (a := 67) rfl rfl) ?_
    refine zn_c [.int 5, .int (s.1 67 2)] (xo_push (.int 5)) rfl rfl ?_
    refine zn_c [.int ((s.1 67 2) / 5)] xo_idiv rfl (o_idiv (by decide)) ?_
    exact zn_retI rfl ⟨rfl, rfl⟩
theorem zp_47 {d d0 : Nat} (hd : d = d0 + 4) {P : Nat} (hP : P = 3 ∨ P = 39)  {s : zS} : Zt d [] 47 [.ref P] s (fun v s' => v = some (.int ((s.1 (P + 30) 2) / 5)) ∧ s' = s) := by
  subst hd
  rcases hP with rfl | rfl
  · refine zt_of (w' := []) (d := d0 + 3) (E := xE_47) (L := xL_4) (ml := 1) (ret := some .int) rfl rfl rfl ?_
    refine zn_ld rfl rfl rfl ?_
    refine zn_get (v := .ref 33) rfl (zv_R (a := 3) rfl rfl) ?_
    refine zn_get (v := .int (s.1 33 2)) rfl (zv_I (a := 33) rfl rfl) ?_
    refine zn_c [.int 5, .int (s.1 33 2)] (xo_push (.int 5)) rfl rfl ?_
    refine zn_c [.int ((s.1 33 2) / 5)] xo_idiv rfl (o_idiv (by decide)) ?_
    exact zn_retI rfl ⟨rfl, rfl⟩
  · refine zt_of (w' := []) (d := d0 + 3) (E := xE_47) (L := xL_4) (ml := 1) (ret := some .int) rfl rfl rfl ?_
    refine zn_ld rfl rfl rfl ?_
    refine zn_get (v := .ref 69) rfl (zv_R (a := 39) rfl rfl) ?_
    refine zn_get (v := .int (s.1 69 2)) rfl (zv_I (a := 69) rfl rfl) ?_
    refine zn_c [.int 5, .int (s.1 69 2)] (xo_push (.int 5)) rfl rfl ?_
    refine zn_c [.int ((s.1 69 2) / 5)] xo_idiv rfl (o_idiv (by decide)) ?_
    exact zn_retI rfl ⟨rfl, rfl⟩
theorem zp_48 {d d0 : Nat} (hd : d = d0 + 4) {P : Nat} (hP : P = 3 ∨ P = 39)  {s : zS} : Zt d [] 48 [.ref P] s (fun v s' => v = some (.int ((s.1 (P + 32) 2) / 3)) ∧ s' = s) := by
  subst hd
  rcases hP with rfl | rfl
  · refine zt_of (w' := []) (d := d0 + 3) (E := xE_48) (L := xL_4) (ml := 1) (ret := some .int) rfl rfl rfl ?_
    refine zn_ld rfl rfl rfl ?_
    refine zn_get (v := .ref 35) rfl (zv_R (a := 3) rfl rfl) ?_
    refine zn_get (v := .int (s.1 35 2)) rfl (zv_I (a := 35) rfl rfl) ?_
    refine zn_c [.int 3, .int (s.1 35 2)] (xo_push (.int 3)) rfl rfl ?_
    refine zn_c [.int ((s.1 35 2) / 3)] xo_idiv rfl (o_idiv (by decide)) ?_
    exact zn_retI rfl ⟨rfl, rfl⟩
  · refine zt_of (w' := []) (d := d0 + 3) (E := xE_48) (L := xL_4) (ml := 1) (ret := some .int) rfl rfl rfl ?_
    refine zn_ld rfl rfl rfl ?_
    refine zn_get (v := .ref 71) rfl (zv_R (a := 39) rfl rfl) ?_
    refine zn_get (v := .int (s.1 71 2)) rfl (zv_I (a := 71) rfl rfl) ?_
    refine zn_c [.int 3, .int (s.1 71 2)] (xo_push (.int 3)) rfl rfl ?_
    refine zn_c [.int ((s.1 71 2) / 3)] xo_idiv rfl (o_idiv (by decide)) ?_
    exact zn_retI rfl ⟨rfl, rfl⟩
