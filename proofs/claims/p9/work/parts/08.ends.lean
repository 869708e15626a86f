/-! ===== stores into arrays, calls, ends ===== -/
section XN
variable {sg : Nat → Option xM} {M : xM} {F r : xK} {pc pc' : Nat}
def xIas : xF := fun _ σ => match σ.2.1 with
  | .int x :: .int i :: .ref a :: st => match σ.2.2.1[a]? with
    | some (.inl (0, n, .inl f)) => match xIn i n with
      | true => some (.inl (none, (σ.1, st, σ.2.2.1.set a (.inl (0, n, .inl (upd f i.toNatClampNeg x))), σ.2.2.2)))
      | false => none
    | _ => none
  | _ => none
theorem xok_ias (hd : decode M.2.1 pc = .ok (.iastore, 1)) (hn : xpc r = pc + 1) : xOK sg M F (pc, xIas) r := by
  refine xOK_l ?_
  intro l b aS D cT d calls hcl p e s m args below meth c res C σ z hz
  obtain ⟨loc, st, hh, cs, sl⟩ := σ
  simp only [xIas] at hz
  split at hz
  · split at hz
    · rename_i x i a st' _ n f ha
      cases hb : xIn i n with
      | false => rw [hb] at hz; cases hz
      | true =>
        rw [hb] at hz
        cases hz
        refine ⟨_, rfl, fun g => ⟨g.1, g.2.1, fun H locs ls hI hl => ?_⟩⟩
        obtain ⟨hx, hb2, hml, hown, hnam, -, -, hts, hG⟩ := C
        dsimp only
        rw [List.map_cons, List.map_cons, List.map_cons, xI_lt hI ha]
        refine W.iast hx hb2 (hI.2.2.1 a _ (xw_at ha)) ((hG.1.2 0 _ rfl).1 n (fun j => .int (f j))) (fun q => by cases q) (by show ¬ (i < 0 ∨ (arrV _ _ _).slots.size ≤ _); rw [arrV_size]; exact xIn_ok hb) rfl rfl hd fun H1 e1 z1 o1 => ?_
        have he : va_at D vwCl (b + a, xc b aS cT (.inl (0, n, .inl (upd f i.toNatClampNeg x)))) H1 := by
          show H1[b + a]? = some (vp_cell (cT 0) (n, .inl (upd f i.toNatClampNeg x)))
          rw [e1]
          show some ((vp_cell (cT 0) (n, .inl f)).setSlot _ _) = _
          rw [vp_cell_i, vp_cell_i, arrV_store]
          congr 2
          funext q
          by_cases hq : q = i.toNatClampNeg
          · subst hq; simp [updV, upd]
          · simp [updV, upd, hq]
        have g3 := g.2.2 H1 _ ls (xI_set (sl := i.toNatClampNeg) hI ha _ he z1 o1) hl
        dsimp only [xnx] at g3
        rw [hn] at g3
        exact g3
    · cases hz
  · cases hz
def xLas : xF := fun _ σ => match σ.2.1 with
  | .long x :: .int i :: .ref a :: st => match σ.2.2.1[a]? with
    | some (.inl (1, n, .inr (.inl f))) => match xIn i n with
      | true => some (.inl (none, (σ.1, st, σ.2.2.1.set a (.inl (1, n, .inr (.inl (vp_updL f i.toNatClampNeg x)))), σ.2.2.2)))
      | false => none
    | _ => none
  | _ => none
theorem xok_las (hd : decode M.2.1 pc = .ok (.lastore, 1)) (hn : xpc r = pc + 1) : xOK sg M F (pc, xLas) r := by
  refine xOK_l ?_
  intro l b aS D cT d calls hcl p e s m args below meth c res C σ z hz
  obtain ⟨loc, st, hh, cs, sl⟩ := σ
  simp only [xLas] at hz
  split at hz
  · split at hz
    · rename_i x i a st' _ n f ha
      cases hb : xIn i n with
      | false => rw [hb] at hz; cases hz
      | true =>
        rw [hb] at hz
        cases hz
        refine ⟨_, rfl, fun g => ⟨g.1, g.2.1, fun H locs ls hI hl => ?_⟩⟩
        obtain ⟨hx, hb2, hml, hown, hnam, -, -, hts, hG⟩ := C
        dsimp only
        rw [List.map_cons, List.map_cons, List.map_cons, xI_lt hI ha]
        refine W.last hx hb2 (hI.2.2.1 a _ (xw_at ha)) ((hG.1.2 1 _ rfl).1 n (fun j => .long (f j))) (fun q => by cases q) (by show ¬ (i < 0 ∨ (arrV _ _ _).slots.size ≤ _); rw [arrV_size]; exact xIn_ok hb) rfl rfl hd fun H1 e1 z1 o1 => ?_
        have he : va_at D vwCl (b + a, xc b aS cT (.inl (1, n, .inr (.inl (vp_updL f i.toNatClampNeg x))))) H1 := by
          show H1[b + a]? = some (vp_cell (cT 1) (n, .inr (.inl (vp_updL f i.toNatClampNeg x))))
          rw [e1]
          show some ((vp_cell (cT 1) (n, .inr (.inl f))).setSlot _ _) = _
          rw [vp_cell_l, vp_cell_l, arrV_store]
          congr 2
          funext q
          by_cases hq : q = i.toNatClampNeg
          · subst hq; simp [updV, vp_updL]
          · simp [updV, vp_updL, hq]
        have g3 := g.2.2 H1 _ ls (xI_set (sl := i.toNatClampNeg) hI ha _ he z1 o1) hl
        dsimp only [xnx] at g3
        rw [hn] at g3
        exact g3
    · cases hz
  · cases hz
/-- a Row into the array of Rows -/
def xAas : xF := fun _ σ => match σ.2.1 with
  | .ref x :: .int i :: .ref a :: st => match σ.2.2.1[a]?, σ.2.2.1[x]? with
    | some (.inl (3, n, .inr (.inr (.inr (.inr f))))), some (.inr (6, _)) => match xIn i n with
      | true => some (.inl (none, (σ.1, st, σ.2.2.1.set a (.inl (3, n, .inr (.inr (.inr (.inr (va_up f i.toNatClampNeg (some x))))))), σ.2.2.2)))
      | false => none
    | _, _ => none
  | _ => none
theorem xok_aas (hd : decode M.2.1 pc = .ok (.aastore, 1)) (hn : xpc r = pc + 1) : xOK sg M F (pc, xAas) r := by
  refine xOK_l ?_
  intro l b aS D cT d calls hcl p e s m args below meth c res C σ z hz
  obtain ⟨loc, st, hh, cs, sl⟩ := σ
  simp only [xAas] at hz
  split at hz
  · split at hz
    · rename_i x i a st' _ _ n f vs ha hxr
      cases hb : xIn i n with
      | false => rw [hb] at hz; cases hz
      | true =>
        rw [hb] at hz
        cases hz
        refine ⟨_, rfl, fun g => ⟨g.1, g.2.1, fun H locs ls hI hl => ?_⟩⟩
        obtain ⟨hx, hb2, hml, hown, hnam, -, -, hts, hG⟩ := C
        have hxl : x < 1000000 := Nat.lt_of_lt_of_le (List.getElem?_eq_some_iff.mp hxr).1 hI.1
        dsimp only
        rw [List.map_cons, List.map_cons, List.map_cons, xI_lt hI ha, xI_lt hI hxr]
        have hin := xIn_ok hb
        have hlt : i.toNatClampNeg < n := Nat.not_le.mp fun q => hin (Or.inr q)
        have h0 : ¬ i < 0 := fun q => hin (Or.inl q)
        obtain ⟨r', hr', cellV, v1, v2, v3, -⟩ := hI.2.2.1 x _ (xw_at hxr)
        have hcls := (hG.1.1 6 (RX6, TX6, 3) rfl).2
        obtain ⟨kA, comp, k1, k2, k3, -⟩ := (hG.1.2 3 _ rfl).2
        have hcomp : comp = D.1 6 := Option.some.inj (k3.symm.trans hcls.1)
        subst hcomp
        obtain ⟨kC, hkC, -⟩ := hcls.2
        refine W.aast hx hb2 (hI.2.2.1 a _ (xw_at ha)) (fun q h => by cases h) (fun h => by cases h) k1 k2 rfl hkC ⟨h0, by show _ < (arrV _ _ _).slots.size; rw [arrV_size]; exact hlt⟩ v1 (fun q h => by rw [v3] at h; cases h) (by rw [v2]; exact hkC) (by rw [v2]; exact va_assign hcls) rfl rfl hd fun H1 e1 z1 o1 => ?_
        have he : va_at D vwCl (b + a, xc b aS cT (.inl (3, n, .inr (.inr (.inr (.inr (va_up f i.toNatClampNeg (some x)))))))) H1 := by
          show H1[b + a]? = some (vp_cell (cT 3) (n, .inr (.inr (.inr (.inr (fun j => (va_up f i.toNatClampNeg (some x) j).map (xad b aS)))))))
          rw [e1]
          show some ((vp_cell (cT 3) (n, .inr (.inr (.inr (.inr (fun j => (f j).map (xad b aS))))))).setSlot _ _) = _
          rw [vp_cell_q, vp_cell_q, arrV_store]
          congr 2
          funext q
          by_cases hq : q = i.toNatClampNeg
          · subst hq; simp [updV, va_up, va_rf, xad_lt hxl]
          · simp [updV, va_up, hq]
        have g3 := g.2.2 H1 _ ls (xI_set (sl := i.toNatClampNeg) hI ha _ he z1 o1) hl
        dsimp only [xnx] at g3
        rw [hn] at g3
        exact g3
    · cases hz
  · cases hz
/-- Object's own constructor -/
def xcs (st : List Value) : Nat := (st.map fun v => v.category).sum
theorem xcs_map {b : Nat} {aS : Nat → Nat} (st : List Value) : ((st.map (xv b aS)).map fun v => v.category).sum = xcs st := by
  rw [xcs, List.map_map]
  congr 1
  apply List.map_congr_left
  intro v _
  exact xv_cat v
def xObj : xF := fun _ σ => match σ.2.1 with
  | .ref _ :: st => match Nat.ble (xcs st) 8 with
    | true => some (.inl (none, (σ.1, st, σ.2.2)))
    | false => none
  | _ => none
theorem xok_obj {index : Nat} (hd : decode M.2.1 pc = .ok (.invokespecial index, 3)) (hw : Cond.methodLink M.1.cls index objectInit ∈ xT) (hw2 : Cond.instanceMethod objectInit ∈ xT) (hw3 : Cond.code objectInit ⟨#[0xb1]⟩ 1 none ∈ xT) (hn : xpc r = pc + 3) : xOK sg M F (pc, xObj) r := by
  refine xOK_l ?_
  intro l b aS D cT d calls hcl p e s m args below meth c res C σ z hz
  obtain ⟨loc, st, hh, cs, sl⟩ := σ
  simp only [xObj] at hz
  split at hz
  · rename_i a st'
    cases hb : Nat.ble (xcs st') 8 with
    | false => rw [hb] at hz; cases hz
    | true =>
      rw [hb] at hz
      cases hz
      have h8 : xcs st' ≤ 8 := Nat.le_of_ble_eq_true hb
      refine ⟨_, rfl, fun g => ⟨g.1, g.2.1, fun H locs ls hI hl => ?_⟩⟩
      obtain ⟨hx, hb2, hml, hown, hnam, -, -, hts, hG⟩ := C
      have g3 := g.2.2 H locs ls hI hl
      dsimp only [xnx] at g3
      rw [hn] at g3
      exact W.objInit hx hb2 hown (hts _ hw) (hts _ hw2) (hts _ hw3) rfl (hl.1.trans hml.symm) rfl hd (Nat.le_add_left 1 (d + 1 + 4)) (by
        show 2 * 0 + ((st'.map (xv b aS)).map fun v => v.category).sum + 12 ≤ 54 * (d + 1 + 5)
        rw [xcs_map]
        omega) g3
  · cases hz
/-- ends -/
def xRet0 : xF := fun _ σ => match σ.2.1 with
  | [] => some (.inr (none, σ.2.2))
  | _ => none
theorem xok_ret0 (hd : decode M.2.1 pc = .ok (.return_, 1)) (hr : M.2.2.2 = none) : xOK sg M F (pc, xRet0) r := by
  intro l b aS D cT d calls hcl p e s m args below meth c res C σ
  obtain ⟨loc, st, hh, cs, sl⟩ := σ
  dsimp only [xRet0]
  cases st with
  | cons v st => trivial
  | nil =>
    dsimp only
    intro he
    subst he
    obtain ⟨hx, hb2, hml, hown, hnam, hrt, hlk, hts, hG⟩ := C
    refine ⟨Nat.le_refl _, Nat.le_refl _, fun H locs ls hI hl => ?_⟩
    exact W.vret hx hb2 (hrt.trans hr) (fun t ht _ => ⟨rfl, hI.1, by rw [ht]; exact hI.2.1, by rw [ht]; exact hI.2.2.1, hI.2.2.2.F ht⟩) hI.2.2.2.2.2 hd hlk
def xRetI : xF := fun _ σ => match σ.2.1 with
  | [.int v] => some (.inr (some (.int v), σ.2.2))
  | _ => none
theorem xok_retI (hd : decode M.2.1 pc = .ok (.ireturn, 1)) (hr : M.2.2.2 = some .int) : xOK sg M F (pc, xRetI) r := by
  intro l b aS D cT d calls hcl p e s m args below meth c res C σ
  obtain ⟨loc, st, hh, cs, sl⟩ := σ
  dsimp only [xRetI]
  split
  · trivial
  · rename_i q hq
    split at hq
    · cases hq
    · cases hq
  · rename_i res' hq
    split at hq
    · rename_i v
      cases hq
      intro he
      subst he
      obtain ⟨hx, hb2, hml, hown, hnam, hrt, hlk, hts, hG⟩ := C
      refine ⟨Nat.le_refl _, Nat.le_refl _, fun H locs ls hI hl => ?_⟩
      exact W.iret hx hb2 (hrt.trans hr) (fun t ht _ => ⟨rfl, hI.1, by rw [ht]; exact hI.2.1, by rw [ht]; exact hI.2.2.1, hI.2.2.2.F ht⟩) hI.2.2.2.2.2 hd hlk
    · cases hq
def xRetZ : xF := fun _ σ => match σ.2.1 with
  | [.int v] => match v == 0 || v == 1 with
    | true => some (.inr (some (.int v), σ.2.2))
    | false => none
  | _ => none
theorem xok_retZ (hd : decode M.2.1 pc = .ok (.ireturn, 1)) (hr : M.2.2.2 = some .boolean) : xOK sg M F (pc, xRetZ) r := by
  intro l b aS D cT d calls hcl p e s m args below meth c res C σ
  obtain ⟨loc, st, hh, cs, sl⟩ := σ
  dsimp only [xRetZ]
  split
  · trivial
  · rename_i q hq
    split at hq
    · split at hq <;> cases hq
    · cases hq
  · rename_i res' hq
    split at hq
    · rename_i v
      split at hq
      · rename_i hv
        cases hq
        intro he
        subst he
        obtain ⟨hx, hb2, hml, hown, hnam, hrt, hlk, hts, hG⟩ := C
        refine ⟨Nat.le_refl _, Nat.le_refl _, fun H locs ls hI hl => ?_⟩
        have h9 := (xfT_ok (ty := .boolean) (v := .int v) (b := b) (aS := aS) hv).1
        exact W.zret hx hb2 (hrt.trans hr) h9 (fun t ht _ => ⟨rfl, hI.1, by rw [ht]; exact hI.2.1, by rw [ht]; exact hI.2.2.1, hI.2.2.2.F ht⟩) hI.2.2.2.2.2 hd hlk
      · cases hq
    · cases hq
end XN
