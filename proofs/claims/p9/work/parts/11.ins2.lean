/-! ===== instructions that p1's runs did not reach ===== -/
section XO2
variable {sg : Nat → Option xM} {M : xM} {F r : xK} {pc pc' : Nat}
def xo_ior : List Value → Option (List Value)
  | .int y :: .int x :: st => some (.int (x ||| y) :: st)
  | _ => none
theorem xp_ior (hd : decode M.2.1 pc = .ok (.ior, 1)) : xPr M pc (pc + 1) xo_ior := by
  intro p l e R s m args below meth c b aS D cT C Q H locs cells slots ls st st' ho k
  unfold xo_ior at ho
  split at ho <;> cases ho
  exact lv_ior C.1 C.2.1 hd k
def xo_ishl : List Value → Option (List Value)
  | .int y :: .int x :: st => some (.int (x <<< (y &&& 31)) :: st)
  | _ => none
theorem xp_ishl (hd : decode M.2.1 pc = .ok (.ishl, 1)) : xPr M pc (pc + 1) xo_ishl := by
  intro p l e R s m args below meth c b aS D cT C Q H locs cells slots ls st st' ho k
  unfold xo_ishl at ho
  split at ho <;> cases ho
  exact lv_ishl C.1 C.2.1 hd k
def xo_ishr : List Value → Option (List Value)
  | .int y :: .int x :: st => some (.int (x >>> (y &&& 31)) :: st)
  | _ => none
theorem xp_ishr (hd : decode M.2.1 pc = .ok (.ishr, 1)) : xPr M pc (pc + 1) xo_ishr := by
  intro p l e R s m args below meth c b aS D cT C Q H locs cells slots ls st st' ho k
  unfold xo_ishr at ho
  split at ho <;> cases ho
  exact lv_ishr C.1 C.2.1 hd k
def xo_irem : List Value → Option (List Value)
  | .int y :: .int x :: st => if y = 0 then none else some (.int (x - x / y * y) :: st)
  | _ => none
theorem xp_irem (hd : decode M.2.1 pc = .ok (.irem, 1)) : xPr M pc (pc + 1) xo_irem := by
  intro p l e R s m args below meth c b aS D cT C Q H locs cells slots ls st st' ho k
  unfold xo_irem at ho
  split at ho
  · split at ho
    · cases ho
    · rename_i hy
      cases ho
      exact lv_irem C.1 C.2.1 hd hy k
  · cases ho
def xo_ldiv : List Value → Option (List Value)
  | .long y :: .long x :: st => if y = 0 then none else some (.long (x / y) :: st)
  | _ => none
theorem xp_ldiv (hd : decode M.2.1 pc = .ok (.ldiv, 1)) : xPr M pc (pc + 1) xo_ldiv := by
  intro p l e R s m args below meth c b aS D cT C Q H locs cells slots ls st st' ho k
  unfold xo_ldiv at ho
  split at ho
  · split at ho
    · cases ho
    · rename_i hy
      cases ho
      exact lv_ldiv C.1 C.2.1 hd hy k
  · cases ho
def xo_lrem : List Value → Option (List Value)
  | .long y :: .long x :: st => if y = 0 then none else some (.long (x - x / y * y) :: st)
  | _ => none
theorem xp_lrem (hd : decode M.2.1 pc = .ok (.lrem, 1)) : xPr M pc (pc + 1) xo_lrem := by
  intro p l e R s m args below meth c b aS D cT C Q H locs cells slots ls st st' ho k
  unfold xo_lrem at ho
  split at ho
  · split at ho
    · cases ho
    · rename_i hy
      cases ho
      exact lv_lrem C.1 C.2.1 hd hy k
  · cases ho
theorem xs_lstore {i : Nat} (hd : decode M.2.1 pc = .ok (.lstore i, 2)) (hk : i + 1 < M.2.2.1) : xSr M pc (pc + 2) i xisL xf2 := by
  intro p l e R s m args below meth c b aS D cT C Q H locs cells slots ls st loc v hok hl kk
  cases v with
  | long x => exact lv_lstore C.1 C.2.1 hd hl hk (xf2_mp (v := .long x) loc) kk
  | _ => cases hok
theorem xs_astore {i : Nat} (hd : decode M.2.1 pc = .ok (.astore i, 2)) (hk : i < M.2.2.1) : xSr M pc (pc + 2) i xisA xf1 := by
  intro p l e R s m args below meth c b aS D cT C Q H locs cells slots ls st loc v hok hl kk
  cases v with
  | ref x => exact lv_astore C.1 C.2.1 hd hl hk (xf1_mp (v := .ref x) loc) kk
  | null => exact lv_astoreN C.1 C.2.1 hd hl hk (xf1_mp (v := .null) loc) kk
  | _ => cases hok
/-- booleans in arrays -/
def xZal : xF := fun _ σ => match σ.2.1 with
  | .int i :: .ref a :: st => match σ.2.2.1[a]? with
    | some (.inl (2, n, .inl f)) => match xIn i n with
      | true => some (.inl (none, (σ.1, .int (f i.toNatClampNeg) :: st, σ.2.2)))
      | false => none
    | _ => none
  | _ => none
theorem xok_zal (hd : decode M.2.1 pc = .ok (.baload, 1)) (hn : xpc r = pc + 1) : xOK sg M F (pc, xZal) r := by
  refine xOK_l ?_
  intro l b aS D cT d calls hcl p e s m args below meth c res C σ z hz
  obtain ⟨loc, st, hh, cs, sl⟩ := σ
  simp only [xZal] at hz
  split at hz
  · split at hz
    · rename_i i a st' _ n f ha
      cases hb : xIn i n with
      | false => rw [hb] at hz; cases hz
      | true =>
        rw [hb] at hz
        cases hz
        refine ⟨_, rfl, fun g => ⟨g.1, g.2.1, fun H locs ls hI hl => ?_⟩⟩
        obtain ⟨hx, hb2, hml, hown, hnam, -, -, hts, hG⟩ := C
        have g3 := g.2.2 H locs ls hI hl
        dsimp only [xnx] at g3
        rw [hn] at g3
        dsimp only
        rw [List.map_cons, List.map_cons, xI_lt hI ha]
        exact va_zald hx hb2 hG.1 hI.2.2.1 a 2 (xw_at ha) rfl (xIn_ok hb) hd g3
    · cases hz
  · cases hz
def xZas : xF := fun _ σ => match σ.2.1 with
  | .int x :: .int i :: .ref a :: st => match σ.2.2.1[a]? with
    | some (.inl (2, n, .inl f)) => match xIn i n && (x == 0 || x == 1) with
      | true => some (.inl (none, (σ.1, st, σ.2.2.1.set a (.inl (2, n, .inl (upd f i.toNatClampNeg x))), σ.2.2.2)))
      | false => none
    | _ => none
  | _ => none
theorem xok_zas (hd : decode M.2.1 pc = .ok (.bastore, 1)) (hn : xpc r = pc + 1) : xOK sg M F (pc, xZas) r := by
  refine xOK_l ?_
  intro l b aS D cT d calls hcl p e s m args below meth c res C σ z hz
  obtain ⟨loc, st, hh, cs, sl⟩ := σ
  simp only [xZas] at hz
  split at hz
  · split at hz
    · rename_i x i a st' _ n f ha
      cases hb : (xIn i n && (x == 0 || x == 1)) with
      | false => rw [hb] at hz; cases hz
      | true =>
        rw [hb] at hz
        cases hz
        rw [Bool.and_eq_true] at hb
        refine ⟨_, rfl, fun g => ⟨g.1, g.2.1, fun H locs ls hI hl => ?_⟩⟩
        obtain ⟨hx, hb2, hml, hown, hnam, -, -, hts, hG⟩ := C
        have h9 : narrow .boolean (.int x) = .int x := (xfT_ok (ty := .boolean) (v := .int x) (b := b) (aS := aS) hb.2).1
        dsimp only
        rw [List.map_cons, List.map_cons, List.map_cons, xI_lt hI ha]
        refine W.zast hx hb2 (hI.2.2.1 a _ (xw_at ha)) ((hG.1.2 2 _ rfl).1 n (fun j => .int (f j))) (fun q => by cases q) (by show ¬ (i < 0 ∨ (arrV _ _ _).slots.size ≤ _); rw [arrV_size]; exact xIn_ok hb.1) rfl rfl hd fun H1 e1 z1 o1 => ?_
        rw [h9] at e1
        have he : va_at D vwCl (b + a, xc b aS cT (.inl (2, n, .inl (upd f i.toNatClampNeg x)))) H1 := by
          show H1[b + a]? = some (vp_cell (cT 2) (n, .inl (upd f i.toNatClampNeg x)))
          rw [e1]
          show some ((vp_cell (cT 2) (n, .inl f)).setSlot _ _) = _
          rw [vp_cell_i, vp_cell_i, arrV_store]
          congr 2
          funext q
          by_cases hq : q = i.toNatClampNeg
          · subst hq; simp [updV, upd]
          · simp [updV, upd, hq]
        have g3 := g.2.2 H1 _ ls (xI_set (sl := i.toNatClampNeg) hI ha _ he z1 o1) hl
        dsimp only [xnx] at g3
        rw [hn] at g3
        exact g3
    · cases hz
  · cases hz
/-- a reference out of an array -/
def xAal : xF := fun _ σ => match σ.2.1 with
  | .int i :: .ref a :: st => match σ.2.2.1[a]? with
    | some (.inl (3, n, .inr (.inr (.inr (.inr f))))) => match xIn i n with
      | true => some (.inl (none, (σ.1, va_rf (f i.toNatClampNeg) :: st, σ.2.2)))
      | false => none
    | _ => none
  | _ => none
theorem xv_rf {b : Nat} {aS : Nat → Nat} (o : Option Nat) : xv b aS (va_rf o) = va_rf (o.map (xad b aS)) := by cases o <;> rfl
theorem xok_aal (hd : decode M.2.1 pc = .ok (.aaload, 1)) (hn : xpc r = pc + 1) : xOK sg M F (pc, xAal) r := by
  refine xOK_l ?_
  intro l b aS D cT d calls hcl p e s m args below meth c res C σ z hz
  obtain ⟨loc, st, hh, cs, sl⟩ := σ
  simp only [xAal] at hz
  split at hz
  · split at hz
    · rename_i i a st' _ n f ha
      cases hb : xIn i n with
      | false => rw [hb] at hz; cases hz
      | true =>
        rw [hb] at hz
        cases hz
        refine ⟨_, rfl, fun g => ⟨g.1, g.2.1, fun H locs ls hI hl => ?_⟩⟩
        obtain ⟨hx, hb2, hml, hown, hnam, -, -, hts, hG⟩ := C
        have g3 := g.2.2 H locs ls hI hl
        dsimp only [xnx] at g3
        rw [hn, List.map_cons, xv_rf] at g3
        dsimp only
        rw [List.map_cons, List.map_cons, xI_lt hI ha]
        exact va_aldq hx hb2 hG.1 hI.2.2.1 a 3 (xw_at ha) rfl (xIn_ok hb) hd g3
    · cases hz
  · cases hz
/-- a reference as the answer -/
def xRetA : xF := fun _ σ => match σ.2.1 with
  | [v] => match xisA v with
    | true => some (.inr (some v, σ.2.2))
    | false => none
  | _ => none
def xisO : Option FieldType → Bool
  | some (.object _) => true
  | some (.array _) => true
  | _ => false
theorem xok_retA (hd : decode M.2.1 pc = .ok (.areturn, 1)) (hr : xisO M.2.2.2 = true) : xOK sg M F (pc, xRetA) r := by
  intro l b aS D cT d calls hcl p e s m args below meth c res C σ
  obtain ⟨loc, st, hh, cs, sl⟩ := σ
  dsimp only [xRetA]
  split
  · trivial
  · rename_i q hq
    split at hq
    · split at hq <;> cases hq
    · cases hq
  · rename_i res' hq
    split at hq
    · rename_i v
      split at hq
      · rename_i hv
        cases hq
        intro he
        subst he
        obtain ⟨hx, hb2, hml, hown, hnam, hrt, hlk, hts, hG⟩ := C
        refine ⟨Nat.le_refl _, Nat.le_refl _, fun H locs ls hI hl => ?_⟩
        obtain ⟨rt, e1, e2⟩ : ∃ rt, M.2.2.2 = some rt ∧ ((∃ n, rt = .object n) ∨ ∃ t, rt = .array t) := by
          revert hr
          match M.2.2.2 with
          | none => exact fun h => by cases h
          | some rt =>
            intro h
            refine ⟨rt, rfl, ?_⟩
            cases rt <;> first | exact Or.inl ⟨_, rfl⟩ | exact Or.inr ⟨_, rfl⟩ | cases h
        have h9 : xv b aS v = .null ∨ ∃ a, xv b aS v = .ref a := by
          cases v <;> first | exact Or.inl rfl | exact Or.inr ⟨_, rfl⟩ | cases hv
        exact W.aret hx hb2 (hrt.trans e1) e2 h9 (fun t ht _ => ⟨rfl, hI.1, by rw [ht]; exact hI.2.1, by rw [ht]; exact hI.2.2.1, hI.2.2.2.F ht⟩) hI.2.2.2.2.2 hd hlk
      · cases hq
    · cases hq
/-- a switch by pairs: to which place of the code -/
def xLs (ps : List (Int × Int)) (dflt : Int) (g : Int → Option Nat) : xF := fun _ σ => match σ.2.1 with
  | .int x :: st => match g (Op.lookupswitch.offset ps dflt x.toInt) with
    | some t => some (.inl (some t, (σ.1, st, σ.2.2)))
    | none => none
  | _ => none
theorem xok_ls {dflt : Int} {ps : Array (Int × Int)} {len : Nat} {g : Int → Option Nat} (hd : decode M.2.1 pc = .ok (.lookupswitch dflt ps, len)) (hp : (ps.toList.zip (ps.toList.drop 1)).all (fun (a, next) => a.1 < next.1) = true) (hg : ∀ off t, g off = some t → (pc : Int) + off = ((xpc (F.drop t) : Nat) : Int)) : xOK sg M F (pc, xLs ps.toList dflt g) r := by
  refine xOK_l ?_
  intro l b aS D cT d calls hcl p e s m args below meth c res C σ z hz
  obtain ⟨loc, st, hh, cs, sl⟩ := σ
  simp only [xLs] at hz
  split at hz
  · rename_i x st'
    split at hz
    · rename_i t ht
      cases hz
      refine ⟨_, rfl, fun g1 => ⟨g1.1, g1.2.1, fun H locs ls hI hl => ?_⟩⟩
      exact lv_lookup C.1 C.2.1 hd hp rfl (hg _ _ ht) (g1.2.2 H locs ls hI hl)
    · cases hz
  · cases hz
end XO2
/-- ints from one array into another -/
def xAcp : xF := fun _ σ => match σ.2.1 with
  | .int n :: .int dp :: .ref a :: .int sp :: .ref a0 :: st => match σ.2.2.1[a0]?, σ.2.2.1[a]? with
    | some (.inl (0, n0, .inl f)), some (.inl (0, n1, .inl g)) => match (decide (0 ≤ sp) && (decide (0 ≤ dp) && decide (0 ≤ n))) && (Nat.ble (sp.toNatClampNeg + n.toNatClampNeg) n0 && (Nat.ble (dp.toNatClampNeg + n.toNatClampNeg) n1 && Nat.ble (xcs st) 8)) with
      | true => some (.inl (none, (σ.1, st, σ.2.2.1.set a (.inl (0, n1, .inl (va_cpy f g sp.toNatClampNeg dp.toNatClampNeg n.toNatClampNeg))), σ.2.2.2)))
      | false => none
    | _, _ => none
  | _ => none
theorem xnn {z : Int32} (hz : 0 ≤ z) : z.toInt = (z.toNatClampNeg : Int) := by
  have h1 : (0 : Int) ≤ z.toInt := by simpa using Int32.le_iff_toInt_le.mp hz
  show z.toInt = ((z.toInt.toNat : Nat) : Int)
  omega
theorem xok_acp {sg : Nat → Option xM} {M : xM} {F r : xK} {pc index : Nat} (hd : decode M.2.1 pc = .ok (.invokestatic index, 3)) (hl0 : Cond.methodLink M.1.cls index arraycopyName ∈ xT) (hw1 : Cond.native arraycopyName ∈ xT) (hw2 : Cond.static arraycopyName ∈ xT) (hw3 : Cond.initialized "java/lang/System" ∈ xT) (hn : xpc r = pc + 3) : xOK sg M F (pc, xAcp) r := by
  refine xOK_l ?_
  intro l b aS D cT d calls hcl p e s m args below meth c res C σ z hz
  obtain ⟨loc, st, hh, cs, sl⟩ := σ
  simp only [xAcp] at hz
  split at hz
  · split at hz
    · rename_i n dp a sp a0 st' _ _ n0 f n1 g ha0 ha
      cases hb : ((decide (0 ≤ sp) && (decide (0 ≤ dp) && decide (0 ≤ n))) && (Nat.ble (sp.toNatClampNeg + n.toNatClampNeg) n0 && (Nat.ble (dp.toNatClampNeg + n.toNatClampNeg) n1 && Nat.ble (xcs st') 8))) with
      | false => rw [hb] at hz; cases hz
      | true =>
        rw [hb] at hz
        cases hz
        simp only [Bool.and_eq_true] at hb
        have h1 : (0 : Int32) ≤ sp := of_decide_eq_true hb.1.1
        have h2 : (0 : Int32) ≤ dp := of_decide_eq_true hb.1.2.1
        have h3 : (0 : Int32) ≤ n := of_decide_eq_true hb.1.2.2
        have h4 := Nat.le_of_ble_eq_true hb.2.1
        have h5 := Nat.le_of_ble_eq_true hb.2.2.1
        have h8 : xcs st' ≤ 8 := Nat.le_of_ble_eq_true hb.2.2.2
        refine ⟨_, rfl, fun g1 => ⟨g1.1, g1.2.1, fun H locs ls hI hl => ?_⟩⟩
        obtain ⟨hx, hb2, hml, hown, hnam, -, -, hts, hG⟩ := C
        dsimp only
        rw [List.map_cons, List.map_cons, List.map_cons, List.map_cons, List.map_cons, xI_lt hI ha, xI_lt hI ha0]
        have c0 := hI.2.2.1 a0 _ (xw_at ha0)
        have c1 := hI.2.2.1 a _ (xw_at ha)
        obtain ⟨-, k0, hk0, cm0, hkk0⟩ := (hG.1.2 0 _ rfl).1 n0 (fun j => .int (f j))
        obtain ⟨-, k1, hk1, cm1, hkk1⟩ := (hG.1.2 0 _ rfl).1 n1 (fun j => .int (g j))
        intro T hT X
        obtain ⟨vm', X', step⟩ := X.arraycopy hx hown (hts _ hl0) (hts _ hw1) (hts _ hw2) (hts _ hw3) (src := b + a0) (dst := b + a) (cs := vp_cell (cT 0) (n0, .inl f)) (cd := vp_cell (cT 0) (n1, .inl g)) (srcPos := sp) (destPos := dp) (n := n) (by rw [hT]; exact c0) (by rw [hT]; exact c1) (fun _ h => by cases h) (fun _ h => by cases h) (fun h => by cases h) (fun h => by cases h) hk0 hk1 hkk0 hkk1 rfl (Int32.not_lt.mpr h1) (Int32.not_lt.mpr h2) (Int32.not_lt.mpr h3)
          (by rw [xnn h1, xnn h3]; show ¬ _ > ((arrV (cT 0) n0 (fun j => .int (f j))).slots.size : Int); rw [arrV_size]; omega)
          (by rw [xnn h2, xnn h3]; show ¬ _ > ((arrV (cT 0) n1 (fun j => .int (g j))).slots.size : Int); rw [arrV_size]; omega)
          (fun vm₁ _ i hi => by
            have e : (vp_cell (cT 0) (n0, .inl f)).slots.getD (sp.toNatClampNeg + i) .null = .int (f (sp.toNatClampNeg + i)) := by
              show (arrV (cT 0) n0 (fun j => .int (f j))).slots.getD _ _ = _
              rw [Array.getD_eq_getD_getElem?, arrV_read _ _ (by omega)]
              rfl
            rw [e]
            exact ⟨rfl, trivial⟩)
          (g := F0 m pc ls (.int n :: .int dp :: .ref (b + a) :: .int sp :: .ref (b + a0) :: st'.map (xv b aS))) rfl (hl.1.trans hml.symm) (rest := st'.map (xv b aS)) rfl (by rw [hb2]; exact hd) (Nat.le_add_left 1 (d + 1 + 4)) (by
            show 2 * 0 + ((st'.map (xv b aS)).map fun v => v.category).sum + (nativeFrameWords "java/lang/System" "arraycopy" 5 + 11) ≤ 54 * (d + 1 + 5)
            rw [xcs_map, show nativeFrameWords "java/lang/System" "arraycopy" 5 = 7 by decide +kernel]
            omega)
        have e1 : copied (vp_cell (cT 0) (n0, .inl f)) (vp_cell (cT 0) (n1, .inl g)) sp dp n = vp_cell (cT 0) (n1, .inl (va_cpy f g sp.toNatClampNeg dp.toNatClampNeg n.toNatClampNeg)) := va_copied (fun z => .int z) (cT 0) (cT 0) f g h4
        rw [e1] at X' step
        have hlt : b + a < H.size := (Array.getElem?_eq_some_iff.mp c1).1
        have key : ∀ L : List Loc, (∀ q ∈ L, b ≤ q.base) → xI b aS D cT s (H.setIfInBounds (b + a) (vp_cell (cT 0) (n1, .inl (va_cpy f g sp.toNatClampNeg dp.toNatClampNeg n.toNatClampNeg)))) (locs ++ L) (hh.set a (.inl (0, n1, .inl (va_cpy f g sp.toNatClampNeg dp.toNatClampNeg n.toNatClampNeg)))) := by
          intro L hL
          obtain ⟨i1, i2, i3, i4⟩ := hI
          have oq : ∀ q : Nat, q ≠ b + a → (H.setIfInBounds (b + a) (vp_cell (cT 0) (n1, .inl (va_cpy f g sp.toNatClampNeg dp.toNatClampNeg n.toNatClampNeg))))[q]? = H[q]? := fun q hq => by simp [Array.getElem?_setIfInBounds, Ne.symm hq]
          refine ⟨by rw [List.length_set]; exact i1, by rw [Array.size_setIfInBounds, List.length_set]; exact i2, ?_, by rw [Array.size_setIfInBounds]; exact i4.1, fun q g4 g5 => ?_, fun q hq => ?_⟩
          · rw [← xw_set (q := (b + a, xc b aS cT (.inl (0, n1, .inl (va_cpy f g sp.toNatClampNeg dp.toNatClampNeg n.toNatClampNeg))))) rfl]
            exact i3.set xw_D (xw_at ha) (show (H.setIfInBounds (b + a) _)[b + a]? = some _ by simp [Array.getElem?_setIfInBounds, hlt]; rfl) oq
          · rw [oq q (fun h => g5 (by rw [h]; exact Nat.le_add_right b a))]
            exact i4.2.1 q g4 g5
          · rcases List.mem_append.mp hq with h | h
            · exact i4.2.2 q h
            · exact hL q h
        have g3 := fun (L : List Loc) (hL : ∀ q ∈ L, b ≤ q.base) => g1.2.2 _ _ ls (key L hL) hl
        dsimp only [xnx] at g3
        rw [hn] at g3
        obtain ⟨t, a1, b1⟩ := g3 _ (fun q hq => by
          obtain ⟨z, -, hz⟩ := List.mem_map.mp hq
          rw [← hz]
          exact Nat.le_add_right b a) _ (by rw [← hT]; rfl) X'
        exact ⟨t, step t a1, b1⟩
    · cases hz
  · cases hz
theorem xok_callVN {sg : Nat → Option xM} {M : xM} {F r : xK} {pc i n ci index N : Nat} {M' : xM} {T : u_T} {host : String} (hs : sg i = some M') (hc : vwCl[ci]? = some (M'.1.cls, T, N)) (hd : decode M.2.1 pc = .ok (.invokevirtual index, 3)) (hB : xcB M' n) (hin : Cond.instanceMethod M'.1 ∈ xT) (hse : Cond.selects M'.1.cls M'.1 M'.1 ∈ xT) (hl0 : Cond.methodLinkNest M.1.cls index M'.1 host ∈ xN) (hn : xpc r = pc + 3) : xOK sg M F (pc, xCall i (n + 1) (some ci)) r := by
  refine xOK_l ?_
  intro l b aS D cT d calls hcl p e s m args below meth c res C σ z hz
  obtain ⟨loc, st, hh, cs, sl⟩ := σ
  obtain ⟨vs, rest, res1, rfl, hvl, h8, hrc, hcall, rfl⟩ := xCall_spec hz
  obtain ⟨a, As, fs, rfl, ha⟩ := xrc_spec hrc
  refine ⟨_, rfl, fun g => ⟨Nat.le_trans (Nat.le_add_right _ _) g.1, Nat.le_trans (Nat.le_add_right _ _) g.2.1, fun H locs ls hI hl => ?_⟩⟩
  obtain ⟨hx, hb2, hml, hown, hnam, -, -, hts, hG⟩ := C
  have hM := hcl i _ hh res1 M' hcall hs
  have cb := va_cnB (R := xrm (d + 1) res) (rm := xrm d res1) n hts (xws_good hB) rfl rfl rfl (hG.2.1 _ hl0) (hts _ hB.2.1) hB.2.2.1 (xroom hB)
  have hpa := xPre_at (vs := (Value.ref a :: As).map (xv b aS)) hG hI
  dsimp only
  rw [xst_map]
  rw [List.map_cons, xI_lt hI ha] at hM hpa ⊢
  refine xcall_W (va_runVN (C := M'.1.cls) (As := As.map (xv b aS)) (rest := rest.map (xv b aS)) ⟨hx, hb2, hml, hown, hts⟩ hM ⟨cb, hts _ hin, hts _ hse⟩ ⟨xPre_blind, va_recv hG.1 hI.2.2.1 hc (xw_at ha), hpa⟩ rfl (by rw [List.length_map]; exact Nat.succ.inj hvl) hl.1 (by simp) (lv_room (by rw [xcs_map]; exact h8)) hd ⟨g.1, g.2.1⟩) hI.2.2.2 (fun H1 locs1 hI1 => ?_)
  have g3 := g.2.2 H1 locs1 ls hI1 hl
  dsimp only [xnx] at g3
  rw [hn, xres_map] at g3
  exact g3
