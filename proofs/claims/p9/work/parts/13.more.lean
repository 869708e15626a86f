/-! ===== more instructions; objects as they are made ===== -/
/-- what no run reaches -/
def xNone : xF := fun _ _ => none
section XO
variable {sg : Nat → Option xM} {M : xM} {F r : xK} {pc pc' : Nat}
theorem xok_none : xOK sg M F (pc, xNone) r := fun _ _ _ _ _ _ _ _ _ _ _ _ _ _ _ _ _ _ _ => trivial
def xo_l2i : List Value → Option (List Value)
  | .long x :: st => some (.int x.toInt32 :: st)
  | _ => none
theorem xp_l2i (hd : decode M.2.1 pc = .ok (.l2i, 1)) : xPr M pc (pc + 1) xo_l2i := by
  intro p l e R s m args below meth c b aS D cT C Q H locs cells slots ls st st' ho k
  unfold xo_l2i at ho
  split at ho <;> cases ho
  exact lv_l2i C.1 C.2.1 hd rfl k
def xo_lushr : List Value → Option (List Value)
  | .int y :: .long x :: st => some (.long (x.toUInt64 >>> (y.toInt64.toUInt64 &&& Int64.toUInt64 63)).toInt64 :: st)
  | _ => none
theorem xp_lushr (hd : decode M.2.1 pc = .ok (.lushr, 1)) : xPr M pc (pc + 1) xo_lushr := by
  intro p l e R s m args below meth c b aS D cT C Q H locs cells slots ls st st' ho k
  unfold xo_lushr at ho
  split at ho <;> cases ho
  exact lv_lushr C.1 C.2.1 hd rfl k
def xo_lshr : List Value → Option (List Value)
  | .int y :: .long x :: st => some (.long (x >>> (y.toInt64 &&& 63)) :: st)
  | _ => none
theorem xp_lshr (hd : decode M.2.1 pc = .ok (.lshr, 1)) : xPr M pc (pc + 1) xo_lshr := by
  intro p l e R s m args below meth c b aS D cT C Q H locs cells slots ls st st' ho k
  unfold xo_lshr at ho
  split at ho <;> cases ho
  exact lv_lshr C.1 C.2.1 hd rfl k
/-- a switch by a table -/
def xSw (lo hi : Int) (ts : List Nat) (dt : Nat) : xF := fun _ σ => match σ.2.1 with
  | .int x :: st => if x.toInt < lo ∨ hi < x.toInt then some (.inl (some dt, (σ.1, st, σ.2.2))) else match ts[(x.toInt - lo).toNat]? with
    | some t => some (.inl (some t, (σ.1, st, σ.2.2)))
    | none => none
  | _ => none
theorem xok_sw {dflt lo hi : Int} {offs : Array Int} {len dt : Nat} {ts : List Nat} (hd : decode M.2.1 pc = .ok (.tableswitch dflt lo hi offs, len)) (hts : (List.range ts.length).all (fun i => match ts[i]?, offs[i]? with
    | some t, some off => decide ((pc : Int) + off = ((xpc (F.drop t) : Nat) : Int))
    | _, _ => false) = true) (hdt : (pc : Int) + dflt = ((xpc (F.drop dt) : Nat) : Int)) : xOK sg M F (pc, xSw lo hi ts dt) r := by
  refine xOK_l ?_
  intro l b aS D cT d calls hcl p e s m args below meth c res C σ z hz
  obtain ⟨loc, st, hh, cs, sl⟩ := σ
  simp only [xSw] at hz
  split at hz
  · rename_i x st'
    split at hz
    · rename_i hx
      cases hz
      refine ⟨_, rfl, fun g => ⟨g.1, g.2.1, fun H locs ls hI hl => ?_⟩⟩
      exact lv_tableOut C.1 C.2.1 hd hx hdt (g.2.2 H locs ls hI hl)
    · rename_i hx
      split at hz
      · rename_i t ht
        cases hz
        have hlt : (x.toInt - lo).toNat < ts.length := (List.getElem?_eq_some_iff.mp ht).1
        have h1 := List.all_eq_true.mp hts _ (List.mem_range.mpr hlt)
        rw [ht] at h1
        cases ho : offs[(x.toInt - lo).toNat]? with
        | none => rw [ho] at h1; cases h1
        | some off =>
          rw [ho] at h1
          refine ⟨_, rfl, fun g => ⟨g.1, g.2.1, fun H locs ls hI hl => ?_⟩⟩
          exact lv_tableIn C.1 C.2.1 hd (fun h => hx (Or.inl h)) (fun h => hx (Or.inr h)) ho (of_decide_eq_true h1) (g.2.2 H locs ls hI hl)
      · cases hz
  · cases hz
def xMx : xF := fun _ σ => match σ.2.1 with
  | .int y :: .int x :: st => match Nat.ble (xcs st) 8 with
    | true => some (.inl (none, (σ.1, .int (if x < y then y else x) :: st, σ.2.2)))
    | false => none
  | _ => none
def xMn : xF := fun _ σ => match σ.2.1 with
  | .int y :: .int x :: st => match Nat.ble (xcs st) 8 with
    | true => some (.inl (none, (σ.1, .int (if y < x then y else x) :: st, σ.2.2)))
    | false => none
  | _ => none
theorem xw_mx : Cond.code Lib.Math.max.name Lib.Math.max.code 2 (some .int) ∈ xT := (xT_c1 37 rfl rfl)
theorem xw_mn : Cond.code Lib.Math.min.name Lib.Math.min.code 2 (some .int) ∈ xT := (xT_c1 40 rfl rfl)
theorem xw_mi : Cond.initialized "java/lang/Math" ∈ xT := (xT_c1 3 rfl rfl)
theorem xok_mmax {index : Nat} (hd : decode M.2.1 pc = .ok (.invokestatic index, 3)) (hl0 : Cond.methodLink M.1.cls index Lib.Math.max.name ∈ xT) (hn : xpc r = pc + 3) : xOK sg M F (pc, xMx) r := by
  refine xOK_l ?_
  intro l b aS D cT d calls hcl p e s m args below meth c res C σ z hz
  obtain ⟨loc, st, hh, cs, sl⟩ := σ
  simp only [xMx] at hz
  split at hz
  · rename_i y x st'
    cases hb : Nat.ble (xcs st') 8 with
    | false => rw [hb] at hz; cases hz
    | true =>
      rw [hb] at hz
      cases hz
      have h8 : xcs st' ≤ 8 := Nat.le_of_ble_eq_true hb
      refine ⟨_, rfl, fun g => ⟨g.1, g.2.1, fun H locs ls hI hl => ?_⟩⟩
      obtain ⟨hx, hb2, hml, hown, hnam, -, -, hts, hG⟩ := C
      have g3 := g.2.2 H locs ls hI hl
      dsimp only [xnx] at g3
      rw [hn] at g3
      exact va_mmax hx hb2 (hml.trans hl.1.symm) hown (hts _ hl0) (hts (.static Lib.Math.max.name) (xT_c1 36 rfl rfl)) (hts _ xw_mi) (hts _ xw_mx) (Nat.le_add_left 1 (d + 1 + 4)) (by
        rw [xcs_map]
        show xcs st' + 13 ≤ 54 * (d + 1 + 5)
        omega) g.1 g.2.1 hd g3
  · cases hz
theorem xok_mmin {index : Nat} (hd : decode M.2.1 pc = .ok (.invokestatic index, 3)) (hl0 : Cond.methodLink M.1.cls index Lib.Math.min.name ∈ xT) (hn : xpc r = pc + 3) : xOK sg M F (pc, xMn) r := by
  refine xOK_l ?_
  intro l b aS D cT d calls hcl p e s m args below meth c res C σ z hz
  obtain ⟨loc, st, hh, cs, sl⟩ := σ
  simp only [xMn] at hz
  split at hz
  · rename_i y x st'
    cases hb : Nat.ble (xcs st') 8 with
    | false => rw [hb] at hz; cases hz
    | true =>
      rw [hb] at hz
      cases hz
      have h8 : xcs st' ≤ 8 := Nat.le_of_ble_eq_true hb
      refine ⟨_, rfl, fun g => ⟨g.1, g.2.1, fun H locs ls hI hl => ?_⟩⟩
      obtain ⟨hx, hb2, hml, hown, hnam, -, -, hts, hG⟩ := C
      have g3 := g.2.2 H locs ls hI hl
      dsimp only [xnx] at g3
      rw [hn] at g3
      exact va_mmin hx hb2 (hml.trans hl.1.symm) hown (hts _ hl0) (hts (.static Lib.Math.min.name) (xT_c1 39 rfl rfl)) (hts _ xw_mi) (hts _ xw_mn) (Nat.le_add_left 1 (d + 1 + 4)) (by
        rw [xcs_map]
        show xcs st' + 13 ≤ 54 * (d + 1 + 5)
        omega) g.1 g.2.1 hd g3
  · cases hz
end XO
def xdf0 : List Value := [.null, .null, .null, .null, .int 0, .int 0, .int 0]
theorem xdf0_ok : ∀ j, j < 7 → defaultValue (tyX0 j) = vp_V xdf0 j := by decide +kernel
def xdf1 : List Value := [.null, .null, .null, .null, .null, .int 0, .int 0, .int 0]
theorem xdf1_ok : ∀ j, j < 8 → defaultValue (tyX1 j) = vp_V xdf1 j := by decide +kernel
def xdf2 : List Value := [.null, .null, .null, .null, .null, .null, .int 0, .int 0, .int 0, .int 0, .int 0, .int 0, .int 0, .int 0, .int 0]
theorem xdf2_ok : ∀ j, j < 15 → defaultValue (tyX2 j) = vp_V xdf2 j := by decide +kernel
def xdf3 : List Value := [.null, .null, .null, .null]
theorem xdf3_ok : ∀ j, j < 4 → defaultValue (tyX3 j) = vp_V xdf3 j := by decide +kernel
def xdf4 : List Value := [.null, .null, .null, .null, .null, .null, .null, .null, .null, .null, .int 0, .int 0, .int 0, .int 0, .int 0]
theorem xdf4_ok : ∀ j, j < 15 → defaultValue (tyX4 j) = vp_V xdf4 j := by decide +kernel
def xdf5 : List Value := [.null, .null, .null, .int 0]
theorem xdf5_ok : ∀ j, j < 4 → defaultValue (tyX5 j) = vp_V xdf5 j := by decide +kernel
def xdf6 : List Value := [.int 0, .null, .int 0]
theorem xdf6_ok : ∀ j, j < 3 → defaultValue (tyX6 j) = vp_V xdf6 j := by decide +kernel
def xdf7 : List Value := [.null, .null, .null, .int 0, .int 0, .int 0, .int 0, .null, .null, .null]
theorem xdf7_ok : ∀ j, j < 10 → defaultValue (tyX7 j) = vp_V xdf7 j := by decide +kernel
def xdf8 : List Value := [.null, .null, .null, .null, .null, .null, .null, .int 0, .int 0, .int 0, .int 0]
theorem xdf8_ok : ∀ j, j < 11 → defaultValue (tyX8 j) = vp_V xdf8 j := by decide +kernel
def xdf9 : List Value := [.null, .null, .null, .null, .null, .null, .null, .null]
theorem xdf9_ok : ∀ j, j < 8 → defaultValue (tyX9 j) = vp_V xdf9 j := by decide +kernel
def xdf10 : List Value := [.null, .null, .null]
theorem xdf10_ok : ∀ j, j < 3 → defaultValue (tyX10 j) = vp_V xdf10 j := by decide +kernel
def xdf11 : List Value := [.null, .null, .null, .null, .null, .null, .null, .null, .null, .null, .null, .int 0, .int 0]
theorem xdf11_ok : ∀ j, j < 13 → defaultValue (tyX11 j) = vp_V xdf11 j := by decide +kernel
def xdf12 : List Value := [.int 0, .null, .int 0, .int 0, .null, .null, .null, .int 0, .int 0, .int 0, .null, .null, .null, .null, .null, .null, .null, .null, .null, .null, .null, .null, .null, .null, .null, .null, .int 0, .int 0, .int 0, .int 0, .int 0, .null, .null, .null, .null, .null, .null, .null, .null, .null, .null, .null, .int 0, .null, .null, .null, .null, .null, .null, .null, .null, .null, .null, .null, .null, .null, .null, .null, .null, .null, .null, .null, .null, .null, .int 0, .int 0, .null, .null, .null, .null, .int 0, .int 0, .int 0, .int 0, .int 0, .int 0, .int 0, .int 0, .int 0, .null, .int 0, .int 0, .null, .null, .null, .int 0, .int 0, .int 0, .null, .null, .int 0, .int 0, .int 0, .int 0, .int 0, .int 0, .int 0, .int 0, .int 0, .null, .null, .null, .int 0, .int 0, .null, .int 0, .int 0, .int 0, .int 0, .int 0, .int 0, .int 0, .int 0, .null, .null, .null, .null, .null, .int 0, .null, .int 0, .null, .null, .null, .int 0]
theorem xdf12_ok : ∀ j, j < 125 → defaultValue (tyX12 j) = vp_V xdf12 j := by decide +kernel
def xdfL : List (List Value) := [xdf0, xdf1, xdf2, xdf3, xdf4, xdf5, xdf6, xdf7, xdf8, xdf9, xdf10, xdf11, xdf12]
