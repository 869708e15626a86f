/-! ===== makings, arrays, calls, ends ===== -/
section XM
variable {sg : Nat → Option xM} {M : xM} {F r : xK} {pc pc' : Nat}
def xNew (ci N : Nat) (fs : List Value) : xF := fun _ σ => match Nat.blt σ.2.2.1.length 1000000 with
  | true => some (.inl (none, (σ.1, .ref σ.2.2.1.length :: σ.2.1, σ.2.2.1 ++ [.inr (ci, fs)], σ.2.2.2.1 + 1, σ.2.2.2.2 + N)))
  | false => none
theorem xok_new {ci N index : Nat} {Cn : String} {T : u_T} {ty0 : Nat → FieldType} {fs : List Value} (hd : decode M.2.1 pc = .ok (.new index, 3)) (hc : vwCl[ci]? = some (Cn, T, N)) (hin : ∀ w ∈ u_ws Cn T N, w ∈ xT) (hty : ∀ k, k < N → parseFieldDescriptor (T k).2.2.1 = some (ty0 k)) (hfs : ∀ j, j < N → defaultValue (ty0 j) = vp_V fs j) (hfx : ∀ (b : Nat) (aS : Nat → Nat), fs.map (xv b aS) = fs)
    (hw1 : Cond.classLink M.1.cls index Cn ∈ xT) (hw2 : Cond.instantiable Cn N ∈ xT) (hw3 : Cond.initialized Cn ∈ xT) (hn : xpc r = pc + 3) : xOK sg M F (pc, xNew ci N fs) r := by
  refine xOK_l ?_
  intro l b aS D cT d calls hcl p e s m args below meth c res C σ z hz
  obtain ⟨loc, st, hh, cs, sl⟩ := σ
  simp only [xNew] at hz
  cases hb1 : Nat.blt hh.length 1000000 with
  | false => rw [hb1] at hz; cases hz
  | true =>
    rw [hb1] at hz
    cases hz
    have hlt : hh.length < 1000000 := Nat.le_of_ble_eq_true hb1
    refine ⟨_, rfl, fun g => ⟨Nat.le_of_succ_le g.1, Nat.le_trans (Nat.le_add_right _ _) g.2.1, fun H locs ls hI hl => ?_⟩⟩
    obtain ⟨hx, hb, hml, hown, hnam, -, -, hts, hG⟩ := C
    have hKn := hG.1.1 ci _ hc
    refine W.newcK hx hb hown (hts _ hw1) (hts _ hw2) (hts _ hw3) rfl hd g.1 g.2.1 hKn.2.1 hI.2.1 fun H1 kC hkC e1 z1 o1 => ?_
    have he : va_at D vwCl (b + hh.length, xc b aS cT (.inr (ci, fs))) H1 := by
      refine ⟨_, hc, ?_⟩
      show t_OB (b + hh.length) (D.1 ci) N (D.2 ci) H1 (vp_V (fs.map (xv b aS)))
      rw [hfx]
      exact (u_born ty0 hts hin hKn hkC e1 hty).to hfs
    have g3 := g.2.2 H1 locs ls (xI_new hI hlt hG.2.2.2.1 _ he (by rw [z1, hI.2.1]) (fun q hq => o1 q (by rw [← hI.2.1]; exact hq))) hl
    dsimp only [xnx] at g3
    rw [hn, List.map_cons, xv_ref hlt] at g3
    exact g3
/-- arrays -/
def xzero (t : Nat) : (Nat → Int32) ⊕ (Nat → Int64) ⊕ (Nat → UInt32) ⊕ (Nat → UInt64) ⊕ (Nat → Option Nat) := match t with
  | 0 => .inl (fun _ => 0)
  | 1 => .inr (.inl (fun _ => 0))
  | 2 => .inl (fun _ => 0)
  | _ => .inr (.inr (.inr (.inr (fun _ => none))))
def xNewA (t : Nat) : xF := fun _ σ => match σ.2.1 with
  | .int n :: st => match decide (0 ≤ n) && (Nat.ble n.toNatClampNeg 1000000 && Nat.blt σ.2.2.1.length 1000000) with
    | true => some (.inl (none, (σ.1, .ref σ.2.2.1.length :: st, σ.2.2.1 ++ [.inl (t, n.toNatClampNeg, xzero t)], σ.2.2.2.1 + 1, σ.2.2.2.2 + n.toNatClampNeg)))
    | false => none
  | _ => none
theorem xNewA_spec {t : Nat} {calls : xC} {loc : List (Nat × Value)} {st : List Value} {h : xH} {cs sl : Nat} {z : (Option Nat × xS) ⊕ xR} (hz : xNewA t calls (loc, st, h, cs, sl) = some z) : ∃ (n : Int32) (st' : List Value), st = .int n :: st' ∧ ¬ n < 0 ∧ n.toNatClampNeg ≤ 1000000 ∧ h.length < 1000000 ∧ z = .inl (none, (loc, .ref h.length :: st', h ++ [.inl (t, n.toNatClampNeg, xzero t)], cs + 1, sl + n.toNatClampNeg)) := by
  unfold xNewA at hz
  dsimp only at hz
  split at hz
  · rename_i n st'
    cases hb : (decide (0 ≤ n) && (Nat.ble n.toNatClampNeg 1000000 && Nat.blt h.length 1000000)) with
    | false => rw [hb] at hz; cases hz
    | true =>
      rw [hb] at hz
      cases hz
      rw [Bool.and_eq_true, Bool.and_eq_true] at hb
      exact ⟨n, st', rfl, Int32.not_lt.mpr (of_decide_eq_true hb.1), Nat.le_of_ble_eq_true hb.2.1, Nat.le_of_ble_eq_true hb.2.2, rfl⟩
  · cases hz
theorem xok_newa {t : Nat} {at0 : ArrayType} (hd : decode M.2.1 pc = .ok (.newarray at0, 2)) (hw : Cond.arrayClass (newarray.typeOf at0) ∈ xT) (ht : (t, at0) = (0, .int) ∨ (t, at0) = (1, .long) ∨ (t, at0) = (2, .boolean)) (hn : xpc r = pc + 2) : xOK sg M F (pc, xNewA t) r := by
  refine xOK_l ?_
  intro l b aS D cT d calls hcl p e s m args below meth c res C σ z hz
  obtain ⟨loc, st, hh, cs, sl⟩ := σ
  obtain ⟨n, st', rfl, hn0, hnM, hlt, rfl⟩ := xNewA_spec hz
  refine ⟨_, rfl, fun g => ⟨Nat.le_of_succ_le g.1, Nat.le_trans (Nat.le_add_right _ _) g.2.1, fun H locs ls hI hl => ?_⟩⟩
  obtain ⟨hx, hb, hml, hown, hnam, -, -, hts, hG⟩ := C
  refine va_newaK hx hb (hts _ hw) rfl hd rfl hn0 rfl (by rcases ht with h | h | h <;> cases h <;> simp only [newarray.typeOf, componentBytes] <;> omega) g.1 g.2.1 hI.2.1 fun H1 cA e1 z1 o1 hAr hNm => ?_
  have he : va_at D vwCl (b + hh.length, xc b aS cT (.inl (t, n.toNatClampNeg, xzero t))) H1 := by
    show H1[b + hh.length]? = some (vp_cell (cT t) _)
    rw [e1]
    rcases ht with h | h | h
    · cases h
      have h2 := (hG.1.2 0 _ rfl).2
      rw [show cT 0 = cA from Option.some.inj (Eq.trans (Eq.symm h2) hNm)]
      rfl
    · cases h
      have h2 := (hG.1.2 1 _ rfl).2
      rw [show cT 1 = cA from Option.some.inj (Eq.trans (Eq.symm h2) hNm)]
      rfl
    · cases h
      have h2 := (hG.1.2 2 _ rfl).2
      rw [show cT 2 = cA from Option.some.inj (Eq.trans (Eq.symm h2) hNm)]
      rfl
  have g3 := g.2.2 H1 locs ls (xI_new hI hlt hG.2.2.2.1 _ he (by rw [z1, hI.2.1]) (fun q hq => o1 q (by rw [← hI.2.1]; exact hq))) hl
  dsimp only [xnx] at g3
  rw [hn, List.map_cons, xv_ref hlt] at g3
  exact g3
theorem xok_newq {index : Nat} (hd : decode M.2.1 pc = .ok (.anewarray index, 3)) (hw : Cond.classLink M.1.cls index RX6 ∈ xT) (hn : xpc r = pc + 3) : xOK sg M F (pc, xNewA 3) r := by
  refine xOK_l ?_
  intro l b aS D cT d calls hcl p e s m args below meth c res C σ z hz
  obtain ⟨loc, st, hh, cs, sl⟩ := σ
  obtain ⟨n, st', rfl, hn0, hnM, hlt, rfl⟩ := xNewA_spec hz
  refine ⟨_, rfl, fun g => ⟨Nat.le_of_succ_le g.1, Nat.le_trans (Nat.le_add_right _ _) g.2.1, fun H locs ls hI hl => ?_⟩⟩
  obtain ⟨hx, hb, hml, hown, hnam, -, -, hts, hG⟩ := C
  refine W.anew hx hb hown (hts _ hw) (va_AO.use hG.2.2.1) rfl hd rfl hn0 (by omega) g.1 g.2.1 fun cA kA comp f1 f2 f3 f4 => ?_
  obtain ⟨kA', comp', k1, k2, k3, k4⟩ := (hG.1.2 3 _ rfl).2
  have hcA : cT 3 = cA := Option.some.inj (k4.symm.trans f1)
  generalize hH1 : H.push ({ cls := cA, slots := Array.replicate n.toNatClampNeg .null, vm := .none } : Cell) = H1
  have z1 : H1.size = H.size + 1 := by rw [← hH1, Array.size_push]
  have e1 : H1[H.size]? = some (arrV cA n.toNatClampNeg (fun _ => .null)) := by rw [← hH1, Array.getElem?_push_size, ← arrV_new]
  have o1 : ∀ q : Nat, q < H.size → H1[q]? = H[q]? := fun q hq => by rw [← hH1, Array.getElem?_push, if_neg (Nat.ne_of_lt hq)]
  have he : va_at D vwCl (b + hh.length, xc b aS cT (.inl (3, n.toNatClampNeg, xzero 3))) H1 := by
    show H1[b + hh.length]? = some (vp_cell (cT 3) _)
    rw [← hI.2.1, e1, hcA]
    rfl
  have g3 := g.2.2 H1 locs ls (xI_new hI hlt hG.2.2.2.1 _ he z1 o1) hl
  dsimp only [xnx] at g3
  rw [hn, List.map_cons, xv_ref hlt, ← hI.2.1] at g3
  exact g3
def xIn (i : Int32) (n : Nat) : Bool := decide (0 ≤ i) && Nat.blt i.toNatClampNeg n
theorem xIn_ok {i : Int32} {n : Nat} (h : xIn i n = true) : vp_in i n := by
  unfold xIn at h
  rw [Bool.and_eq_true] at h
  rintro (h1 | h1)
  · exact absurd (of_decide_eq_true h.1) (Int32.not_le.mpr h1)
  · exact absurd (Nat.le_of_ble_eq_true h.2) (Nat.not_lt.mpr h1)
def xLen : xF := fun _ σ => match σ.2.1 with
  | .ref a :: st => match σ.2.2.1[a]? with
    | some (.inl q) => match Nat.blt q.1 4 with
      | true => some (.inl (none, (σ.1, .int (Int32.ofNat q.2.1) :: st, σ.2.2)))
      | false => none
    | _ => none
  | _ => none
theorem xok_len (hd : decode M.2.1 pc = .ok (.arraylength, 1)) (hn : xpc r = pc + 1) : xOK sg M F (pc, xLen) r := by
  refine xOK_l ?_
  intro l b aS D cT d calls hcl p e s m args below meth c res C σ z hz
  obtain ⟨loc, st, hh, cs, sl⟩ := σ
  simp only [xLen] at hz
  split at hz
  · split at hz
    · rename_i a st' _ q ha
      cases hb : Nat.blt q.1 4 with
      | false => rw [hb] at hz; cases hz
      | true =>
        rw [hb] at hz
        cases hz
        have hq : q.1 < 4 := Nat.le_of_ble_eq_true hb
        refine ⟨_, rfl, fun g => ⟨g.1, g.2.1, fun H locs ls hI hl => ?_⟩⟩
        obtain ⟨hx, hb, hml, hown, hnam, -, -, hts, hG⟩ := C
        have g3 := g.2.2 H locs ls hI hl
        dsimp only [xnx] at g3
        rw [hn] at g3
        dsimp only
        rw [List.map_cons, xI_lt hI ha]
        obtain ⟨ty, hty⟩ : ∃ ty, (xtys cT)[q.1]? = some (cT q.1, ty) := by
          obtain ⟨t, x⟩ := q
          match t, hq with
          | 0, _ => exact ⟨_, rfl⟩
          | 1, _ => exact ⟨_, rfl⟩
          | 2, _ => exact ⟨_, rfl⟩
          | 3, _ => exact ⟨_, rfl⟩
        exact va_alen (x := xa b aS q.2) hx hb hG.1 hI.2.2.1 a q.1 (xw_at ha) hty rfl hd g3
    · cases hz
  · cases hz
def xIal : xF := fun _ σ => match σ.2.1 with
  | .int i :: .ref a :: st => match σ.2.2.1[a]? with
    | some (.inl (0, n, .inl f)) => match xIn i n with
      | true => some (.inl (none, (σ.1, .int (f i.toNatClampNeg) :: st, σ.2.2)))
      | false => none
    | _ => none
  | _ => none
theorem xok_ial (hd : decode M.2.1 pc = .ok (.iaload, 1)) (hn : xpc r = pc + 1) : xOK sg M F (pc, xIal) r := by
  refine xOK_l ?_
  intro l b aS D cT d calls hcl p e s m args below meth c res C σ z hz
  obtain ⟨loc, st, hh, cs, sl⟩ := σ
  simp only [xIal] at hz
  split at hz
  · split at hz
    · rename_i i a st' _ n f ha
      cases hb : xIn i n with
      | false => rw [hb] at hz; cases hz
      | true =>
        rw [hb] at hz
        cases hz
        refine ⟨_, rfl, fun g => ⟨g.1, g.2.1, fun H locs ls hI hl => ?_⟩⟩
        obtain ⟨hx, hb2, hml, hown, hnam, -, -, hts, hG⟩ := C
        have g3 := g.2.2 H locs ls hI hl
        dsimp only [xnx] at g3
        rw [hn] at g3
        dsimp only
        rw [List.map_cons, List.map_cons, xI_lt hI ha]
        exact va_iald hx hb2 hG.1 hI.2.2.1 a 0 (xw_at ha) rfl (xIn_ok hb) hd g3
    · cases hz
  · cases hz
def xLal : xF := fun _ σ => match σ.2.1 with
  | .int i :: .ref a :: st => match σ.2.2.1[a]? with
    | some (.inl (1, n, .inr (.inl f))) => match xIn i n with
      | true => some (.inl (none, (σ.1, .long (f i.toNatClampNeg) :: st, σ.2.2)))
      | false => none
    | _ => none
  | _ => none
theorem xok_lal (hd : decode M.2.1 pc = .ok (.laload, 1)) (hn : xpc r = pc + 1) : xOK sg M F (pc, xLal) r := by
  refine xOK_l ?_
  intro l b aS D cT d calls hcl p e s m args below meth c res C σ z hz
  obtain ⟨loc, st, hh, cs, sl⟩ := σ
  simp only [xLal] at hz
  split at hz
  · split at hz
    · rename_i i a st' _ n f ha
      cases hb : xIn i n with
      | false => rw [hb] at hz; cases hz
      | true =>
        rw [hb] at hz
        cases hz
        refine ⟨_, rfl, fun g => ⟨g.1, g.2.1, fun H locs ls hI hl => ?_⟩⟩
        obtain ⟨hx, hb2, hml, hown, hnam, -, -, hts, hG⟩ := C
        have g3 := g.2.2 H locs ls hI hl
        dsimp only [xnx] at g3
        rw [hn] at g3
        dsimp only
        rw [List.map_cons, List.map_cons, xI_lt hI ha]
        exact va_lald hx hb2 hG.1 hI.2.2.1 a 1 (xw_at ha) rfl (xIn_ok hb) hd g3
    · cases hz
  · cases hz
end XM
