/-! ===== fields, arrays, makings ===== -/
theorem xT_all {ws : List Cond} (ps : List Nat) (h : ps.map (fun i => lw_tbl[i]?) = ws.map some) (hg : ws.all goodWord = true) : ∀ w ∈ ws, w ∈ xT := by
  intro w hw
  have h1 : some w ∈ ws.map some := List.mem_map.mpr ⟨w, hw, rfl⟩
  rw [← h] at h1
  obtain ⟨i, -, hi⟩ := List.mem_map.mp h1
  exact List.mem_filter.mpr ⟨List.mem_of_getElem? hi, List.all_eq_true.mp hg w hw⟩
section XC
variable {sg : Nat → Option xM} {M : xM} {F r : xK} {pc pc' : Nat}
theorem xI_set {b : Nat} {aS : Nat → Nat} {D : va_G} {cT : Nat → ClassId} {s : State} {H H1 : Heap} {locs : List Loc} {h : xH} {k sl : Nat} {c0 : xE} (hI : xI b aS D cT s H locs h) (hk : h[k]? = some c0) (c1 : xE) (he : va_at D vwCl (b + k, xc b aS cT c1) H1) (hz : H1.size = H.size) (ho : ∀ q : Nat, q ≠ b + k → H1[q]? = H[q]?) : xI b aS D cT s H1 (locs ++ [⟨b + k, sl⟩]) (h.set k c1) := by
  obtain ⟨i1, i2, i3, i4⟩ := hI
  refine ⟨by rw [List.length_set]; exact i1, by rw [hz, List.length_set]; exact i2, ?_, i4.put hz ho (Nat.le_add_right b k)⟩
  rw [← xw_set (q := (b + k, xc b aS cT c1)) rfl]
  exact i3.set xw_D (xw_at hk) he ho
theorem xI_new {b : Nat} {aS : Nat → Nat} {D : va_G} {cT : Nat → ClassId} {s : State} {H H1 : Heap} {locs : List Loc} {h : xH} (hI : xI b aS D cT s H locs h) (hl : h.length < 1000000) (hbs : b ≤ s.heap.size) (c1 : xE) (he : va_at D vwCl (b + h.length, xc b aS cT c1) H1) (hz : H1.size = H.size + 1) (ho : ∀ q : Nat, q < H.size → H1[q]? = H[q]?) : xI b aS D cT s H1 locs (h ++ [c1]) := by
  obtain ⟨i1, i2, i3, i4⟩ := hI
  refine ⟨by rw [List.length_append]; exact hl, by rw [hz, List.length_append, i2]; rfl, ?_, by rw [hz]; exact Nat.le_succ_of_le i4.1, fun q h1 h2 => (ho q (Nat.lt_of_lt_of_le h1 i4.1)).trans (i4.2.1 q h1 h2), i4.2.2⟩
  rw [← xw_push (q := (b + h.length, xc b aS cT c1)) rfl]
  refine va_P.app (i3.kept (fun k q hq => ho q.1 (i3 k q hq).lt)) (fun k q hq => ?_)
  have hz : k < 1 := (List.getElem?_eq_some_iff.mp hq).1
  rw [show k = 0 by omega] at hq
  cases hq
  exact he
theorem xI_lt {b : Nat} {aS : Nat → Nat} {D : va_G} {cT : Nat → ClassId} {s : State} {H : Heap} {locs : List Loc} {h : xH} {k : Nat} {c0 : xE} (hI : xI b aS D cT s H locs h) (hk : h[k]? = some c0) : xv b aS (.ref k) = .ref (b + k) := xv_ref (Nat.lt_of_lt_of_le (List.getElem?_eq_some_iff.mp hk).1 hI.1)
/-- a field is read -/
def xGet (ci k : Nat) : xF := fun _ σ => match σ.2.1 with
  | .ref a :: st => match σ.2.2.1[a]? with
    | some (.inr q) => match Nat.beq q.1 ci with
      | true => match q.2[k]? with
        | some v => some (.inl (none, (σ.1, v :: st, σ.2.2)))
        | none => none
      | false => none
    | _ => none
  | _ => none
theorem xGet_spec {ci k : Nat} {calls : xC} {loc : List (Nat × Value)} {st : List Value} {h : xH} {cs sl : Nat} {z : (Option Nat × xS) ⊕ xR} (hz : xGet ci k calls (loc, st, h, cs, sl) = some z) : ∃ (a : Nat) (st' : List Value) (fs : List Value) (v : Value), st = .ref a :: st' ∧ h[a]? = some (.inr (ci, fs)) ∧ fs[k]? = some v ∧ z = .inl (none, (loc, v :: st', h, cs, sl)) := by
  unfold xGet at hz
  dsimp only at hz
  split at hz
  · split at hz
    · rename_i a st' _ q hq
      cases hb : Nat.beq q.1 ci with
      | false => rw [hb] at hz; cases hz
      | true =>
        rw [hb] at hz
        dsimp only at hz
        have e := Nat.eq_of_beq_eq_true hb
        subst e
        split at hz
        · rename_i v hv
          cases hz
          exact ⟨a, st', q.2, v, rfl, hq, hv, rfl⟩
        · cases hz
    · cases hz
  · cases hz
theorem xok_get {ci k index N : Nat} {Cn : String} {T : u_T} (hd : decode M.2.1 pc = .ok (.getfield index, 3)) (hc : vwCl[ci]? = some (Cn, T, N)) (hin : ∀ w ∈ u_ws Cn T N, w ∈ xT) (hk : k < N) (hw : Cond.fieldLink M.1.cls index (T k).1 (T k).2.1 (T k).2.2.1 ∈ xT) (hn : xpc r = pc + 3) : xOK sg M F (pc, xGet ci k) r := by
  refine xOK_l ?_
  intro l b aS D cT d calls hcl p e s m args below meth c res C σ z hz
  obtain ⟨loc, st, hh, cs, sl⟩ := σ
  obtain ⟨a, st', fs, v, rfl, ha, hv, rfl⟩ := xGet_spec hz
  refine ⟨_, rfl, fun g => ⟨g.1, g.2.1, fun H locs ls hI hl => ?_⟩⟩
  obtain ⟨hx, hb, hml, hown, -, -, -, hts, hG⟩ := C
  have g3 := g.2.2 H locs ls hI hl
  dsimp only [xnx] at g3
  rw [hn] at g3
  dsimp only
  rw [List.map_cons, xI_lt hI ha]
  exact va_get (v := xv b aS v) hx hb hts hin hown hG.1 hI.2.2.1 a (xw_at ha) hc k hk (hts _ hw) (fun _ h => h) (by rw [List.getElem?_map, hv]; rfl) hd g3
theorem xok_getN {ci k index N : Nat} {Cn host : String} {T : u_T} (hd : decode M.2.1 pc = .ok (.getfield index, 3)) (hc : vwCl[ci]? = some (Cn, T, N)) (hin : ∀ w ∈ u_ws Cn T N, w ∈ xT) (hk : k < N) (hw : Cond.fieldLinkNest M.1.cls index (T k).1 (T k).2.1 (T k).2.2.1 host ∈ xN) (hn : xpc r = pc + 3) : xOK sg M F (pc, xGet ci k) r := by
  refine xOK_l ?_
  intro l b aS D cT d calls hcl p e s m args below meth c res C σ z hz
  obtain ⟨loc, st, hh, cs, sl⟩ := σ
  obtain ⟨a, st', fs, v, rfl, ha, hv, rfl⟩ := xGet_spec hz
  refine ⟨_, rfl, fun g => ⟨g.1, g.2.1, fun H locs ls hI hl => ?_⟩⟩
  obtain ⟨hx, hb, hml, hown, -, -, -, hts, hG⟩ := C
  have g3 := g.2.2 H locs ls hI hl
  dsimp only [xnx] at g3
  rw [hn] at g3
  dsimp only
  rw [List.map_cons, xI_lt hI ha]
  exact va_getN (v := xv b aS v) hx hb hts hin hown hG.1 hI.2.2.1 a (xw_at ha) hc k hk (va_Nw.use rfl (hG.2.1 _ hw)) (fun _ h => h) (by rw [List.getElem?_map, hv]; rfl) hd g3
/-- what a field of a type may hold -/
def xfT : Nat → Value → Bool
  | 0, .int _ => true
  | 1, .int x => x == 0 || x == 1
  | 2, .ref _ => true
  | 2, .null => true
  | 3, .long _ => true
  | _, _ => false
def xtg : FieldType → Nat
  | .int => 0
  | .boolean => 1
  | .object _ => 2
  | .array _ => 2
  | .long => 3
  | _ => 9
theorem xfT_ok {ty : FieldType} {v : Value} {b : Nat} {aS : Nat → Nat} (h : xfT (xtg ty) v = true) : narrow ty (xv b aS v) = xv b aS v ∧ fits ty (xv b aS v) = true := by
  cases ty with
  | boolean =>
    cases v with
    | int x =>
      have h1 : (x == 0 || x == 1) = true := h
      refine ⟨?_, h1⟩
      rcases Bool.or_eq_true _ _ |>.mp h1 with h2 | h2
      · rw [show x = 0 from eq_of_beq h2]; rfl
      · rw [show x = 1 from eq_of_beq h2]; rfl
    | _ => cases h
  | int => cases v with
    | int x => exact ⟨rfl, rfl⟩
    | _ => cases h
  | long => cases v with
    | long x => exact ⟨rfl, rfl⟩
    | _ => cases h
  | object n => cases v with
    | ref x => exact ⟨rfl, rfl⟩
    | null => exact ⟨rfl, rfl⟩
    | _ => cases h
  | array n => cases v with
    | ref x => exact ⟨rfl, rfl⟩
    | null => exact ⟨rfl, rfl⟩
    | _ => cases h
  | _ => cases v <;> cases h
def xPut (ci k t : Nat) : xF := fun _ σ => match σ.2.1 with
  | v :: .ref a :: st => match σ.2.2.1[a]? with
    | some (.inr q) => match Nat.beq q.1 ci && (Nat.blt k q.2.length && xfT t v) with
      | true => some (.inl (none, (σ.1, st, σ.2.2.1.set a (.inr (ci, q.2.set k v)), σ.2.2.2)))
      | false => none
    | _ => none
  | _ => none
theorem xPut_spec {ci k t : Nat} {calls : xC} {loc : List (Nat × Value)} {st : List Value} {h : xH} {cs sl : Nat} {z : (Option Nat × xS) ⊕ xR} (hz : xPut ci k t calls (loc, st, h, cs, sl) = some z) : ∃ (a : Nat) (st' : List Value) (fs : List Value) (v : Value), st = v :: .ref a :: st' ∧ h[a]? = some (.inr (ci, fs)) ∧ k < fs.length ∧ xfT t v = true ∧ z = .inl (none, (loc, st', h.set a (.inr (ci, fs.set k v)), cs, sl)) := by
  unfold xPut at hz
  dsimp only at hz
  split at hz
  · split at hz
    · rename_i v a st' _ q hq
      cases hb : (Nat.beq q.1 ci && (Nat.blt k q.2.length && xfT t v)) with
      | false => rw [hb] at hz; cases hz
      | true =>
        rw [hb] at hz
        cases hz
        rw [Bool.and_eq_true, Bool.and_eq_true] at hb
        have e := Nat.eq_of_beq_eq_true hb.1
        subst e
        exact ⟨a, st', q.2, v, rfl, hq, Nat.le_of_ble_eq_true hb.2.1, hb.2.2, rfl⟩
    · cases hz
  · cases hz
theorem xput_core {b : Nat} {aS : Nat → Nat} {D : va_G} {cT : Nat → ClassId} {s : State} {args : Array Value} {H : Heap} {locs : List Loc} {h : xH} {a ci k N : Nat} {fs : List Value} {Cn : String} {T : u_T} {ty0 : Nat → FieldType} (hts : ∀ w ∈ xT, w.before args s = true) (hK : va_K D vwCl (xtys cT) s) (hI : xI b aS D cT s H locs h) (hh : h[a]? = some (.inr (ci, fs))) (hc : vwCl[ci]? = some (Cn, T, N)) (hin : ∀ w ∈ u_ws Cn T N, w ∈ xT)
    (hty : ∀ k, k < N → parseFieldDescriptor (T k).2.2.1 = some (ty0 k)) (hnm : ∀ a, a < N → ∀ b, b < N → a ≠ b → (T a).2.1 ≠ (T b).2.1) (hk : k < N) (hl : k < fs.length) :
    ∃ (cell : Cell) (cf : ClassId) (kf : Class) (fi : Nat) (f : Field) (kC : Class), s.fieldFound? (T k).1 (T k).2.1 (T k).2.2.1 = some (cf, kf, fi, f) ∧ f.isStatic = false ∧ H[b + a]? = some cell ∧ cell.vm = .none ∧ f.slot < cell.slots.size ∧ cell.cls = D.1 ci ∧ s.vm.findClass Cn = some (D.1 ci) ∧ s.vm.classes[D.1 ci]? = some kC ∧ kC.kind = .ordinary ∧
      ∀ (H1 : Heap) (v : Value), H1[b + a]? = some (cell.setSlot f.slot (xv b aS v)) → va_at D vwCl (b + a, xc b aS cT (.inr (ci, fs.set k v))) H1 := by
  have hap := va_apart (own := Cn) hts hin ty0 hty hnm hK hc
  obtain ⟨r, h1, cell, q1, q2, q3, q4⟩ := hI.2.2.1 a _ (xw_at hh)
  have hr : r = (Cn, T, N) := Option.some.inj (h1.symm.trans hc)
  subst hr
  obtain ⟨hS, hfc, kC, hkC, hkind⟩ := hK.1 ci _ hc
  obtain ⟨cf, kf, fi, f, hi, hsl⟩ := hS k hk
  refine ⟨cell, cf, kf, fi, f, kC, hi, (u_facts hfc hkC (u_lays hts hin hk) hi).1, q1, q3, by rw [hsl]; exact k2_hasslot (q4 k hk), q2, hfc, hkC, hkind, fun H1 v e1 => ?_⟩
  refine ⟨_, hc, ?_⟩
  show t_OB (b + a) (D.1 ci) N (D.2 ci) H1 (vp_V ((fs.set k v).map (xv b aS)))
  rw [List.map_set]
  rw [hsl] at e1
  exact t_OB.to (V := updV (vp_V (fs.map (xv b aS))) k (xv b aS v)) ⟨_, e1, q2, q3, t_set q4 hap hk _⟩ (fun j _ => vp_updV_set (by rw [List.length_map]; exact hl) _ j)
theorem xok_put {ci k index N : Nat} {Cn : String} {T : u_T} {ty0 : Nat → FieldType} (hd : decode M.2.1 pc = .ok (.putfield index, 3)) (hc : vwCl[ci]? = some (Cn, T, N)) (hin : ∀ w ∈ u_ws Cn T N, w ∈ xT) (hty : ∀ k, k < N → parseFieldDescriptor (T k).2.2.1 = some (ty0 k)) (hnm : ∀ a, a < N → ∀ b, b < N → a ≠ b → (T a).2.1 ≠ (T b).2.1) (hk : k < N) (hfin : (T k).2.2.2 = false) (hw : Cond.fieldLink M.1.cls index (T k).1 (T k).2.1 (T k).2.2.1 ∈ xT) (hn : xpc r = pc + 3) : xOK sg M F (pc, xPut ci k (xtg (ty0 k))) r := by
  refine xOK_l ?_
  intro l b aS D cT d calls hcl p e s m args below meth c res C σ z hz
  obtain ⟨loc, st, hh, cs, sl⟩ := σ
  obtain ⟨a, st', fs, v, rfl, ha, hkl, hv, rfl⟩ := xPut_spec hz
  refine ⟨_, rfl, fun g => ⟨g.1, g.2.1, fun H locs ls hI hl => ?_⟩⟩
  obtain ⟨hx, hb, hml, hown, -, -, -, hts, hG⟩ := C
  obtain ⟨cell, cf, kf, fi, f, kC, w1, w2, w3, w4, w5, w6, w7, w8, w9, w10⟩ := xput_core hts hG.1 hI ha hc hin hty hnm hk hkl
  have hlay := hts _ (hin _ (u_in_lay hk))
  unfold u_lay at hlay
  rw [if_neg (by rw [hfin]; decide)] at hlay
  obtain ⟨n1, n2⟩ := xfT_ok (b := b) (aS := aS) hv
  have h6 := u_store w7 w8 w9 hlay w1 (hty k hk) n1 n2
  dsimp only
  rw [List.map_cons, List.map_cons, xI_lt hI ha]
  refine W.putK hx hb (f := f) ⟨hown, hts _ hw, ⟨_, _, _, w1⟩, w2⟩ (by rw [w6]; exact h6) w3 w4 w5 rfl rfl hd fun H' e1 e2 e3 => ?_
  have g3 := g.2.2 H' _ ls (xI_set (sl := f.slot) hI ha (.inr (ci, fs.set k v)) (w10 H' v e1) e2 e3) hl
  dsimp only [xnx] at g3
  rw [hn] at g3
  exact g3
theorem xok_putN {ci k index N : Nat} {Cn host : String} {T : u_T} {ty0 : Nat → FieldType} (hd : decode M.2.1 pc = .ok (.putfield index, 3)) (hc : vwCl[ci]? = some (Cn, T, N)) (hin : ∀ w ∈ u_ws Cn T N, w ∈ xT) (hty : ∀ k, k < N → parseFieldDescriptor (T k).2.2.1 = some (ty0 k)) (hnm : ∀ a, a < N → ∀ b, b < N → a ≠ b → (T a).2.1 ≠ (T b).2.1) (hk : k < N) (hfin : (T k).2.2.2 = false) (hw : Cond.fieldLinkNest M.1.cls index (T k).1 (T k).2.1 (T k).2.2.1 host ∈ xN) (hn : xpc r = pc + 3) : xOK sg M F (pc, xPut ci k (xtg (ty0 k))) r := by
  refine xOK_l ?_
  intro l b aS D cT d calls hcl p e s m args below meth c res C σ z hz
  obtain ⟨loc, st, hh, cs, sl⟩ := σ
  obtain ⟨a, st', fs, v, rfl, ha, hkl, hv, rfl⟩ := xPut_spec hz
  refine ⟨_, rfl, fun g => ⟨g.1, g.2.1, fun H locs ls hI hl => ?_⟩⟩
  obtain ⟨hx, hb, hml, hown, -, -, -, hts, hG⟩ := C
  obtain ⟨cell, cf, kf, fi, f, kC, w1, w2, w3, w4, w5, w6, w7, w8, w9, w10⟩ := xput_core hts hG.1 hI ha hc hin hty hnm hk hkl
  have hlay := hts _ (hin _ (u_in_lay hk))
  unfold u_lay at hlay
  rw [if_neg (by rw [hfin]; decide)] at hlay
  obtain ⟨n1, n2⟩ := xfT_ok (b := b) (aS := aS) hv
  have h6 := u_store w7 w8 w9 hlay w1 (hty k hk) n1 n2
  dsimp only
  rw [List.map_cons, List.map_cons, xI_lt hI ha]
  refine va_WputK hx hb (f := f) hown (va_Nw.use rfl (hG.2.1 _ hw)) w1 w2 (by rw [w6]; exact h6) w3 w4 w5 rfl rfl hd fun H' e1 e2 e3 => ?_
  have g3 := g.2.2 H' _ ls (xI_set (sl := f.slot) hI ha (.inr (ci, fs.set k v)) (w10 H' v e1) e2 e3) hl
  dsimp only [xnx] at g3
  rw [hn] at g3
  exact g3
theorem xok_putF {ci k index N : Nat} {Cn : String} {T : u_T} {ty0 : Nat → FieldType} (hd : decode M.2.1 pc = .ok (.putfield index, 3)) (hc : vwCl[ci]? = some (Cn, T, N)) (hin : ∀ w ∈ u_ws Cn T N, w ∈ xT) (hty : ∀ k, k < N → parseFieldDescriptor (T k).2.2.1 = some (ty0 k)) (hnm : ∀ a, a < N → ∀ b, b < N → a ≠ b → (T a).2.1 ≠ (T b).2.1) (hk : k < N) (hfin : (T k).2.2.2 = true) (hini : M.1.name = "<init>") (hdecl : (T k).1 = M.1.cls) (hw : Cond.fieldLink M.1.cls index (T k).1 (T k).2.1 (T k).2.2.1 ∈ xT) (hn : xpc r = pc + 3) : xOK sg M F (pc, xPut ci k (xtg (ty0 k))) r := by
  refine xOK_l ?_
  intro l b aS D cT d calls hcl p e s m args below meth c res C σ z hz
  obtain ⟨loc, st, hh, cs, sl⟩ := σ
  obtain ⟨a, st', fs, v, rfl, ha, hkl, hv, rfl⟩ := xPut_spec hz
  refine ⟨_, rfl, fun g => ⟨g.1, g.2.1, fun H locs ls hI hl => ?_⟩⟩
  obtain ⟨hx, hb, hml, hown, hnam, -, -, hts, hG⟩ := C
  obtain ⟨cell, cf, kf, fi, f, kC, w1, w2, w3, w4, w5, w6, w7, w8, w9, w10⟩ := xput_core hts hG.1 hI ha hc hin hty hnm hk hkl
  have hlay := hts _ (hin _ (u_in_lay hk))
  unfold u_lay at hlay
  rw [if_pos hfin] at hlay
  have hcf : m.cls = cf := by
    obtain ⟨_, _, c', _, _, _, -, -, hf', -, -, -, hown2, -⟩ := Cond.laysFinal_spec hlay
    have e1 : c' = cf := (Prod.mk.inj (Option.some.inj (w1.symm.trans hf'))).1.symm
    rw [hdecl] at hown2
    rw [← e1]
    exact Option.some.inj (hown.symm.trans hown2)
  obtain ⟨n1, n2⟩ := xfT_ok (b := b) (aS := aS) hv
  have h6 := u_fits w7 w8 w9 (Or.inr hlay) w1 (hty k hk) n1 n2
  dsimp only
  rw [List.map_cons, List.map_cons, xI_lt hI ha]
  refine W.putFinK hx hb hown (hts _ hw) w1 w2 hcf (hnam.trans hini) (by rw [w6]; exact h6) w3 w4 w5 rfl rfl hd fun H' e1 e2 e3 => ?_
  have g3 := g.2.2 H' _ ls (xI_set (sl := f.slot) hI ha (.inr (ci, fs.set k v)) (w10 H' v e1) e2 e3) hl
  dsimp only [xnx] at g3
  rw [hn] at g3
  exact g3
end XC
