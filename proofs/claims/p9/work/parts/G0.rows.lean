/-! ===== the class: Rows ===== -/
theorem fk_row : ∀ b ∈ rowL, (fk b).length = 3 ∧ lim b ≤ 100000 ∧ b < 213 := by decide +kernel
/-- what stands at a Row -/
theorem row_of {h : xH} {a : Nat} (hI : INV h) (ha : a ∈ rowL) : ∃ (c n : Nat) (f : Nat → Int32) (z : Value), h[a]? = some (.inr (6, [.int (Int32.ofNat (lim a)), .ref c, z])) ∧ h[c]? = some (.inl (0, n, .inl f)) ∧ rc h a = some (c, n, f) ∧ 9 ≤ n ∧ n ≤ lim a ∧ (c < 213 ∨ 288 ≤ c) ∧ ∀ i, i < n → cki a i (f i) := by
  obtain ⟨hT, ⟨r1, r2, r3, r4⟩, hl, hE⟩ := hI
  have h6 := rowL_6 a ha
  obtain ⟨f1, f2, f3⟩ := fk_row a ha
  obtain ⟨fs, e1, e2, -⟩ := hT a f3 (by omega)
  obtain ⟨q0, c, n, f, q1, q2, q3, q4, q5⟩ := r1 a ha
  rw [h6] at e1
  rw [f1] at e2
  have ef : ∀ k, fld h a k = fs[k]? := fun k => by
    unfold fld
    rw [e1]
  match fs, e2 with
  | [v0, v1, v2], _ =>
    have q0 : some v0 = some (Value.int (Int32.ofNat (lim a))) := (ef 0).symm.trans q0
    cases q0
    have q1' := q1
    unfold rc at q1
    rw [ef 1] at q1
    dsimp only [List.getElem?_cons_succ, List.getElem?_cons_zero] at q1
    split at q1
    · rename_i c' hc'
      cases hc'
      split at q1
      · rename_i n' f' hc2
        cases q1
        exact ⟨c, n, f, v2, e1, hc2, q1', q2, q3, q4, q5⟩
      · cases q1
    · cases q1
theorem iN {n : Nat} (h : n ≤ 1000000) : (Int32.ofNat n).toInt = (n : Int) := nI_toInt (by omega)
section ROW
variable {d : Nat} {h : xH} {a c n : Nat} {f : Nat → Int32} {z : Value} {x : Int32}
theorem rbt {cnd : List Value → Option (Bool × List Value)} {t : Nat} {calls : xC} {loc : cLoc} {st st' : List Value} {hh : xH} {cs sl : Nat} (hc : cnd st = some (true, st')) : xBr cnd t calls (loc, st, hh, cs, sl) = some (.inl (some t, (loc, st', hh, cs, sl))) := by
  unfold xBr
  dsimp only
  rw [hc]
theorem rbf {cnd : List Value → Option (Bool × List Value)} {t : Nat} {calls : xC} {loc : cLoc} {st st' : List Value} {hh : xH} {cs sl : Nat} (hc : cnd st = some (false, st')) : xBr cnd t calls (loc, st, hh, cs, sl) = some (.inl (none, (loc, st', hh, cs, sl))) := by
  unfold xBr
  dsimp only
  rw [hc]
theorem rget {ci k : Nat} {calls : xC} {loc : cLoc} {st fs : List Value} {v : Value} {hh : xH} {cs sl : Nat} (e : hh[a]? = some (.inr (ci, fs))) (hk : fs[k]? = some v) : xGet ci k calls (loc, .ref a :: st, hh, cs, sl) = some (.inl (none, (loc, v :: st, hh, cs, sl))) := by
  unfold xGet
  dsimp only
  rw [e]
  dsimp only
  rw [Nat.beq_refl, hk]
theorem rlen {calls : xC} {loc : cLoc} {st : List Value} {hh : xH} {cs sl : Nat} (e : hh[c]? = some (.inl (0, n, .inl f))) : xLen calls (loc, .ref c :: st, hh, cs, sl) = some (.inl (none, (loc, .int (Int32.ofNat n) :: st, hh, cs, sl))) := by
  unfold xLen
  dsimp only
  rw [e]
  rfl
theorem rial {i : Int32} {calls : xC} {loc : cLoc} {st : List Value} {hh : xH} {cs sl : Nat} (e : hh[c]? = some (.inl (0, n, .inl f))) (hi : 0 ≤ i.toInt ∧ i.toInt < (n : Int)) : xIal calls (loc, .int i :: .ref c :: st, hh, cs, sl) = some (.inl (none, (loc, .int (f i.toInt.toNat) :: st, hh, cs, sl))) := by
  unfold xIal
  dsimp only
  rw [e]
  show (match xIn i n with
    | true => some (Sum.inl (none, (loc, Value.int (f i.toNatClampNeg) :: st, hh, cs, sl)))
    | false => none) = _
  rw [i_in rfl hi]
  rfl
theorem rias {i v : Int32} {calls : xC} {loc : cLoc} {st : List Value} {hh : xH} {cs sl : Nat} (e : hh[c]? = some (.inl (0, n, .inl f))) (hi : 0 ≤ i.toInt ∧ i.toInt < (n : Int)) : xIas calls (loc, .int v :: .int i :: .ref c :: st, hh, cs, sl) = some (.inl (none, (loc, st, hh.set c (.inl (0, n, .inl (upd f i.toInt.toNat v))), cs, sl))) := by
  unfold xIas
  dsimp only
  rw [e]
  show (match xIn i n with
    | true => some (Sum.inl (none, (loc, st, hh.set c (.inl (0, n, .inl (upd f i.toNatClampNeg v))), cs, sl)))
    | false => none) = _
  rw [i_in rfl hi]
  rfl
theorem rnew {m : Int32} {calls : xC} {loc : cLoc} {st : List Value} {hh : xH} {cs sl : Nat} (h1 : 0 ≤ m.toInt) (h2 : m.toInt ≤ 1000000) (hl : hh.length < 1000000) : xNewA 0 calls (loc, .int m :: st, hh, cs, sl) = some (.inl (none, (loc, .ref hh.length :: st, hh ++ [.inl (0, m.toInt.toNat, .inl (fun _ => 0))], cs + 1, sl + m.toInt.toNat))) := by
  unfold xNewA
  dsimp only
  rw [decide_eq_true ((i_le i0 rfl).mpr (by omega)), Nat.ble_eq_true_of_le (show m.toNatClampNeg ≤ 1000000 by show m.toInt.toNat ≤ _; omega), show Nat.blt hh.length 1000000 = true from Nat.ble_eq_true_of_le hl]
  rfl
theorem rmn {u v : Int32} {calls : xC} {loc : cLoc} {st : List Value} {hh : xH} {cs sl : Nat} (hs : xcs st ≤ 8) : xMn calls (loc, .int v :: .int u :: st, hh, cs, sl) = some (.inl (none, (loc, .int (if v < u then v else u) :: st, hh, cs, sl))) := by
  unfold xMn
  dsimp only
  rw [Nat.ble_eq_true_of_le hs]
theorem rmx {u v : Int32} {calls : xC} {loc : cLoc} {st : List Value} {hh : xH} {cs sl : Nat} (hs : xcs st ≤ 8) : xMx calls (loc, .int v :: .int u :: st, hh, cs, sl) = some (.inl (none, (loc, .int (if u < v then v else u) :: st, hh, cs, sl))) := by
  unfold xMx
  dsimp only
  rw [Nat.ble_eq_true_of_le hs]
theorem racp {c2 m : Nat} {g : Nat → Int32} {calls : xC} {loc : cLoc} {hh : xH} {cs sl : Nat} (hn : n ≤ 1000000) (hm : n ≤ m) (e : hh[c]? = some (.inl (0, n, .inl f))) (e' : hh[c2]? = some (.inl (0, m, .inl g))) : xAcp calls (loc, [.int (Int32.ofNat n), .int 0, .ref c2, .int 0, .ref c], hh, cs, sl) = some (.inl (none, (loc, [], hh.set c2 (.inl (0, m, .inl (va_cpy f g 0 0 n))), cs, sl))) := by
  have hn := iN hn
  unfold xAcp
  dsimp only
  rw [e, e']
  have en : (Int32.ofNat n).toNatClampNeg = n := by
    show (Int32.ofNat n).toInt.toNat = n
    rw [hn]
    omega
  have e0 : (0 : Int32).toNatClampNeg = 0 := rfl
  show (match (decide ((0 : Int32) ≤ 0) && (decide ((0 : Int32) ≤ 0) && decide (0 ≤ Int32.ofNat n))) && (Nat.ble ((0 : Int32).toNatClampNeg + (Int32.ofNat n).toNatClampNeg) n && (Nat.ble ((0 : Int32).toNatClampNeg + (Int32.ofNat n).toNatClampNeg) m && Nat.ble (xcs []) 8)) with
    | true => some (Sum.inl (none, (loc, ([] : List Value), hh.set c2 (.inl (0, m, .inl (va_cpy f g (0 : Int32).toNatClampNeg (0 : Int32).toNatClampNeg (Int32.ofNat n).toNatClampNeg))), cs, sl)))
    | false => none) = _
  rw [en, e0, decide_eq_true ((i_le i0 hn).mpr (by omega)), Nat.ble_eq_true_of_le (show 0 + n ≤ n by omega), Nat.ble_eq_true_of_le (show 0 + n ≤ m by omega)]
  rfl
/-- Row.get -/
theorem y_76 (hI : INV h) (ha : a ∈ rowL) : ∃ v : Int32, yex (d + 1) 76 [.ref a, .int x] h = some (some (.int v), h, 0, 0) ∧ (v = 0 ∨ ∃ c n f, rc h a = some (c, n, f) ∧ 0 ≤ x.toInt ∧ x.toInt < (n : Int) ∧ v = f x.toInt.toNat) := by
  obtain ⟨c, n, f, z, e1, e2, e3, e4, e5, -, -⟩ := row_of hI ha
  have hn := iN (n := n) (by have := (fk_row a ha).2.1; omega)
  by_cases h0 : x < 0
  · refine ⟨0, yex_of (k := 4) rfl rfl rfl ?_, Or.inl rfl⟩
    refine xit_l (q := (none, (_, [.int x], h, 0, 0))) rfl ?_
    refine xit_l (rbt (calls := yex d) (t := 12) (show xc_lt [.int x] = some (true, []) by show some (decide (x < 0), ([] : List Value)) = _; rw [decide_eq_true h0])) ?_
    refine xit_l (q := (none, (_, [.int 0], h, 0, 0))) rfl ?_
    exact xit_r rfl
  · have x0 : 0 ≤ x.toInt := by
      have := mt (i_lt rfl i0).mpr h0
      omega
    by_cases h1 : x.toInt < (n : Int)
    · refine ⟨f x.toInt.toNat, yex_of (k := 13) rfl rfl rfl ?_, Or.inr ⟨c, n, f, e3, x0, h1, rfl⟩⟩
      refine xit_l (q := (none, (_, [.int x], h, 0, 0))) rfl ?_
      refine xit_l (rbf (calls := yex d) (t := 12) (show xc_lt [.int x] = some (false, []) by show some (decide (x < 0), ([] : List Value)) = _; rw [decide_eq_false h0])) ?_
      refine xit_l (q := (none, (_, [.int x], h, 0, 0))) rfl ?_
      refine xit_l (q := (none, (_, [.ref a, .int x], h, 0, 0))) rfl ?_
      refine xit_l (rget (calls := yex d) (ci := 6) (k := 1) e1 rfl) ?_
      refine xit_l (rlen (calls := yex d) e2) ?_
      refine xit_l (rbf (calls := yex d) (t := 12) (show xc_ige [.int (Int32.ofNat n), .int x] = some (false, []) by show some (decide (Int32.ofNat n ≤ x), ([] : List Value)) = _; rw [decide_eq_false (fun w => by have := (i_le hn rfl).mp w; omega)])) ?_
      refine xit_l (q := (none, (_, [.ref a], h, 0, 0))) rfl ?_
      refine xit_l (rget (calls := yex d) (ci := 6) (k := 1) e1 rfl) ?_
      refine xit_l (q := (none, (_, [.int x, .ref c], h, 0, 0))) rfl ?_
      refine xit_l (rial (calls := yex d) e2 ⟨x0, h1⟩) ?_
      refine xit_l (q := (some 13, (_, [.int (f x.toInt.toNat)], h, 0, 0))) rfl ?_
      exact xit_r rfl
    · refine ⟨0, yex_of (k := 9) rfl rfl rfl ?_, Or.inl rfl⟩
      refine xit_l (q := (none, (_, [.int x], h, 0, 0))) rfl ?_
      refine xit_l (rbf (calls := yex d) (t := 12) (show xc_lt [.int x] = some (false, []) by show some (decide (x < 0), ([] : List Value)) = _; rw [decide_eq_false h0])) ?_
      refine xit_l (q := (none, (_, [.int x], h, 0, 0))) rfl ?_
      refine xit_l (q := (none, (_, [.ref a, .int x], h, 0, 0))) rfl ?_
      refine xit_l (rget (calls := yex d) (ci := 6) (k := 1) e1 rfl) ?_
      refine xit_l (rlen (calls := yex d) e2) ?_
      refine xit_l (rbt (calls := yex d) (t := 12) (show xc_ige [.int (Int32.ofNat n), .int x] = some (true, []) by show some (decide (Int32.ofNat n ≤ x), ([] : List Value)) = _; rw [decide_eq_true ((i_le hn rfl).mpr (by omega))])) ?_
      refine xit_l (q := (none, (_, [.int 0], h, 0, 0))) rfl ?_
      exact xit_r rfl
/-- Arrays.copyOf, to a greater length -/
theorem y_271 {mm : Int32} (e : h[c]? = some (.inl (0, n, .inl f))) (h1 : (n : Int) < mm.toInt) (h2 : mm.toInt ≤ 1000000) (hl : h.length < 1000000) : yex (d + 1) 271 [.ref c, .int mm] h = some (some (.ref h.length), h ++ [.inl (0, mm.toInt.toNat, .inl (va_cpy f (fun _ => 0) 0 0 n))], 1, mm.toInt.toNat) := by
  have hn := iN (n := n) (by omega)
  have hcl : c < h.length := (List.getElem?_eq_some_iff.mp e).1
  have e' : (h ++ [.inl (0, mm.toInt.toNat, .inl (fun _ => 0))] : xH)[c]? = some (.inl (0, n, .inl f)) := by
    rw [List.getElem?_append_left hcl]
    exact e
  have el : (h ++ [.inl (0, mm.toInt.toNat, .inl (fun _ => 0))] : xH)[h.length]? = some (.inl (0, mm.toInt.toNat, .inl (fun _ => 0))) := by
    rw [List.getElem?_append_right (Nat.le_refl _), Nat.sub_self]
    rfl
  refine yex_of (k := 18) rfl rfl rfl ?_
  refine xit_l (q := (none, (_, [.int mm], h, 0, 0))) rfl ?_
  refine xit_l (q := (none, (_, [.ref c, .int mm], h, 0, 0))) rfl ?_
  refine xit_l (rlen (calls := yex d) e) ?_
  refine xit_l (rbt (calls := yex d) (t := 8) (show xc_ine [.int (Int32.ofNat n), .int mm] = some (true, []) by
    show some (!decide (mm = Int32.ofNat n), ([] : List Value)) = _
    rw [decide_eq_false (fun w => by have := (i_eq rfl hn).mp w; omega)]
    rfl)) ?_
  refine xit_l (q := (none, (_, [.int mm], h, 0, 0))) rfl ?_
  refine xit_l (rnew (calls := yex d) (by omega) h2 hl) ?_
  rw [Nat.zero_add, Nat.zero_add]
  refine xit_l (q := (none, ((2, .ref h.length) :: lv_args 0 [.ref c, .int mm], [], _, 1, mm.toInt.toNat))) rfl ?_
  refine xit_l (q := (none, (_, [.ref c], _, 1, mm.toInt.toNat))) rfl ?_
  refine xit_l (q := (none, (_, [.int 0, .ref c], _, 1, mm.toInt.toNat))) rfl ?_
  refine xit_l (q := (none, (_, [.ref h.length, .int 0, .ref c], _, 1, mm.toInt.toNat))) rfl ?_
  refine xit_l (q := (none, (_, [.int 0, .ref h.length, .int 0, .ref c], _, 1, mm.toInt.toNat))) rfl ?_
  refine xit_l (q := (none, (_, [.ref c, .int 0, .ref h.length, .int 0, .ref c], _, 1, mm.toInt.toNat))) rfl ?_
  refine xit_l (rlen (calls := yex d) e') ?_
  refine xit_l (q := (none, (_, [.int mm, .int (Int32.ofNat n), .int 0, .ref h.length, .int 0, .ref c], _, 1, mm.toInt.toNat))) rfl ?_
  refine xit_l (rmn (calls := yex d) (show xcs [.int 0, .ref h.length, .int 0, .ref c] ≤ 8 from Nat.le_of_ble_eq_true rfl)) ?_
  rw [if_neg (fun w => by have := (i_lt rfl hn).mp w; omega)]
  refine xit_l (racp (calls := yex d) (by omega) (by omega) e' el) ?_
  rw [List.set_append_right _ _ (Nat.le_refl _), Nat.sub_self]
  refine xit_l (q := (none, (_, [.ref h.length], _, 1, mm.toInt.toNat))) rfl ?_
  exact xit_r rfl
end ROW
