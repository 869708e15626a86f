/-! ===== the class: Row.set ===== -/
section ROW3
variable {d : Nat} {h : xH} {a : Nat} {x v : Int32}
theorem ck0 : ∀ b ∈ rowL, (ckR b).1 ≤ 0 ∧ 0 ≤ (ckR b).2 := by decide +kernel
/-- the new length -/
def nwl (L n : Nat) (x : Int32) : Int32 := if (if x + 1 < 2 * Int32.ofNat n then 2 * Int32.ofNat n else x + 1) < Int32.ofNat L then (if x + 1 < 2 * Int32.ofNat n then 2 * Int32.ofNat n else x + 1) else Int32.ofNat L
theorem nwl_ok {L n : Nat} (hL : L ≤ 100000) (hn : (n : Int) ≤ x.toInt) (hx : x.toInt < (L : Int)) : (n : Int) < (nwl L n x).toInt ∧ x.toInt < (nwl L n x).toInt ∧ (nwl L n x).toInt ≤ (L : Int) ∧ ((nwl L n x).toInt = (L : Int) ∨ 2 * (n : Int) ≤ (nwl L n x).toInt) := by
  have eL := iN (n := L) (by omega)
  have en := iN (n := n) (by omega)
  have e1 : (x + 1).toInt = x.toInt + 1 := i_add rfl (show (1 : Int32).toInt = 1 by decide) (by omega)
  have e2 : (2 * Int32.ofNat n).toInt = 2 * (n : Int) := i_mul (show (2 : Int32).toInt = 2 by decide) en (by omega)
  have lt1 := i_lt e1 e2
  unfold nwl
  by_cases c1 : x + 1 < 2 * Int32.ofNat n
  · rw [if_pos c1]
    have k1 := lt1.mp c1
    by_cases c2 : 2 * Int32.ofNat n < Int32.ofNat L
    · rw [if_pos c2, e2]
      have k2 := (i_lt e2 eL).mp c2
      omega
    · rw [if_neg c2, eL]
      omega
  · rw [if_neg c1]
    have k1 := mt lt1.mpr c1
    by_cases c2 : x + 1 < Int32.ofNat L
    · rw [if_pos c2, e1]
      have k2 := (i_lt e1 eL).mp c2
      omega
    · rw [if_neg c2, eL]
      omega
theorem rcl {j : Nat} {calls : xC} {loc : cLoc} {u w w' : Value} {st : List Value} {h h' : xH} {cs sl cs' sl' : Nat} (hc : calls j [u, w] h = some (some w', h', cs', sl')) (hs : Nat.ble (xcs st) 8 = true) : xCall j 2 none calls (loc, w :: u :: st, h, cs, sl) = some (.inl (none, (loc, w' :: st, h', cs + cs', sl + sl'))) := by
  unfold xCall
  dsimp only
  rw [show (Nat.ble 2 (w :: u :: st).length && (Nat.ble (xcs ((w :: u :: st).drop 2)) 8 && xrc none ((w :: u :: st).take 2).reverse h)) = true by
    rw [Bool.and_eq_true, Bool.and_eq_true]
    exact ⟨Nat.ble_eq_true_of_le (by rw [List.length_cons, List.length_cons]; omega), hs, rfl⟩]
  show (match calls j [u, w] h with
    | some res => some (Sum.inl (none, (loc, res.1.toList ++ st, res.2.1, cs + res.2.2.1, sl + res.2.2.2)))
    | none => none) = _
  rw [hc]
  rfl
theorem rput {ci k t a : Nat} {calls : xC} {loc : cLoc} {w : Value} {st fs : List Value} {hh : xH} {cs sl : Nat} (e : hh[a]? = some (.inr (ci, fs))) (hk : Nat.blt k fs.length = true) (ht : xfT t w = true) : xPut ci k t calls (loc, w :: .ref a :: st, hh, cs, sl) = some (.inl (none, (loc, st, hh.set a (.inr (ci, fs.set k w)), cs, sl))) := by
  unfold xPut
  dsimp only
  rw [e]
  dsimp only
  rw [Nat.beq_refl, hk, ht]
  rfl
set_option maxRecDepth 20000 in
theorem y_77 (hI : INV h) (ha : a ∈ rowL) (hv : (ckR a).1 ≤ v.toInt ∧ v.toInt ≤ (ckR a).2) (hw : cod a = true → x.toInt % 2 = 0 → v.toInt < 2147483647) : ∃ h' cs sl, yex (d + 2) 77 [.ref a, .int x, .int v] h = some (none, h', cs, sl) ∧ CST [(wc a, 1)] h h' cs sl := by
  obtain ⟨c, n, f, z, e1, e2, e3, e4, e5, e6, e7⟩ := row_of hI ha
  have hL := (fk_row a ha).2.1
  have eL := iN (n := lim a) (by omega)
  have en := iN (n := n) (by omega)
  by_cases h0 : x < 0
  · refine ⟨h, 0, 0, yex_of (k := 3) rfl rfl rfl ?_, CST_rf hI⟩
    refine xit_l (q := (none, (_, [.int x], h, 0, 0))) rfl ?_
    refine xit_l (rbt (calls := yex (d + 1)) (t := 6) (show xc_lt [.int x] = some (true, []) by show some (decide (x < 0), ([] : List Value)) = _; rw [decide_eq_true h0])) ?_
    exact xit_r rfl
  · have x0 : 0 ≤ x.toInt := by
      have := mt (i_lt rfl i0).mpr h0
      omega
    have hv : cki a x.toInt.toNat v := ⟨hv, fun w w' => hw w (by omega)⟩
    by_cases h1 : x.toInt < (lim a : Int)
    · by_cases h2 : x.toInt < (n : Int)
      · refine ⟨h.set c (.inl (0, n, .inl (upd f x.toInt.toNat v))), 0, 0, yex_of (k := 17) rfl rfl rfl ?_, wr_ok hI ha e3 hv⟩
        refine xit_l (q := (none, (_, [.int x], h, 0, 0))) rfl ?_
        refine xit_l (rbf (calls := yex (d + 1)) (t := 6) (show xc_lt [.int x] = some (false, []) by show some (decide (x < 0), ([] : List Value)) = _; rw [decide_eq_false h0])) ?_
        refine xit_l (q := (none, (_, [.int x], h, 0, 0))) rfl ?_
        refine xit_l (q := (none, (_, [.ref a, .int x], h, 0, 0))) rfl ?_
        refine xit_l (rget (calls := yex (d + 1)) (ci := 6) (k := 0) e1 rfl) ?_
        refine xit_l (rbt (calls := yex (d + 1)) (t := 7) (show xc_ilt [.int (Int32.ofNat (lim a)), .int x] = some (true, []) by show some (decide (x < Int32.ofNat (lim a)), ([] : List Value)) = _; rw [decide_eq_true ((i_lt rfl eL).mpr h1)])) ?_
        refine xit_l (q := (none, (_, [.int x], h, 0, 0))) rfl ?_
        refine xit_l (q := (none, (_, [.ref a, .int x], h, 0, 0))) rfl ?_
        refine xit_l (rget (calls := yex (d + 1)) (ci := 6) (k := 1) e1 rfl) ?_
        refine xit_l (rlen (calls := yex (d + 1)) e2) ?_
        refine xit_l (rbt (calls := yex (d + 1)) (t := 29) (show xc_ilt [.int (Int32.ofNat n), .int x] = some (true, []) by show some (decide (x < Int32.ofNat n), ([] : List Value)) = _; rw [decide_eq_true ((i_lt rfl en).mpr h2)])) ?_
        refine xit_l (q := (none, (_, [.ref a], h, 0, 0))) rfl ?_
        refine xit_l (rget (calls := yex (d + 1)) (ci := 6) (k := 1) e1 rfl) ?_
        refine xit_l (q := (none, (_, [.int x, .ref c], h, 0, 0))) rfl ?_
        refine xit_l (q := (none, (_, [.int v, .int x, .ref c], h, 0, 0))) rfl ?_
        refine xit_l (rias (calls := yex (d + 1)) e2 ⟨x0, h2⟩) ?_
        exact xit_r rfl
      · have hw := nwl_ok (x := x) (L := lim a) (n := n) hL (by omega) h1
        have hm : (nwl (lim a) n x).toInt.toNat = (nwl (lim a) n x).toInt := Int.toNat_of_nonneg (by omega)
        have hll : h.length < 1000000 := by
          obtain ⟨-, ⟨-, -, r3, r4⟩, -⟩ := hI
          omega
        have hcp := y_271 (d := d) (h := h) (mm := nwl (lim a) n x) e2 hw.1 (by omega) hll
        have hbd : ∀ i, i < (nwl (lim a) n x).toInt.toNat → cki a i (va_cpy f (fun _ => 0) 0 0 n i) := fun i _ => by
          unfold va_cpy
          split
          · rename_i hi
            rw [show 0 + (i - 0) = i by omega]
            exact e7 i (by omega)
          · exact ⟨ck0 a ha, fun _ _ => by show (0 : Int32).toInt < 2147483647; decide⟩
        obtain ⟨g1, g2, g3, g4⟩ := grow_ok (h2 := ((h ++ [.inl (0, (nwl (lim a) n x).toInt.toNat, .inl (va_cpy f (fun _ => 0) 0 0 n))] : xH)).set a (.inr (6, [.int (Int32.ofNat (lim a)), .ref h.length, z]))) hI ha e1 e3 (m := (nwl (lim a) n x).toInt.toNat) (by omega) hbd rfl
        have g5 := wr_ok (i := x.toInt.toNat) g1.1 ha g2 hv
        have g6 := CST_tr g1 g5
        refine ⟨_, _, _, yex_of (k := 34) rfl rfl rfl ?_, g6⟩
        refine xit_l (q := (none, (_, [.int x], h, 0, 0))) rfl ?_
        refine xit_l (rbf (calls := yex (d + 1)) (t := 6) (show xc_lt [.int x] = some (false, []) by show some (decide (x < 0), ([] : List Value)) = _; rw [decide_eq_false h0])) ?_
        refine xit_l (q := (none, (_, [.int x], h, 0, 0))) rfl ?_
        refine xit_l (q := (none, (_, [.ref a, .int x], h, 0, 0))) rfl ?_
        refine xit_l (rget (calls := yex (d + 1)) (ci := 6) (k := 0) e1 rfl) ?_
        refine xit_l (rbt (calls := yex (d + 1)) (t := 7) (show xc_ilt [.int (Int32.ofNat (lim a)), .int x] = some (true, []) by show some (decide (x < Int32.ofNat (lim a)), ([] : List Value)) = _; rw [decide_eq_true ((i_lt rfl eL).mpr h1)])) ?_
        refine xit_l (q := (none, (_, [.int x], h, 0, 0))) rfl ?_
        refine xit_l (q := (none, (_, [.ref a, .int x], h, 0, 0))) rfl ?_
        refine xit_l (rget (calls := yex (d + 1)) (ci := 6) (k := 1) e1 rfl) ?_
        refine xit_l (rlen (calls := yex (d + 1)) e2) ?_
        refine xit_l (rbf (calls := yex (d + 1)) (t := 29) (show xc_ilt [.int (Int32.ofNat n), .int x] = some (false, []) by show some (decide (x < Int32.ofNat n), ([] : List Value)) = _; rw [decide_eq_false (mt (i_lt rfl en).mp h2)])) ?_
        refine xit_l (q := (none, (_, [.ref a], h, 0, 0))) rfl ?_
        refine xit_l (q := (none, (_, [.ref a, .ref a], h, 0, 0))) rfl ?_
        refine xit_l (rget (calls := yex (d + 1)) (ci := 6) (k := 1) e1 rfl) ?_
        refine xit_l (q := (none, (_, [.ref a, .ref c, .ref a], h, 0, 0))) rfl ?_
        refine xit_l (rget (calls := yex (d + 1)) (ci := 6) (k := 0) e1 rfl) ?_
        refine xit_l (q := (none, (_, [.int x, .int (Int32.ofNat (lim a)), .ref c, .ref a], h, 0, 0))) rfl ?_
        refine xit_l (q := (none, (_, [.int 1, .int x, .int (Int32.ofNat (lim a)), .ref c, .ref a], h, 0, 0))) rfl ?_
        refine xit_l (q := (none, (_, [.int (x + 1), .int (Int32.ofNat (lim a)), .ref c, .ref a], h, 0, 0))) rfl ?_
        refine xit_l (q := (none, (_, [.int 2, .int (x + 1), .int (Int32.ofNat (lim a)), .ref c, .ref a], h, 0, 0))) rfl ?_
        refine xit_l (q := (none, (_, [.ref a, .int 2, .int (x + 1), .int (Int32.ofNat (lim a)), .ref c, .ref a], h, 0, 0))) rfl ?_
        refine xit_l (rget (calls := yex (d + 1)) (ci := 6) (k := 1) e1 rfl) ?_
        refine xit_l (rlen (calls := yex (d + 1)) e2) ?_
        refine xit_l (q := (none, (_, [.int (2 * Int32.ofNat n), .int (x + 1), .int (Int32.ofNat (lim a)), .ref c, .ref a], h, 0, 0))) rfl ?_
        refine xit_l (rmx (calls := yex (d + 1)) (show xcs [.int (Int32.ofNat (lim a)), .ref c, .ref a] ≤ 8 from Nat.le_of_ble_eq_true rfl)) ?_
        refine xit_l (rmn (calls := yex (d + 1)) (show xcs [.ref c, .ref a] ≤ 8 from Nat.le_of_ble_eq_true rfl)) ?_
        refine xit_l (rcl (calls := yex (d + 1)) (loc := lv_args 0 [.ref a, .int x, .int v]) (st := [.ref a]) (cs := 0) (sl := 0) hcp rfl) ?_
        refine xit_l (rput (a := a) (fs := [.int (Int32.ofNat (lim a)), .ref c, z]) (calls := yex (d + 1)) (by rw [List.getElem?_append_left (by have := (fk_row a ha).2.2; have := hI.2.2.1; omega)]; exact e1) rfl rfl) ?_
        refine xit_l (q := (none, (_, [.ref a], _, 0 + 1, 0 + (nwl (lim a) n x).toInt.toNat))) rfl ?_
        refine xit_l (rget (calls := yex (d + 1)) (ci := 6) (k := 1) g3 rfl) ?_
        refine xit_l (q := (none, (_, [.int x, .ref h.length], _, 0 + 1, 0 + (nwl (lim a) n x).toInt.toNat))) rfl ?_
        refine xit_l (q := (none, (_, [.int v, .int x, .ref h.length], _, 0 + 1, 0 + (nwl (lim a) n x).toInt.toNat))) rfl ?_
        refine xit_l (rias (calls := yex (d + 1)) g4 ⟨x0, by omega⟩) ?_
        refine (xit_r rfl).trans ?_
        rw [Nat.zero_add, Nat.zero_add]
        rfl
    · refine ⟨h, 0, 0, yex_of (k := 7) rfl rfl rfl ?_, CST_rf hI⟩
      refine xit_l (q := (none, (_, [.int x], h, 0, 0))) rfl ?_
      refine xit_l (rbf (calls := yex (d + 1)) (t := 6) (show xc_lt [.int x] = some (false, []) by show some (decide (x < 0), ([] : List Value)) = _; rw [decide_eq_false h0])) ?_
      refine xit_l (q := (none, (_, [.int x], h, 0, 0))) rfl ?_
      refine xit_l (q := (none, (_, [.ref a, .int x], h, 0, 0))) rfl ?_
      refine xit_l (rget (calls := yex (d + 1)) (ci := 6) (k := 0) e1 rfl) ?_
      refine xit_l (rbf (calls := yex (d + 1)) (t := 7) (show xc_ilt [.int (Int32.ofNat (lim a)), .int x] = some (false, []) by show some (decide (x < Int32.ofNat (lim a)), ([] : List Value)) = _; rw [decide_eq_false (mt (i_lt rfl eL).mp h1)])) ?_
      exact xit_r rfl
end ROW3
