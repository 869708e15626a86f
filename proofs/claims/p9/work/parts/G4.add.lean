/-! ===== the class: Row.add, Machine.env ===== -/
section ROW4
variable {d : Nat} {h : xH} {a : Nat} {x v : Int32}
theorem fk_2 : ∀ b ∈ rowL, (fk b)[2]? = some (.inl (0, (lim b : Int))) := by decide +kernel
theorem row_z {l r z : Value} (hI : INV h) (ha : a ∈ rowL) (e : h[a]? = some (.inr (6, [l, r, z]))) : ∃ x : Int32, z = .int x ∧ 0 ≤ x.toInt ∧ x.toInt ≤ (lim a : Int) := by
  have h6 := rowL_6 a ha
  obtain ⟨fs, e1, -, e3⟩ := hI.1 a (fk_row a ha).2.2 (by omega)
  rw [e] at e1
  have e1 := (Prod.mk.inj (Sum.inr.inj (Option.some.inj e1))).2
  obtain ⟨w, w1, w2⟩ := e3 2 _ (fk_2 a ha)
  rw [← e1] at w1
  have w1 : some z = some w := w1
  cases w1
  exact w2
theorem rcv3 {j k : Nat} {q : List Value} {calls : xC} {loc : cLoc} {u w : Value} {st : List Value} {h h' : xH} {cs sl cs' sl' : Nat} (hc : calls j [.ref a, u, w] h = some (none, h', cs', sl')) (hs : Nat.ble (xcs st) 8 = true) (ha : h[a]? = some (.inr (k, q))) : xCall j 3 (some k) calls (loc, w :: u :: .ref a :: st, h, cs, sl) = some (.inl (none, (loc, st, h', cs + cs', sl + sl'))) := by
  unfold xCall
  dsimp only
  rw [show (Nat.ble 3 (w :: u :: .ref a :: st).length && (Nat.ble (xcs ((w :: u :: .ref a :: st).drop 3)) 8 && xrc (some k) ((w :: u :: .ref a :: st).take 3).reverse h)) = true by
    rw [Bool.and_eq_true, Bool.and_eq_true]
    refine ⟨Nat.ble_eq_true_of_le (by rw [List.length_cons, List.length_cons, List.length_cons]; omega), hs, ?_⟩
    show (match h[a]? with
      | some (.inr q) => Nat.beq q.1 k
      | _ => false) = true
    rw [ha]
    exact Nat.beq_refl k]
  show (match calls j [.ref a, u, w] h with
    | some res => some (Sum.inl (none, (loc, res.1.toList ++ st, res.2.1, cs + res.2.2.1, sl + res.2.2.2)))
    | none => none) = _
  rw [hc]
  rfl
/-- Row.add -/
theorem y_78 {z : Int32} (hI : INV h) (ha : a ∈ rowL) (hz : fld h a 2 = some (.int z)) (hv : (ckR a).1 ≤ v.toInt ∧ v.toInt ≤ (ckR a).2) (hw : cod a = true → z.toInt < (lim a : Int) → z.toInt % 2 = 0 → v.toInt < 2147483647) : ∃ h' cs sl, yex (d + 3) 78 [.ref a, .int v] h = some (none, h', cs, sl) ∧ CST [(wc a, 1), (wc a, 2)] h h' cs sl ∧ fld h' a 2 = some (.int (if z < Int32.ofNat (lim a) then z + 1 else z)) := by
  obtain ⟨c, n, f, z', e1, e2, e3, e4, e5, e6, e7⟩ := row_of hI ha
  have hz' : z' = .int z := by
    unfold fld at hz
    rw [e1] at hz
    exact Option.some.inj hz
  subst hz'
  obtain ⟨z0, q0, z1, z2⟩ := row_z hI ha e1
  cases q0
  have hL := (fk_row a ha).2.1
  have h6 := rowL_6 a ha
  have eL := iN (n := lim a) (by omega)
  by_cases h0 : z < Int32.ofNat (lim a)
  · obtain ⟨h1, cs, sl, s1, s2⟩ := y_77 (d := d) (x := z) hI ha hv (fun c e => hw c ((i_lt rfl eL).mp h0) e)
    obtain ⟨c', n', f', z', p1, -⟩ := row_of s2.1 ha
    have hz' : z' = .int z := by
      have q : fld h1 a 2 = fld h a 2 := s2.2.1.2 a 2 (fk_row a ha).2.2 (fun w => by
        cases w with
        | tail _ w => exact absurd w List.not_mem_nil)
      rw [hz] at q
      unfold fld at q
      rw [p1] at q
      exact Option.some.inj q
    subst hz'
    have k0 := (i_lt rfl eL).mp h0
    have ez : (z + 1).toInt = z.toInt + 1 := i_add rfl (show (1 : Int32).toInt = 1 by decide) (by omega)
    have hp := put_ok (v := .int (z + 1)) s2.1 (fk_row a ha).2.2 (by omega) (by rw [h6]; exact p1) (fk_2 a ha) ⟨_, rfl, by omega, by omega⟩ (by omega) (by omega)
    rw [h6] at hp
    refine ⟨_, cs, sl, yex_of (k := 17) rfl rfl rfl ?_, CST_tr (CST_mo s2 (fun q hq => by
      cases hq with
      | head => exact List.mem_cons_self
      | tail _ w => exact absurd w List.not_mem_nil)) (CST_mo hp (fun q hq => by
      cases hq with
      | head => exact List.mem_cons_of_mem _ List.mem_cons_self
      | tail _ w => exact absurd w List.not_mem_nil)), ?_⟩
    · refine xit_l (q := (none, (_, [.ref a], h, 0, 0))) rfl ?_
      refine xit_l (rget (calls := yex (d + 2)) (ci := 6) (k := 2) e1 rfl) ?_
      refine xit_l (q := (none, (_, [.ref a, .int z], h, 0, 0))) rfl ?_
      refine xit_l (rget (calls := yex (d + 2)) (ci := 6) (k := 0) e1 rfl) ?_
      refine xit_l (rbf (calls := yex (d + 2)) (t := 16) (show xc_ige [.int (Int32.ofNat (lim a)), .int z] = some (false, []) by show some (decide (Int32.ofNat (lim a) ≤ z), ([] : List Value)) = _; rw [decide_eq_false (fun w => by have := (i_le eL rfl).mp w; omega)])) ?_
      refine xit_l (q := (none, (_, [.ref a], h, 0, 0))) rfl ?_
      refine xit_l (q := (none, (_, [.ref a, .ref a], h, 0, 0))) rfl ?_
      refine xit_l (rget (calls := yex (d + 2)) (ci := 6) (k := 2) e1 rfl) ?_
      refine xit_l (q := (none, (_, [.int v, .int z, .ref a], h, 0, 0))) rfl ?_
      refine xit_l (rcv3 (k := 6) (calls := yex (d + 2)) (loc := lv_args 0 [.ref a, .int v]) (st := []) (cs := 0) (sl := 0) s1 rfl e1) ?_
      rw [Nat.zero_add, Nat.zero_add]
      refine xit_l (q := (none, (_, [.ref a], h1, cs, sl))) rfl ?_
      refine xit_l (q := (none, (_, [.ref a, .ref a], h1, cs, sl))) rfl ?_
      refine xit_l (rget (calls := yex (d + 2)) (ci := 6) (k := 2) p1 rfl) ?_
      refine xit_l (q := (none, (_, [.int 1, .int z, .ref a], h1, cs, sl))) rfl ?_
      refine xit_l (q := (none, (_, [.int (z + 1), .ref a], h1, cs, sl))) rfl ?_
      refine xit_l (rput (calls := yex (d + 2)) (k := 2) (t := 0) p1 rfl rfl) ?_
      exact xit_r rfl
    · rw [if_pos h0]
      unfold fld
      rw [List.getElem?_set_self ((List.getElem?_eq_some_iff.mp p1).1)]
      rfl
  · refine ⟨h, 0, 0, yex_of (k := 6) rfl rfl rfl ?_, CST_rf hI, by rw [if_neg h0]; exact hz⟩
    refine xit_l (q := (none, (_, [.ref a], h, 0, 0))) rfl ?_
    refine xit_l (rget (calls := yex (d + 2)) (ci := 6) (k := 2) e1 rfl) ?_
    refine xit_l (q := (none, (_, [.ref a, .int z], h, 0, 0))) rfl ?_
    refine xit_l (rget (calls := yex (d + 2)) (ci := 6) (k := 0) e1 rfl) ?_
    refine xit_l (rbt (calls := yex (d + 2)) (t := 16) (show xc_ige [.int (Int32.ofNat (lim a)), .int z] = some (true, []) by show some (decide (Int32.ofNat (lim a) ≤ z), ([] : List Value)) = _; rw [decide_eq_true ((i_le eL rfl).mpr (by have := mt (i_lt rfl eL).mpr h0; omega))])) ?_
    exact xit_r rfl
theorem k_add {w : Nat} {S : List Nat} {lo hi : Int} (h : rbe w lo hi S = true) : CTR (yex (d + 3)) 78 ([.inr (.inl S), .inl (lo, hi)], none, [(w, 1), (w, 2)]) := by
  intro hh vs hI ha
  match vs, ha with
  | [v1, v2], ⟨⟨a, e1, ha⟩, ⟨v, e2, u1, u2⟩, _⟩ =>
    subst e1 e2
    obtain ⟨ha, b0, b1, b2, b3⟩ := rbe_ok h ha
    obtain ⟨c, n, f, z', p1, -⟩ := row_of hI ha
    obtain ⟨z, rfl, -⟩ := row_z hI ha p1
    obtain ⟨h', cs, sl, e, hc, -⟩ := y_78 (d := d) (z := z) (v := v) hI ha (by unfold fld; rw [p1]; rfl) (by omega) (fun w => by rw [b3] at w; cases w)
    rw [b0] at hc
    exact ⟨_, _, _, _, e, rfl, hc⟩
end ROW4
section ENV
variable {d : Nat} {h : xH} {x : Int32}
def envL : List Nat := [113, 115, 117, 119, 121, 123, 125, 127, 129, 131, 133, 135, 137, 139, 141, 143, 145, 147, 149, 151, 153, 155, 157, 159, 161, 163, 165, 167, 169, 171, 173, 175, 177, 179, 181, 183, 185, 187, 189, 191, 193, 195]
theorem envL_in : ∀ i, i < 42 → 113 + 2 * i ∈ envL := by decide +kernel
theorem raal {c n : Nat} {f : Nat → Option Nat} {i : Int32} {b : Nat} {calls : xC} {loc : cLoc} {st : List Value} {hh : xH} {cs sl : Nat} (e : hh[c]? = some (.inl (3, n, .inr (.inr (.inr (.inr f)))))) (hi : 0 ≤ i.toInt ∧ i.toInt < (n : Int)) (hf : f i.toInt.toNat = some b) : xAal calls (loc, .int i :: .ref c :: st, hh, cs, sl) = some (.inl (none, (loc, .ref b :: st, hh, cs, sl))) := by
  unfold xAal
  dsimp only
  rw [e]
  show (match xIn i n with
    | true => some (Sum.inl (none, (loc, va_rf (f i.toInt.toNat) :: st, hh, cs, sl)))
    | false => none) = _
  rw [i_in rfl hi, hf]
  rfl
theorem rlen3 {c n : Nat} {f : Nat → Option Nat} {calls : xC} {loc : cLoc} {st : List Value} {hh : xH} {cs sl : Nat} (e : hh[c]? = some (.inl (3, n, .inr (.inr (.inr (.inr f)))))) : xLen calls (loc, .ref c :: st, hh, cs, sl) = some (.inl (none, (loc, .int (Int32.ofNat n) :: st, hh, cs, sl))) := by
  unfold xLen
  dsimp only
  rw [e]
  rfl
/-- Machine.env -/
theorem k_env : CTR (yex (d + 1)) 24 ([.inr (.inl [105]), kint], some (.inr (.inl envL)), []) := by
  intro h vs hI ha
  match vs, ha with
  | [v1, v2], ⟨⟨a, e1, ha⟩, ⟨x, e2, _⟩, _⟩ =>
    have ha : a = 105 := by
      cases ha with
      | head => rfl
      | tail _ w => exact absurd w List.not_mem_nil
    subst e1 e2 ha
    obtain ⟨f, f1, f2⟩ := hI.2.2.2
    obtain ⟨fs, p1, -, p3⟩ := hI.1 105 (by decide) (by decide)
    have p1 : h[105]? = some (.inr (2, fs)) := p1
    obtain ⟨w, w1, w2⟩ := p3 3 (.inr (.inl [110])) (by decide +kernel)
    obtain ⟨b, rfl, hb⟩ := w2
    have hb : b = 110 := by
      cases hb with
      | head => rfl
      | tail _ w => exact absurd w List.not_mem_nil
    subst hb
    have z42 : (Int32.ofNat 42).toInt = 42 := by decide
    have base : ∀ m σ, xit (yex d) xk_24 (m + 5) (some (.inl (xk_24.drop 12, (lv_args 0 [.ref 105, .int x], [], h, 0, 0)))) = σ → σ = some (.inr (some (.ref 113), h, 0, 0)) := by
      intro m σ hσ
      rw [← hσ]
      refine xit_l (q := (none, (_, [.ref 105], h, 0, 0))) rfl ?_
      refine xit_l (rget (calls := yex d) (ci := 2) (k := 3) p1 w1) ?_
      refine xit_l (q := (none, (_, [.int 0, .ref 110], h, 0, 0))) rfl ?_
      refine xit_l (raal (calls := yex d) f1 (i := 0) (b := 113) (by decide) (f2 0 (by decide))) ?_
      exact xit_r rfl
    by_cases h0 : x ≤ 0
    · refine ⟨_, h, 0, 0, yex_of (k := 7) rfl rfl rfl ?_, ⟨_, rfl, 113, rfl, envL_in 0 (by decide)⟩, CST_rf hI⟩
      refine xit_l (q := (none, (_, [.int x], h, 0, 0))) rfl ?_
      refine xit_l (rbt (calls := yex d) (t := 12) (show xc_le [.int x] = some (true, []) by show some (decide (x ≤ 0), ([] : List Value)) = _; rw [decide_eq_true h0])) ?_
      exact base 0 _ rfl
    · have x0 : 0 < x.toInt := by
        have := mt (i_le rfl i0).mpr h0
        omega
      by_cases h1 : x.toInt < 42
      · refine ⟨_, h, 0, 0, yex_of (k := 13) rfl rfl rfl ?_, ⟨_, rfl, 113 + 2 * x.toInt.toNat, rfl, envL_in x.toInt.toNat (by omega)⟩, CST_rf hI⟩
        refine xit_l (q := (none, (_, [.int x], h, 0, 0))) rfl ?_
        refine xit_l (rbf (calls := yex d) (t := 12) (show xc_le [.int x] = some (false, []) by show some (decide (x ≤ 0), ([] : List Value)) = _; rw [decide_eq_false h0])) ?_
        refine xit_l (q := (none, (_, [.int x], h, 0, 0))) rfl ?_
        refine xit_l (q := (none, (_, [.ref 105, .int x], h, 0, 0))) rfl ?_
        refine xit_l (rget (calls := yex d) (ci := 2) (k := 3) p1 w1) ?_
        refine xit_l (rlen3 (calls := yex d) f1) ?_
        refine xit_l (rbf (calls := yex d) (t := 12) (show xc_ige [.int (Int32.ofNat 42), .int x] = some (false, []) by show some (decide (Int32.ofNat 42 ≤ x), ([] : List Value)) = _; rw [decide_eq_false (fun w => by have := (i_le z42 rfl).mp w; omega)])) ?_
        refine xit_l (q := (none, (_, [.ref 105], h, 0, 0))) rfl ?_
        refine xit_l (rget (calls := yex d) (ci := 2) (k := 3) p1 w1) ?_
        refine xit_l (q := (none, (_, [.int x, .ref 110], h, 0, 0))) rfl ?_
        refine xit_l (raal (calls := yex d) f1 (i := x) (by omega) (f2 x.toInt.toNat (by omega))) ?_
        refine xit_l (q := (some 16, (_, [.ref (113 + 2 * x.toInt.toNat)], h, 0, 0))) rfl ?_
        exact xit_r rfl
      · refine ⟨_, h, 0, 0, yex_of (k := 12) rfl rfl rfl ?_, ⟨_, rfl, 113, rfl, envL_in 0 (by decide)⟩, CST_rf hI⟩
        refine xit_l (q := (none, (_, [.int x], h, 0, 0))) rfl ?_
        refine xit_l (rbf (calls := yex d) (t := 12) (show xc_le [.int x] = some (false, []) by show some (decide (x ≤ 0), ([] : List Value)) = _; rw [decide_eq_false h0])) ?_
        refine xit_l (q := (none, (_, [.int x], h, 0, 0))) rfl ?_
        refine xit_l (q := (none, (_, [.ref 105, .int x], h, 0, 0))) rfl ?_
        refine xit_l (rget (calls := yex d) (ci := 2) (k := 3) p1 w1) ?_
        refine xit_l (rlen3 (calls := yex d) f1) ?_
        refine xit_l (rbt (calls := yex d) (t := 12) (show xc_ige [.int (Int32.ofNat 42), .int x] = some (true, []) by show some (decide (Int32.ofNat 42 ≤ x), ([] : List Value)) = _; rw [decide_eq_true ((i_le z42 rfl).mpr (by omega))])) ?_
        exact base 0 _ rfl
end ENV
