/-! ===== the class: Text.spells ===== -/
section SPELL
variable {d : Nat} {h : xH}
theorem rcg {j k a : Nat} {q : List Value} {calls : xC} {loc : cLoc} {w u : Value} {st : List Value} {h h' : xH} {cs sl cs' sl' : Nat} (hc : calls j [.ref a, w] h = some (some u, h', cs', sl')) (hs : Nat.ble (xcs st) 8 = true) (ha : h[a]? = some (.inr (k, q))) : xCall j 2 (some k) calls (loc, w :: .ref a :: st, h, cs, sl) = some (.inl (none, (loc, u :: st, h', cs + cs', sl + sl'))) := by
  unfold xCall
  dsimp only
  rw [show (Nat.ble 2 (w :: .ref a :: st).length && (Nat.ble (xcs ((w :: .ref a :: st).drop 2)) 8 && xrc (some k) ((w :: .ref a :: st).take 2).reverse h)) = true by
    rw [Bool.and_eq_true, Bool.and_eq_true]
    refine ⟨Nat.ble_eq_true_of_le (by rw [List.length_cons, List.length_cons]; omega), hs, ?_⟩
    show (match h[a]? with
      | some (.inr q) => Nat.beq q.1 k
      | _ => false) = true
    rw [ha]
    exact Nat.beq_refl k]
  show (match calls j [.ref a, w] h with
    | some res => some (Sum.inl (none, (loc, res.1.toList ++ st, res.2.1, cs + res.2.2.1, sl + res.2.2.2)))
    | none => none) = _
  rw [hc]
  rfl
theorem rlenS {s : Nat} {calls : xC} {loc : cLoc} {st : List Value} {hh : xH} {cs sl : Nat} (hs : s < 7) (hx : xcs st ≤ 8) : xLenS calls (loc, .ref (1000000 + s) :: st, hh, cs, sl) = some (.inl (none, (loc, .int (Int32.ofNat (xsl.getD s 0)) :: st, hh, cs, sl))) := by
  unfold xLenS
  dsimp only
  rw [Nat.ble_eq_true_of_le (show 1000000 ≤ 1000000 + s by omega), show Nat.blt (1000000 + s) 1000007 = true from Nat.ble_eq_true_of_le (by omega), Nat.ble_eq_true_of_le hx, show (1000000 + s) % 1000000 = s by omega]
  rfl
theorem rchS {s : Nat} {i : Int32} {calls : xC} {loc : cLoc} {st : List Value} {hh : xH} {cs sl : Nat} (hs : s < 7) (hi : 0 ≤ i.toInt ∧ i.toInt < (xsl.getD s 0 : Int)) (hx : xcs st ≤ 8) : xChS calls (loc, .int i :: .ref (1000000 + s) :: st, hh, cs, sl) = some (.inl (none, (loc, .int (xch s i) :: st, hh, cs, sl))) := by
  unfold xChS
  dsimp only
  rw [show (1000000 + s) % 1000000 = s by omega, Nat.ble_eq_true_of_le (show 1000000 ≤ 1000000 + s by omega), show Nat.blt (1000000 + s) 1000007 = true from Nat.ble_eq_true_of_le (by omega), i_in rfl hi, Nat.ble_eq_true_of_le hx]
  rfl
theorem xsl_le : ∀ s, s < 7 → xsl.getD s 0 ≤ 100 := by decide
theorem l_116 {t r s : Nat} {p : Int32} {fs : List Value} (hI : INV h) (ht : h[t]? = some (.inr (9, fs))) (hr : fs[0]? = some (.ref r)) (hrow : r ∈ rowL) (hs : s < 7) : ∀ (m : Nat) (i : Int32) (loc : cLoc), i.toInt + (m : Int) = (xsl.getD s 0 : Int) → 0 ≤ i.toInt → xlk 0 loc = some (.ref t) → xlk 1 loc = some (.int p) → xlk 3 loc = some (.ref (1000000 + s)) → xlk 4 loc = some (.int i) → ∃ n v, xit (yex (d + 1)) xk_116 n (some (.inl (xk_116.drop 8, (loc, [], h, 0, 0)))) = some (.inr (some (.int v), h, 0, 0)) ∧ (v = 0 ∨ v = 1)
  | 0, i, loc, e, hi, l0, l1, l3, l4 => by
    have hl := iN (n := xsl.getD s 0) (by have := xsl_le s hs; omega)
    refine ⟨6, 1, ?_, Or.inr rfl⟩
    refine xit_l (rld (calls := yex (d + 1)) (ok := xisI) l4 rfl) ?_
    refine xit_l (rld (calls := yex (d + 1)) (ok := xisA) l3 rfl) ?_
    refine xit_l (rlenS (calls := yex (d + 1)) hs (show xcs [.int i] ≤ 8 from Nat.le_of_ble_eq_true rfl)) ?_
    refine xit_l (rbt (calls := yex (d + 1)) (t := 26) (show xc_ige [.int (Int32.ofNat (xsl.getD s 0)), .int i] = some (true, []) by show some (decide (Int32.ofNat (xsl.getD s 0) ≤ i), ([] : List Value)) = _; rw [decide_eq_true ((i_le hl rfl).mpr (by omega))])) ?_
    refine xit_l (q := (none, (_, [.int 1], h, 0, 0))) rfl ?_
    exact xit_r rfl
  | m + 1, i, loc, e, hi, l0, l1, l3, l4 => by
    have hl100 := xsl_le s hs
    have hl := iN (n := xsl.getD s 0) (by omega)
    obtain ⟨g, g1, -⟩ := y_76 (d := d) (x := p + i) hI hrow
    obtain ⟨c, n, f, z, q1, -⟩ := row_of hI hrow
    have e1 : (i + Int32.ofInt 1).toInt = i.toInt + 1 := i_add rfl (show (Int32.ofInt 1).toInt = 1 by decide) (by omega)
    obtain ⟨n', v, r1, r2⟩ := l_116 hI ht hr hrow hs m (i + Int32.ofInt 1) ((4, .int (i + Int32.ofInt 1)) :: xf1 4 loc) (by omega) (by omega) (lo_keep 0 _ (by decide) (fun w => absurd w.1 (by decide)) l0) (lo_keep 1 _ (by decide) (fun w => absurd w.1 (by decide)) l1) (lo_keep 3 _ (by decide) (fun w => absurd w.2 (show ¬ (1 : Nat) = 2 by decide)) l3) xlk_cons
    have pre : ∀ {k : Nat} {σ}, xit (yex (d + 1)) xk_116 k (some (.inl (xk_116.drop 21, (loc, [.int (xch s i), .int g], h, 0, 0)))) = σ → xit (yex (d + 1)) xk_116 (k + 13) (some (.inl (xk_116.drop 8, (loc, [], h, 0, 0)))) = σ := by
      intro k σ hσ
      refine xit_l (rld (calls := yex (d + 1)) (ok := xisI) l4 rfl) ?_
      refine xit_l (rld (calls := yex (d + 1)) (ok := xisA) l3 rfl) ?_
      refine xit_l (rlenS (calls := yex (d + 1)) hs (show xcs [.int i] ≤ 8 from Nat.le_of_ble_eq_true rfl)) ?_
      refine xit_l (rbf (calls := yex (d + 1)) (t := 26) (show xc_ige [.int (Int32.ofNat (xsl.getD s 0)), .int i] = some (false, []) by show some (decide (Int32.ofNat (xsl.getD s 0) ≤ i), ([] : List Value)) = _; rw [decide_eq_false (fun w => by have := (i_le hl rfl).mp w; omega)])) ?_
      refine xit_l (rld (calls := yex (d + 1)) (ok := xisA) l0 rfl) ?_
      refine xit_l (rget (calls := yex (d + 1)) (ci := 9) (k := 0) ht hr) ?_
      refine xit_l (rld (calls := yex (d + 1)) (ok := xisI) l1 rfl) ?_
      refine xit_l (rld (calls := yex (d + 1)) (ok := xisI) l4 rfl) ?_
      refine xit_l (q := (none, (_, [.int (p + i), .ref r], h, 0, 0))) rfl ?_
      refine xit_l (rcg (k := 6) (calls := yex (d + 1)) (loc := loc) (st := []) (cs := 0) (sl := 0) g1 rfl q1) ?_
      refine xit_l (rld (calls := yex (d + 1)) (ok := xisA) l3 rfl) ?_
      refine xit_l (rld (calls := yex (d + 1)) (ok := xisI) l4 rfl) ?_
      refine xit_l (rchS (calls := yex (d + 1)) hs ⟨hi, by omega⟩ (show xcs [.int g] ≤ 8 from Nat.le_of_ble_eq_true rfl)) ?_
      exact hσ
    by_cases hg : g = xch s i
    · refine ⟨n' + 3 + 13, v, pre ?_, r2⟩
      refine xit_l (rbt (calls := yex (d + 1)) (t := 24) (show xc_ieq [.int (xch s i), .int g] = some (true, []) by show some (decide (g = xch s i), ([] : List Value)) = _; rw [decide_eq_true hg])) ?_
      refine xit_l (rinc (calls := yex (d + 1)) (c := 1) l4) ?_
      refine xit_l (q := (some 8, (_, [], h, 0, 0))) rfl ?_
      exact r1
    · refine ⟨3 + 13, 0, pre ?_, Or.inl rfl⟩
      refine xit_l (rbf (calls := yex (d + 1)) (t := 24) (show xc_ieq [.int (xch s i), .int g] = some (false, []) by show some (decide (g = xch s i), ([] : List Value)) = _; rw [decide_eq_false hg])) ?_
      refine xit_l (q := (none, (_, [.int 0], h, 0, 0))) rfl ?_
      exact xit_r rfl
theorem tx_f : ∀ a ∈ [4, 40, 86], oc a = 9 ∧ a < 213 ∧ (fk a)[0]? = some (.inr (.inl [a + 1])) ∧ a + 1 ∈ rowL := by decide +kernel
/-- Text.spells -/
theorem k_spells : CTR (yex (d + 2)) 116 ([.inr (.inl [4, 40, 86]), kint, kint, .inr (.inr (some false))], some (.inl (0, 1)), []) := by
  intro h vs hI ha
  match vs, ha with
  | [v1, v2, v3, v4], ⟨⟨t, e1, ht⟩, ⟨p, e2, _⟩, ⟨y, e3, _⟩, ⟨s, e4, hs⟩, _⟩ =>
    subst e1 e2 e3 e4
    obtain ⟨o1, o2, o3, o4⟩ := tx_f t ht
    obtain ⟨fs, p1, -, p3⟩ := hI.1 t o2 (by omega)
    rw [o1] at p1
    obtain ⟨w, w1, w2⟩ := p3 0 _ o3
    obtain ⟨b, rfl, hb⟩ := w2
    have hb : b = t + 1 := by
      cases hb with
      | head => rfl
      | tail _ w => exact absurd w List.not_mem_nil
    subst hb
    have hl100 := xsl_le s hs
    have hl := iN (n := xsl.getD s 0) (by omega)
    have fin : ∀ v : Int32, (v = 0 ∨ v = 1) → rOK (some (.inl (0, 1))) (some (.int v)) := fun v hv => by
      rcases hv with rfl | rfl
      · exact ⟨_, rfl, 0, rfl, by decide, by decide⟩
      · exact ⟨_, rfl, 1, rfl, by decide, by decide⟩
    by_cases hy : y = Int32.ofNat (xsl.getD s 0)
    · obtain ⟨n, v, r1, r2⟩ := l_116 (d := d) (p := p) hI p1 w1 o4 hs (xsl.getD s 0) 0 ((4, .int 0) :: xf1 4 (lv_args 0 [.ref t, .int p, .int y, .ref (1000000 + s)])) (by rw [i0]; omega) (by decide) rfl rfl rfl rfl
      refine ⟨some (.int v), h, 0, 0, yex_of (k := n + 6) rfl rfl rfl ?_, fin v r2, CST_rf hI⟩
      refine xit_l (q := (none, (_, [.int y], h, 0, 0))) rfl ?_
      refine xit_l (q := (none, (_, [.ref (1000000 + s), .int y], h, 0, 0))) rfl ?_
      refine xit_l (rlenS (calls := yex (d + 1)) hs (show xcs [.int y] ≤ 8 from Nat.le_of_ble_eq_true rfl)) ?_
      refine xit_l (rbt (calls := yex (d + 1)) (t := 6) (show xc_ieq [.int (Int32.ofNat (xsl.getD s 0)), .int y] = some (true, []) by show some (decide (y = Int32.ofNat (xsl.getD s 0)), ([] : List Value)) = _; rw [decide_eq_true hy])) ?_
      refine xit_l (q := (none, (_, [.int 0], h, 0, 0))) rfl ?_
      refine xit_l (q := (none, ((4, .int 0) :: xf1 4 (lv_args 0 [.ref t, .int p, .int y, .ref (1000000 + s)]), [], h, 0, 0))) rfl ?_
      exact r1
    · refine ⟨some (.int 0), h, 0, 0, yex_of (k := 6) rfl rfl rfl ?_, fin 0 (Or.inl rfl), CST_rf hI⟩
      refine xit_l (q := (none, (_, [.int y], h, 0, 0))) rfl ?_
      refine xit_l (q := (none, (_, [.ref (1000000 + s), .int y], h, 0, 0))) rfl ?_
      refine xit_l (rlenS (calls := yex (d + 1)) hs (show xcs [.int y] ≤ 8 from Nat.le_of_ble_eq_true rfl)) ?_
      refine xit_l (rbf (calls := yex (d + 1)) (t := 6) (show xc_ieq [.int (Int32.ofNat (xsl.getD s 0)), .int y] = some (false, []) by show some (decide (y = Int32.ofNat (xsl.getD s 0)), ([] : List Value)) = _; rw [decide_eq_false hy])) ?_
      refine xit_l (q := (none, (_, [.int 0], h, 0, 0))) rfl ?_
      exact xit_r rfl
end SPELL
