/-! ===== the class: Machine.env, in any state ===== -/
section ZZZIA
variable {d : Nat} {h : xH} {x : Int32}
theorem y_24e (hI : INV h) : ∃ e : Nat, skE e = true ∧ (0 ≤ x.toInt → x.toInt < 42 → e = 113 + 2 * x.toInt.toNat) ∧ yex (d + 1) 24 [.ref 105, .int x] h = some (some (.ref e), h, 0, 0) := by
  obtain ⟨f, f1, f2⟩ := hI.2.2.2
  obtain ⟨fs, p1, -, p3⟩ := hI.1 105 (by decide) (by decide)
  have p1 : h[105]? = some (.inr (2, fs)) := p1
  obtain ⟨w, w1, w2⟩ := p3 3 (.inr (.inl [110])) (by decide +kernel)
  obtain ⟨b, rfl, hb⟩ := w2
  have hb : b = 110 := by
    cases hb with
    | head => rfl
    | tail _ w => exact absurd w List.not_mem_nil
  subst hb
  have z42 : (Int32.ofNat 42).toInt = 42 := by decide
  have base : ∀ m σ, xit (yex d) xk_24 (m + 5) (some (.inl (xk_24.drop 12, (lv_args 0 [.ref 105, .int x], [], h, 0, 0)))) = σ → σ = some (.inr (some (.ref 113), h, 0, 0)) := by
    intro m σ hσ
    rw [← hσ]
    refine xit_l (q := (none, (_, [.ref 105], h, 0, 0))) rfl ?_
    refine xit_l (rget (calls := yex d) (ci := 2) (k := 3) p1 w1) ?_
    refine xit_l (q := (none, (_, [.int 0, .ref 110], h, 0, 0))) rfl ?_
    refine xit_l (raal (calls := yex d) f1 (i := 0) (b := 113) (by decide) (f2 0 (by decide))) ?_
    exact xit_r rfl
  by_cases h0 : x ≤ 0
  · refine ⟨113, by decide, fun _ _ => by have := (i_le (x := x) (y := 0) rfl i0).mp h0; omega, yex_of (k := 7) rfl rfl rfl ?_⟩
    refine xit_l (q := (none, (_, [.int x], h, 0, 0))) rfl ?_
    refine xit_l (rbt (calls := yex d) (t := 12) (show xc_le [.int x] = some (true, []) by show some (decide (x ≤ 0), ([] : List Value)) = _; rw [decide_eq_true h0])) ?_
    exact base 0 _ rfl
  · have x0 : 0 < x.toInt := by
      have := mt (i_le rfl i0).mpr h0
      omega
    by_cases h1 : x.toInt < 42
    · have sk : ∀ i, i < 42 → skE (113 + 2 * i) = true := by decide
      refine ⟨113 + 2 * x.toInt.toNat, sk _ (by omega), fun _ _ => rfl, yex_of (k := 13) rfl rfl rfl ?_⟩
      refine xit_l (q := (none, (_, [.int x], h, 0, 0))) rfl ?_
      refine xit_l (rbf (calls := yex d) (t := 12) (show xc_le [.int x] = some (false, []) by show some (decide (x ≤ 0), ([] : List Value)) = _; rw [decide_eq_false h0])) ?_
      refine xit_l (q := (none, (_, [.int x], h, 0, 0))) rfl ?_
      refine xit_l (q := (none, (_, [.ref 105, .int x], h, 0, 0))) rfl ?_
      refine xit_l (rget (calls := yex d) (ci := 2) (k := 3) p1 w1) ?_
      refine xit_l (rlen3 (calls := yex d) f1) ?_
      refine xit_l (rbf (calls := yex d) (t := 12) (show xc_ige [.int (Int32.ofNat 42), .int x] = some (false, []) by show some (decide (Int32.ofNat 42 ≤ x), ([] : List Value)) = _; rw [decide_eq_false (fun w => by have := (i_le z42 rfl).mp w; omega)])) ?_
      refine xit_l (q := (none, (_, [.ref 105], h, 0, 0))) rfl ?_
      refine xit_l (rget (calls := yex d) (ci := 2) (k := 3) p1 w1) ?_
      refine xit_l (q := (none, (_, [.int x, .ref 110], h, 0, 0))) rfl ?_
      refine xit_l (raal (calls := yex d) f1 (i := x) (by omega) (f2 x.toInt.toNat (by omega))) ?_
      refine xit_l (q := (some 16, (_, [.ref (113 + 2 * x.toInt.toNat)], h, 0, 0))) rfl ?_
      exact xit_r rfl
    · refine ⟨113, by decide, fun _ w => absurd w h1, yex_of (k := 12) rfl rfl rfl ?_⟩
      refine xit_l (q := (none, (_, [.int x], h, 0, 0))) rfl ?_
      refine xit_l (rbf (calls := yex d) (t := 12) (show xc_le [.int x] = some (false, []) by show some (decide (x ≤ 0), ([] : List Value)) = _; rw [decide_eq_false h0])) ?_
      refine xit_l (q := (none, (_, [.int x], h, 0, 0))) rfl ?_
      refine xit_l (q := (none, (_, [.ref 105, .int x], h, 0, 0))) rfl ?_
      refine xit_l (rget (calls := yex d) (ci := 2) (k := 3) p1 w1) ?_
      refine xit_l (rlen3 (calls := yex d) f1) ?_
      refine xit_l (rbt (calls := yex d) (t := 12) (show xc_ige [.int (Int32.ofNat 42), .int x] = some (true, []) by show some (decide (Int32.ofNat 42 ≤ x), ([] : List Value)) = _; rw [decide_eq_true ((i_le z42 rfl).mpr (by omega))])) ?_
      exact base 0 _ rfl
theorem zw_24 {P : Nat} {s : zS} {a1 : Int32} : Zt (d + 9) (wd2 P 24) 24 [.ref 105, .int a1] s (fun v s' => s' = s ∧ ∃ e : Nat, skE e = true ∧ v = some (.ref e)) := fun hh hI hq => by
  obtain ⟨e, he, -, hy⟩ := y_24e (d := d + 8) (x := a1) hI
  exact ⟨some (.ref e), hh, 0, 0, s, ⟨rfl, e, he, rfl⟩, hq.1, CSY_rf hI, hy⟩
theorem zs_24 {P : Nat} {s : zS} {a1 : Int32} (h0 : 0 ≤ a1.toInt) (h1 : a1.toInt < 42) : Zt (d + 9) (wd2 P 24) 24 [.ref 105, .int a1] s (fun v s' => s' = s ∧ skE (113 + 2 * a1.toInt.toNat) = true ∧ v = some (.ref (113 + 2 * a1.toInt.toNat))) := fun hh hI hq => by
  obtain ⟨e, he, hx, hy⟩ := y_24e (d := d + 8) (x := a1) hI
  rw [hx h0 h1] at he hy
  exact ⟨some (.ref (113 + 2 * a1.toInt.toNat)), hh, 0, 0, s, ⟨rfl, he, rfl⟩, hq.1, CSY_rf hI, hy⟩
end ZZZIA
