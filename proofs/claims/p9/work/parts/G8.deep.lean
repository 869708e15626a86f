/-! ===== the class: Reader.expectFirst, one too many ===== -/
theorem in2 {a b c : Nat} (h : a ∈ [b, c]) : a = b ∨ a = c := by
  rcases List.mem_cons.mp h with h | h
  · exact Or.inl h
  · exact Or.inr (List.mem_singleton.mp h)
/-- the reader, its program, text -/
theorem rdr {h : xH} (hI : INV h) : ∃ (P T K : Nat) (fs fp ft : List Value) (x f : Int32) (pl : Nat), h[82]? = some (.inr (5, fs)) ∧ fs[0]? = some (.ref P) ∧ fs[1]? = some (.ref T) ∧ fs[2]? = some (.ref K) ∧ fs[3]? = some (.int x) ∧ P ∈ [3, 39] ∧ K ∈ rowL ∧ h[P]? = some (.inr (4, fp)) ∧ fp[14]? = some (.int f) ∧ h[T]? = some (.inr (9, ft)) ∧ ft[2]? = some (.ref pl) ∧ pl ∈ rowL := by
  obtain ⟨fs, p1, -, p3⟩ := hI.1 82 (by decide) (by decide +kernel)
  obtain ⟨w0, a1, P, rfl, hP⟩ := p3 0 (.inr (.inl [3, 39])) (by decide +kernel)
  obtain ⟨w1, b1, T, rfl, hT⟩ := p3 1 (.inr (.inl [4, 40])) (by decide +kernel)
  obtain ⟨w2, c1, K, rfl, hK⟩ := p3 2 (.inr (.inl [7, 43])) (by decide +kernel)
  obtain ⟨w3, d1, x, rfl, -⟩ := p3 3 (.inl (0, 5000)) (by decide +kernel)
  have hKr : K ∈ rowL := by
    rcases in2 hK with rfl | rfl
    · exact cmem_ok (by decide +kernel)
    · exact cmem_ok (by decide +kernel)
  have hp : ∃ (fp : List Value) (f : Int32), h[P]? = some (.inr (4, fp)) ∧ fp[14]? = some (.int f) := by
    rcases in2 hP with rfl | rfl
    · obtain ⟨fp, q1, -, q3⟩ := hI.1 3 (by decide) (by decide +kernel)
      obtain ⟨w, e1, f, rfl, -⟩ := q3 14 kint (by decide +kernel)
      exact ⟨fp, f, q1, e1⟩
    · obtain ⟨fp, q1, -, q3⟩ := hI.1 39 (by decide) (by decide +kernel)
      obtain ⟨w, e1, f, rfl, -⟩ := q3 14 kint (by decide +kernel)
      exact ⟨fp, f, q1, e1⟩
  have ht : ∃ (ft : List Value) (pl : Nat), h[T]? = some (.inr (9, ft)) ∧ ft[2]? = some (.ref pl) ∧ pl ∈ rowL := by
    rcases in2 hT with rfl | rfl
    · obtain ⟨ft, q1, -, q3⟩ := hI.1 4 (by decide) (by decide +kernel)
      obtain ⟨w, e1, pl, rfl, hpl⟩ := q3 2 (.inr (.inl [9])) (by decide +kernel)
      rw [List.mem_singleton.mp hpl] at e1
      exact ⟨ft, 9, q1, e1, cmem_ok (by decide +kernel)⟩
    · obtain ⟨ft, q1, -, q3⟩ := hI.1 40 (by decide) (by decide +kernel)
      obtain ⟨w, e1, pl, rfl, hpl⟩ := q3 2 (.inr (.inl [45])) (by decide +kernel)
      rw [List.mem_singleton.mp hpl] at e1
      exact ⟨ft, 45, q1, e1, cmem_ok (by decide +kernel)⟩
  obtain ⟨fp, f, e1, e2⟩ := hp
  obtain ⟨ft, pl, g1, g2, g3⟩ := ht
  exact ⟨P, T, K, fs, fp, ft, x, f, pl, p1, a1, b1, c1, d1, hP, hKr, e1, e2, g1, g2, g3⟩
/-- there is a fault -/
def FLT (h : xH) : Prop := ∃ (P : Nat) (fs fp : List Value) (f : Int32), h[82]? = some (.inr (5, fs)) ∧ fs[0]? = some (.ref P) ∧ h[P]? = some (.inr (4, fp)) ∧ fp[14]? = some (.int f) ∧ ¬ f = 0
/-- a fault is written -/
theorem flt_put {h : xH} {P : Nat} {fs fp : List Value} {g : Int32} (hI : INV h) (h1 : h[82]? = some (.inr (5, fs))) (h2 : fs[0]? = some (.ref P)) (hP : P ∈ [3, 39]) (h3 : h[P]? = some (.inr (4, fp))) (hf : ∃ f : Int32, fp[14]? = some (.int f)) (hg : ¬ g = 0) : CST [(4, 14)] h (h.set P (.inr (4, fp.set 14 (.int g)))) 0 0 ∧ FLT (h.set P (.inr (4, fp.set 14 (.int g)))) := by
  obtain ⟨f, hf⟩ := hf
  have hl : P < h.length := (List.getElem?_eq_some_iff.mp h3).1
  have e82 : (h.set P (.inr (4, fp.set 14 (.int g))))[82]? = h[82]? := by
    rw [List.getElem?_set_ne]
    rcases in2 hP with rfl | rfl
    · decide
    · decide
  have eP : (h.set P (.inr (4, fp.set 14 (.int g))))[P]? = some (.inr (4, fp.set 14 (.int g))) := List.getElem?_set_self hl
  have h14 : 14 < fp.length := (List.getElem?_eq_some_iff.mp hf).1
  refine ⟨?_, P, fs, fp.set 14 (.int g), g, e82.trans h1, h2, eP, List.getElem?_set_self h14, hg⟩
  rcases in2 hP with rfl | rfl
  · exact put_gen (W := [(4, 14)]) (K := kint) (v := .int g) hI (by decide) (by decide +kernel) (show h[3]? = some (.inr (oc 3, fp)) from h3) (by decide +kernel) (vK_int g) (by decide +kernel) (by decide +kernel) (Or.inr (Or.inr (fun w => hg (Value.int.inj w))))
  · exact put_gen (W := [(4, 14)]) (K := kint) (v := .int g) hI (by decide) (by decide +kernel) (show h[39]? = some (.inr (oc 39, fp)) from h3) (by decide +kernel) (vK_int g) (by decide +kernel) (by decide +kernel) (Or.inr (Or.inr (fun w => hg (Value.int.inj w))))
theorem f16 (c p : Int32) (hc : c.toInt = 1 ∨ c.toInt = 5) : ¬ c + 16 * p = 0 := by
  intro w
  have h := congrArg Int32.toInt w
  rw [Int32.toInt_add, Int32.toInt_mul, show (16 : Int32).toInt = 16 by decide, i0] at h
  have b1 : ∀ z : Int, (z.bmod (2 ^ 32)) % 16 = z % 16 := fun z => by
    rw [Int.bmod_def, show ((2 ^ 32 : Nat) : Int) = 4294967296 by decide]
    split <;> omega
  have := b1 (c.toInt + (16 * p.toInt).bmod (2 ^ 32))
  rw [h] at this
  have := b1 (16 * p.toInt)
  omega
section EXF
variable {d : Nat} {h : xH}
/-- from the second question on -/
theorem l_74 {h : xH} (hI : INV h) (hF : FLT h) : xit (yex (d + 1)) xk_74 9 (some (.inl (xk_74.drop 26, (lv_args 0 [.ref 82, .int 1], [], h, 0, 0)))) = some (.inr (none, h, 0, 0)) := by
  obtain ⟨P, fs, fp, f, p1, p2, p3, p4, p5⟩ := hF
  refine xit_l (q := (none, (_, [.ref 82], h, 0, 0))) rfl ?_
  refine xit_l (rget (calls := yex (d + 1)) (ci := 5) (k := 0) p1 p2) ?_
  refine xit_l (rget (calls := yex (d + 1)) (ci := 4) (k := 14) p3 p4) ?_
  refine xit_l (rbt (calls := yex (d + 1)) (t := 50) (show xc_ne [.int f] = some (true, []) by show some (!decide (f = 0), ([] : List Value)) = _; rw [decide_eq_false p5]; rfl)) ?_
  refine xit_l (q := (none, (_, [.ref 82], h, 0, 0))) rfl ?_
  refine xit_l (rget (calls := yex (d + 1)) (ci := 5) (k := 0) p1 p2) ?_
  refine xit_l (rget (calls := yex (d + 1)) (ci := 4) (k := 14) p3 p4) ?_
  refine xit_l (rbt (calls := yex (d + 1)) (t := 60) (show xc_ne [.int f] = some (true, []) by show some (!decide (f = 0), ([] : List Value)) = _; rw [decide_eq_false p5]; rfl)) ?_
  exact xit_r rfl
theorem y_74 (hI : INV h) : ∃ h', yex (d + 2) 74 [.ref 82, .int 1] h = some (none, h', 0, 0) ∧ CST [(4, 14)] h h' 0 0 ∧ FLT h' := by
  obtain ⟨P, T, K, fs, fp, ft, x, f, pl, p1, p2, p3, p4, p5, hP, hK, q1, q2, t1, t2, hpl⟩ := rdr hI
  by_cases hf : f = 0
  · obtain ⟨g, g1, -⟩ := y_76 (d := d) (x := x) hI hK
    obtain ⟨v, v1, -⟩ := y_76 (d := d) (x := x) hI hpl
    obtain ⟨c1, n1, f1, z1, k1, -⟩ := row_of hI hK
    obtain ⟨c2, n2, f2, z2, k2, -⟩ := row_of hI hpl
    have e1 : (1 : Int32).toInt = 1 := by decide
    have pre : ∀ {k : Nat} {σ}, xit (yex (d + 1)) xk_74 k (some (.inl (xk_74.drop 12, (lv_args 0 [.ref 82, .int 1], [.int 1, .int g], h, 0, 0)))) = σ → xit (yex (d + 1)) xk_74 (k + 12) (some (.inl (xk_74, (lv_args 0 [.ref 82, .int 1], [], h, 0, 0)))) = σ := by
      intro k σ hσ
      refine xit_l (q := (none, (_, [.ref 82], h, 0, 0))) rfl ?_
      refine xit_l (rget (calls := yex (d + 1)) (ci := 5) (k := 0) p1 p2) ?_
      refine xit_l (rget (calls := yex (d + 1)) (ci := 4) (k := 14) q1 q2) ?_
      refine xit_l (rbf (calls := yex (d + 1)) (t := 26) (show xc_ne [.int f] = some (false, []) by show some (!decide (f = 0), ([] : List Value)) = _; rw [decide_eq_true hf]; rfl)) ?_
      refine xit_l (q := (none, (_, [.int 1], h, 0, 0))) rfl ?_
      refine xit_l (rbf (calls := yex (d + 1)) (t := 26) (show xc_eq [.int 1] = some (false, []) from rfl)) ?_
      refine xit_l (q := (none, (_, [.ref 82], h, 0, 0))) rfl ?_
      refine xit_l (rget (calls := yex (d + 1)) (ci := 5) (k := 2) p1 p4) ?_
      refine xit_l (q := (none, (_, [.ref 82, .ref K], h, 0, 0))) rfl ?_
      refine xit_l (rget (calls := yex (d + 1)) (ci := 5) (k := 3) p1 p5) ?_
      refine xit_l (rcg (k := 6) (calls := yex (d + 1)) (loc := lv_args 0 [.ref 82, .int 1]) (st := []) (cs := 0) (sl := 0) g1 rfl k1) ?_
      refine xit_l (q := (none, (_, [.int 1, .int g], h, 0, 0))) rfl ?_
      exact hσ
    by_cases hg : g = 1
    · obtain ⟨w1, w2⟩ := flt_put (g := 5 + 16 * v) hI p1 p2 hP q1 ⟨f, q2⟩ (f16 5 v (Or.inr (by decide)))
      refine ⟨_, yex_of (k := 9 + 14 + 12) rfl rfl rfl (pre ?_), w1, w2⟩
      refine xit_l (rbf (calls := yex (d + 1)) (t := 26) (show xc_ine [.int 1, .int g] = some (false, []) by show some (!decide (g = 1), ([] : List Value)) = _; rw [decide_eq_true hg]; rfl)) ?_
      refine xit_l (q := (none, (_, [.ref 82], h, 0, 0))) rfl ?_
      refine xit_l (rget (calls := yex (d + 1)) (ci := 5) (k := 0) p1 p2) ?_
      refine xit_l (q := (none, (_, [.int 5, .ref P], h, 0, 0))) rfl ?_
      refine xit_l (q := (none, (_, [.int 16, .int 5, .ref P], h, 0, 0))) rfl ?_
      refine xit_l (q := (none, (_, [.ref 82, .int 16, .int 5, .ref P], h, 0, 0))) rfl ?_
      refine xit_l (rget (calls := yex (d + 1)) (ci := 5) (k := 1) p1 p3) ?_
      refine xit_l (rget (calls := yex (d + 1)) (ci := 9) (k := 2) t1 t2) ?_
      refine xit_l (q := (none, (_, [.ref 82, .ref pl, .int 16, .int 5, .ref P], h, 0, 0))) rfl ?_
      refine xit_l (rget (calls := yex (d + 1)) (ci := 5) (k := 3) p1 p5) ?_
      refine xit_l (rcg (k := 6) (calls := yex (d + 1)) (loc := lv_args 0 [.ref 82, .int 1]) (st := [.int 16, .int 5, .ref P]) (cs := 0) (sl := 0) v1 rfl k2) ?_
      refine xit_l (q := (none, (_, [.int (16 * v), .int 5, .ref P], h, 0, 0))) rfl ?_
      refine xit_l (q := (none, (_, [.int (5 + 16 * v), .ref P], h, 0, 0))) rfl ?_
      refine xit_l (rput (calls := yex (d + 1)) (k := 14) (t := 0) q1 (show Nat.blt 14 fp.length = true from Nat.ble_eq_true_of_le (List.getElem?_eq_some_iff.mp q2).1) rfl) ?_
      exact l_74 w1.1 w2
    · obtain ⟨w1, w2⟩ := flt_put (g := 1 + 16 * v) hI p1 p2 hP q1 ⟨f, q2⟩ (f16 1 v (Or.inl (by decide)))
      obtain ⟨P', fs', fp', f', i1, i2, i3, i4, i5⟩ := id w2
      refine ⟨_, yex_of (k := 5 + 25 + 12) rfl rfl rfl (pre ?_), w1, w2⟩
      refine xit_l (rbt (calls := yex (d + 1)) (t := 26) (show xc_ine [.int 1, .int g] = some (true, []) by show some (!decide (g = 1), ([] : List Value)) = _; rw [decide_eq_false hg]; rfl)) ?_
      refine xit_l (q := (none, (_, [.ref 82], h, 0, 0))) rfl ?_
      refine xit_l (rget (calls := yex (d + 1)) (ci := 5) (k := 0) p1 p2) ?_
      refine xit_l (rget (calls := yex (d + 1)) (ci := 4) (k := 14) q1 q2) ?_
      refine xit_l (rbf (calls := yex (d + 1)) (t := 50) (show xc_ne [.int f] = some (false, []) by show some (!decide (f = 0), ([] : List Value)) = _; rw [decide_eq_true hf]; rfl)) ?_
      refine xit_l (q := (none, (_, [.ref 82], h, 0, 0))) rfl ?_
      refine xit_l (rget (calls := yex (d + 1)) (ci := 5) (k := 2) p1 p4) ?_
      refine xit_l (q := (none, (_, [.ref 82, .ref K], h, 0, 0))) rfl ?_
      refine xit_l (rget (calls := yex (d + 1)) (ci := 5) (k := 3) p1 p5) ?_
      refine xit_l (rcg (k := 6) (calls := yex (d + 1)) (loc := lv_args 0 [.ref 82, .int 1]) (st := []) (cs := 0) (sl := 0) g1 rfl k1) ?_
      refine xit_l (q := (none, (_, [.int 1, .int g], h, 0, 0))) rfl ?_
      refine xit_l (rbf (calls := yex (d + 1)) (t := 50) (show xc_ieq [.int 1, .int g] = some (false, []) by show some (decide (g = 1), ([] : List Value)) = _; rw [decide_eq_false hg])) ?_
      refine xit_l (q := (none, (_, [.ref 82], h, 0, 0))) rfl ?_
      refine xit_l (rget (calls := yex (d + 1)) (ci := 5) (k := 0) p1 p2) ?_
      refine xit_l (q := (none, (_, [.int 1, .ref P], h, 0, 0))) rfl ?_
      refine xit_l (q := (none, (_, [.int 16, .int 1, .ref P], h, 0, 0))) rfl ?_
      refine xit_l (q := (none, (_, [.ref 82, .int 16, .int 1, .ref P], h, 0, 0))) rfl ?_
      refine xit_l (rget (calls := yex (d + 1)) (ci := 5) (k := 1) p1 p3) ?_
      refine xit_l (rget (calls := yex (d + 1)) (ci := 9) (k := 2) t1 t2) ?_
      refine xit_l (q := (none, (_, [.ref 82, .ref pl, .int 16, .int 1, .ref P], h, 0, 0))) rfl ?_
      refine xit_l (rget (calls := yex (d + 1)) (ci := 5) (k := 3) p1 p5) ?_
      refine xit_l (rcg (k := 6) (calls := yex (d + 1)) (loc := lv_args 0 [.ref 82, .int 1]) (st := [.int 16, .int 1, .ref P]) (cs := 0) (sl := 0) v1 rfl k2) ?_
      refine xit_l (q := (none, (_, [.int (16 * v), .int 1, .ref P], h, 0, 0))) rfl ?_
      refine xit_l (q := (none, (_, [.int (1 + 16 * v), .ref P], h, 0, 0))) rfl ?_
      refine xit_l (rput (calls := yex (d + 1)) (k := 14) (t := 0) q1 (show Nat.blt 14 fp.length = true from Nat.ble_eq_true_of_le (List.getElem?_eq_some_iff.mp q2).1) rfl) ?_
      refine xit_l (q := (none, (_, [.ref 82], _, 0, 0))) rfl ?_
      refine xit_l (rget (calls := yex (d + 1)) (ci := 5) (k := 0) i1 i2) ?_
      refine xit_l (rget (calls := yex (d + 1)) (ci := 4) (k := 14) i3 i4) ?_
      refine xit_l (rbt (calls := yex (d + 1)) (t := 60) (show xc_ne [.int f'] = some (true, []) by show some (!decide (f' = 0), ([] : List Value)) = _; rw [decide_eq_false i5]; rfl)) ?_
      exact xit_r rfl
  · refine ⟨h, yex_of (k := 9 + 4) rfl rfl rfl ?_, CST_rf hI, P, fs, fp, f, p1, p2, q1, q2, hf⟩
    refine xit_l (q := (none, (_, [.ref 82], h, 0, 0))) rfl ?_
    refine xit_l (rget (calls := yex (d + 1)) (ci := 5) (k := 0) p1 p2) ?_
    refine xit_l (rget (calls := yex (d + 1)) (ci := 4) (k := 14) q1 q2) ?_
    refine xit_l (rbt (calls := yex (d + 1)) (t := 26) (show xc_ne [.int f] = some (true, []) by show some (!decide (f = 0), ([] : List Value)) = _; rw [decide_eq_false hf]; rfl)) ?_
    exact l_74 hI ⟨P, fs, fp, f, p1, p2, q1, q2, hf⟩
/-- passType, one too deep -/
theorem k_67 : CTR (yex (d + 3)) 67 ([.inr (.inl [82]), .inl (11, 11), kint], none, [(4, 14)]) := by
  intro h vs hI ha
  match vs, ha with
  | [v1, v2, v3], ⟨⟨a, e1, ha⟩, ⟨x, e2, x1, x2⟩, ⟨y, e3, _⟩, _⟩ =>
    have ha : a = 82 := List.mem_singleton.mp ha
    subst e1 e2 e3 ha
    obtain ⟨h', y1, y2, P, fs, fp, f, p1, p2, p3, p4, p5⟩ := y_74 (d := d) hI
    obtain ⟨fs0, b1, -⟩ := hI.1 82 (by decide) (by decide +kernel)
    have e10 : (10 : Int32).toInt = 10 := by decide
    refine ⟨none, h', 0, 0, yex_of (k := 12) rfl rfl rfl ?_, rfl, y2⟩
    refine xit_l (q := (none, (_, [.ref 82], h, 0, 0))) rfl ?_
    refine xit_l (q := (none, (_, [.int x, .ref 82], h, 0, 0))) rfl ?_
    refine xit_l (q := (none, (_, [.int 10, .int x, .ref 82], h, 0, 0))) rfl ?_
    refine xit_l (rbt (calls := yex (d + 2)) (t := 7) (show xc_igt [.int 10, .int x, .ref 82] = some (true, [.ref 82]) by show some (decide (10 < x), [Value.ref 82]) = _; rw [decide_eq_true ((i_lt e10 rfl).mpr (by omega))])) ?_
    refine xit_l (q := (none, (_, [.int 1, .ref 82], h, 0, 0))) rfl ?_
    refine xit_l (q := (some 10, (_, [.int 1, .ref 82], h, 0, 0))) rfl ?_
    refine xit_l (rcv2 (k := 5) (calls := yex (d + 2)) (loc := lv_args 0 [.ref 82, .int x, .int y]) (st := []) (cs := 0) (sl := 0) y1 rfl b1) ?_
    refine xit_l (q := (none, (_, [.ref 82], h', 0, 0))) rfl ?_
    refine xit_l (rget (calls := yex (d + 2)) (ci := 5) (k := 0) p1 p2) ?_
    refine xit_l (rget (calls := yex (d + 2)) (ci := 4) (k := 14) p3 p4) ?_
    refine xit_l (rbt (calls := yex (d + 2)) (t := 25) (show xc_ne [.int f] = some (true, []) by show some (!decide (f = 0), ([] : List Value)) = _; rw [decide_eq_false p5]; rfl)) ?_
    exact xit_r rfl
/-- passValue, one too deep -/
theorem k_69 : CTR (yex (d + 3)) 69 ([.inr (.inl [82]), .inl (11, 11), kint], none, [(4, 14)]) := by
  intro h vs hI ha
  match vs, ha with
  | [v1, v2, v3], ⟨⟨a, e1, ha⟩, ⟨x, e2, x1, x2⟩, ⟨y, e3, _⟩, _⟩ =>
    have ha : a = 82 := List.mem_singleton.mp ha
    subst e1 e2 e3 ha
    obtain ⟨h', y1, y2, P, fs, fp, f, p1, p2, p3, p4, p5⟩ := y_74 (d := d) hI
    obtain ⟨P0', T0, K0, fs0, fp0, ft0, z, f0, pl0, b1, -, -, -, b5, -⟩ := rdr hI
    have e10 : (10 : Int32).toInt = 10 := by decide
    refine ⟨none, h', 0, 0, yex_of (k := 25) rfl rfl rfl ?_, rfl, y2⟩
    refine xit_l (q := (none, (_, [.ref 82], h, 0, 0))) rfl ?_
    refine xit_l (rget (calls := yex (d + 2)) (ci := 5) (k := 3) b1 b5) ?_
    refine xit_l (q := (none, ((3, .int z) :: lv_args 0 [.ref 82, .int x, .int y], [], h, 0, 0))) rfl ?_
    refine xit_l (q := (none, (_, [.ref 82], h, 0, 0))) rfl ?_
    refine xit_l (q := (none, (_, [.int x, .ref 82], h, 0, 0))) rfl ?_
    refine xit_l (q := (none, (_, [.int 10, .int x, .ref 82], h, 0, 0))) rfl ?_
    refine xit_l (rbt (calls := yex (d + 2)) (t := 10) (show xc_igt [.int 10, .int x, .ref 82] = some (true, [.ref 82]) by show some (decide (10 < x), [Value.ref 82]) = _; rw [decide_eq_true ((i_lt e10 rfl).mpr (by omega))])) ?_
    refine xit_l (q := (none, (_, [.int 1, .ref 82], h, 0, 0))) rfl ?_
    refine xit_l (q := (some 13, (_, [.int 1, .ref 82], h, 0, 0))) rfl ?_
    refine xit_l (rcv2 (k := 5) (calls := yex (d + 2)) (loc := (3, .int z) :: lv_args 0 [.ref 82, .int x, .int y]) (st := []) (cs := 0) (sl := 0) y1 rfl b1) ?_
    refine xit_l (q := (none, (_, [.ref 82], h', 0, 0))) rfl ?_
    refine xit_l (rget (calls := yex (d + 2)) (ci := 5) (k := 0) p1 p2) ?_
    refine xit_l (rget (calls := yex (d + 2)) (ci := 4) (k := 14) p3 p4) ?_
    refine xit_l (rbt (calls := yex (d + 2)) (t := 48) (show xc_ne [.int f] = some (true, []) by show some (!decide (f = 0), ([] : List Value)) = _; rw [decide_eq_false p5]; rfl)) ?_
    refine xit_l (q := (none, (_, [.int 0], h', 0, 0))) rfl ?_
    refine xit_l (q := (none, ((4, .int 0) :: (3, .int z) :: lv_args 0 [.ref 82, .int x, .int y], [], h', 0, 0))) rfl ?_
    refine xit_l (q := (none, (_, [.int 0], h', 0, 0))) rfl ?_
    refine xit_l (q := (none, (_, [.int 20, .int 0], h', 0, 0))) rfl ?_
    refine xit_l (rbf (calls := yex (d + 2)) (t := 79) (show xc_igt [.int 20, .int 0] = some (false, []) from rfl)) ?_
    refine xit_l (q := (none, (_, [.ref 82], h', 0, 0))) rfl ?_
    refine xit_l (rget (calls := yex (d + 2)) (ci := 5) (k := 0) p1 p2) ?_
    refine xit_l (rget (calls := yex (d + 2)) (ci := 4) (k := 14) p3 p4) ?_
    refine xit_l (rbt (calls := yex (d + 2)) (t := 79) (show xc_ne [.int f] = some (true, []) by show some (!decide (f = 0), ([] : List Value)) = _; rw [decide_eq_false p5]; rfl)) ?_
    exact xit_r rfl
end EXF
