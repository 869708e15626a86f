/-! ===== feed: what the tape holds, in both ===== -/
/-- a sign, and how the tape goes on: what it holds, its size -/
def lyp (x : Int64) (a3 : Int32) (p : (Nat → Int32) × Int32) : (Nat → Int32) × Int32 := if layc x a3 p.2 = p.2 then p else (fun i => if i = p.2.toInt.toNat then sgn x a3 else p.1 i, layc x a3 p.2)
def lyk (x : Int64) : Nat → Int32 → (Nat → Int32) × Int32 → (Nat → Int32) × Int32
  | 0, _, p => p
  | k + 1, a3, p => lyk x k (a3 + (-8)) (lyp x a3 p)
def fdk (a b c : Int64) (p : (Nat → Int32) × Int32) : (Nat → Int32) × Int32 := lyk c 8 56 (lyk b 8 56 (lyk a 8 56 p))
/-- the tape holds p; the other Rows stay -/
def fdC (p : (Nat → Int32) × Int32) (h h' : xH) : Prop := (∀ i, rv h' 1 i = p.1 i) ∧ ∀ b ∈ rowL, ¬ b = 1 → ∀ j, rv h' b j = rv h b j
/-- alike as far as the size goes -/
def Agt (p p' : (Nat → Int32) × Int32) : Prop := p.2 = p'.2 ∧ ∀ i : Nat, (i : Int) < p.2.toInt → p.1 i = p'.1 i
section FDC
variable {d : Nat} {x : Int64} {a3 z : Int32}
theorem lyp_no {g : Nat → Int32} (e : layc x a3 z = z) : lyp x a3 (g, z) = (g, z) := if_pos e
theorem lyp_2 {p : (Nat → Int32) × Int32} : (lyp x a3 p).2 = layc x a3 p.2 := by
  unfold lyp
  by_cases e : layc x a3 p.2 = p.2
  · rw [if_pos e, e]
  · rw [if_neg e]
theorem lyk_2 : ∀ (k : Nat) (a3 : Int32) (p : (Nat → Int32) × Int32), (lyk x k a3 p).2 = layn x k a3 p.2
  | 0, _, _ => rfl
  | k + 1, a3, p => by
    show (lyk x k (a3 + (-8)) (lyp x a3 p)).2 = layn x k (a3 + (-8)) (layc x a3 p.2)
    rw [lyk_2 k, lyp_2]
theorem lyp_yes {g g1 : Nat → Int32} {v : Int32} (h0 : 0 ≤ z.toInt) (hv : v = sgn x a3) (e : layc x a3 z = if z < Int32.ofNat (lim 1) then z + 1 else z) (r : ∀ j, g1 j = if (1 : Nat) = 1 ∧ (0 ≤ z.toInt ∧ z.toInt < (lim 1 : Int)) ∧ j = z.toInt.toNat then v else g j) : lyp x a3 (g, z) = (g1, if z < Int32.ofNat (lim 1) then z + 1 else z) := by
  have e4k : (Int32.ofNat (lim 1)).toInt = 4000 := by rw [lim_1]; decide
  unfold lyp
  by_cases hz4 : z < Int32.ofNat (lim 1)
  · have h4 := (i_lt rfl e4k).mp hz4
    have e1 : (z + 1).toInt = z.toInt + 1 := i_add rfl (show (1 : Int32).toInt = 1 by decide) (by omega)
    dsimp only
    rw [if_neg (by rw [e, if_pos hz4]; intro w; have := congrArg Int32.toInt w; omega), e]
    refine Prod.ext (funext fun j => ?_) rfl
    show (if j = z.toInt.toNat then sgn x a3 else g j) = g1 j
    rw [r j]
    by_cases hj : j = z.toInt.toNat
    · rw [if_pos hj, if_pos ⟨rfl, ⟨h0, by rw [lim_1]; omega⟩, hj⟩, hv]
    · rw [if_neg hj, if_neg (fun w => hj w.2.2)]
  · have h4 := mt (i_lt rfl e4k).mpr hz4
    dsimp only
    rw [if_pos (by rw [e, if_neg hz4]), if_neg hz4]
    refine Prod.ext (funext fun j => ?_) rfl
    show g j = g1 j
    rw [r j, if_neg (fun w => by have := w.2.1.2; rw [lim_1] at this; omega)]
theorem z_nn {h : xH} (hI : INV h) (hz : fld h 1 2 = some (.int z)) : 0 ≤ z.toInt := by
  obtain ⟨y, e, g⟩ := isIf_ok hI (a := 1) (k := 2) (by decide +kernel)
  rw [hz] at e
  have e : z = y := by
    cases e
    rfl
  rw [e]
  exact (g 0 4000 (by decide +kernel)).1
theorem l_151c : ∀ (k : Nat) (a3 : Int32) (h : xH) (loc : cLoc) (z : Int32) (cs sl : Nat), a3.toInt = 8 * (k : Int) - 8 → k ≤ 8 → INV h → fld h 1 2 = some (.int z) → xlk 0 loc = some (.ref 0) → xlk 1 loc = some (.long x) → xlk 3 loc = some (.int a3) → ∃ m h' cs' sl', xit (yex (d + 3)) xk_151 m (some (.inl (xk_151.drop 2, (loc, [], h, cs, sl)))) = some (.inr (none, h', cs + cs', sl + sl')) ∧ CST [(100, 1), (100, 2)] h h' cs' sl' ∧ fld h' 1 2 = some (.int (layn x k a3 z)) ∧ fdC (lyk x k a3 (rv h 1, z)) h h'
  | 0, a3, h, loc, z, cs, sl, ha, hk, hI, hz, l0, l1, l3 => by
    refine ⟨3, h, 0, 0, ?_, CST_rf hI, hz, fun _ => rfl, fun _ _ _ _ => rfl⟩
    refine xit_l (rld (calls := yex (d + 3)) (ok := xisI) l3 rfl) ?_
    refine xit_l (rbt (calls := yex (d + 3)) (t := 26) (show xc_lt [.int a3] = some (true, []) by show some (decide (a3 < 0), ([] : List Value)) = _; rw [decide_eq_true ((i_lt rfl i0).mpr (by omega))])) ?_
    exact xit_r rfl
  | k + 1, a3, h, loc, z, cs, sl, ha, hk, hI, hz, l0, l1, l3 => by
    have ec : sgu x a3 = sgn x a3 := sgQ (k := k) (by omega) (by omega)
    have tl : ∀ (h1 : xH) (loc1 : cLoc) (z1 : Int32) (cs1 sl1 : Nat), INV h1 → fld h1 1 2 = some (.int z1) → xlk 0 loc1 = some (.ref 0) → xlk 1 loc1 = some (.long x) → xlk 3 loc1 = some (.int a3) → ∃ m h' cs' sl', xit (yex (d + 3)) xk_151 m (some (.inl (xk_151.drop 24, (loc1, [], h1, cs1, sl1)))) = some (.inr (none, h', cs1 + cs', sl1 + sl')) ∧ CST [(100, 1), (100, 2)] h1 h' cs' sl' ∧ fld h' 1 2 = some (.int (layn x k (a3 + (-8)) z1)) ∧ fdC (lyk x k (a3 + (-8)) (rv h1 1, z1)) h1 h' := by
      intro h1 loc1 z1 cs1 sl1 i1 i2 i3 i4 i5
      have e8 : (a3 + Int32.ofInt (-8)).toInt = a3.toInt - 8 := i_add rfl (show (Int32.ofInt (-8)).toInt = -8 by decide) (by omega)
      obtain ⟨m, h', cs', sl', q1, q2, q3, q4⟩ := l_151c k (a3 + Int32.ofInt (-8)) h1 ((3, .int (a3 + Int32.ofInt (-8))) :: xf1 3 loc1) z1 cs1 sl1 (by omega) (by omega) i1 i2 (lo_keep 0 _ (by decide) (fun w => absurd w.1 (by decide)) i3) (lo_keep 1 _ (by decide) (fun w => absurd w.1 (by decide)) i4) xlk_cons
      refine ⟨m + 2, h', cs', sl', ?_, q2, q3, q4⟩
      refine xit_l (rinc (calls := yex (d + 3)) (c := -8) i5) ?_
      refine xit_l (q := (some 2, (_, [], h1, cs1, sl1))) rfl ?_
      exact q1
    have l0' : xlk 0 ((4, .int (sgu x a3)) :: xf1 4 loc) = some (.ref 0) := lo_keep 0 _ (by decide) (fun w => absurd w.1 (by decide)) l0
    have l1' : xlk 1 ((4, .int (sgu x a3)) :: xf1 4 loc) = some (.long x) := lo_keep 1 _ (by decide) (fun w => absurd w.1 (by decide)) l1
    have l3' : xlk 3 ((4, .int (sgu x a3)) :: xf1 4 loc) = some (.int a3) := lo_keep 3 _ (by decide) (fun w => absurd w.2 (show ¬ (1 : Nat) = 2 by decide)) l3
    have l4' : xlk 4 ((4, .int (sgu x a3)) :: xf1 4 loc) = some (.int (sgu x a3)) := xlk_cons
    have no : layc x a3 z = z → ∃ m h' cs' sl', xit (yex (d + 3)) xk_151 m (some (.inl (xk_151.drop 24, ((4, .int (sgu x a3)) :: xf1 4 loc, [], h, cs, sl)))) = some (.inr (none, h', cs + cs', sl + sl')) ∧ CST [(100, 1), (100, 2)] h h' cs' sl' ∧ fld h' 1 2 = some (.int (layn x (k + 1) a3 z)) ∧ fdC (lyk x (k + 1) a3 (rv h 1, z)) h h' := fun e => by
      obtain ⟨m, h', cs', sl', t1, t2, t3, t4⟩ := tl h _ z cs sl hI hz l0' l1' l3'
      refine ⟨m, h', cs', sl', t1, t2, ?_, ?_⟩
      · rw [show layn x (k + 1) a3 z = layn x k (a3 + (-8)) (layc x a3 z) from rfl, e]
        exact t3
      · show fdC (lyk x k (a3 + (-8)) (lyp x a3 (rv h 1, z))) h h'
        rw [lyp_no e]
        exact t4
    have yes : layc x a3 z = (if z < Int32.ofNat (lim 1) then z + 1 else z) → ∃ m h' cs' sl', xit (yex (d + 3)) xk_151 m (some (.inl (xk_151.drop 20, ((4, .int (sgu x a3)) :: xf1 4 loc, [], h, cs, sl)))) = some (.inr (none, h', cs + cs', sl + sl')) ∧ CST [(100, 1), (100, 2)] h h' cs' sl' ∧ fld h' 1 2 = some (.int (layn x (k + 1) a3 z)) ∧ fdC (lyk x (k + 1) a3 (rv h 1, z)) h h' := fun e => by
      obtain ⟨fs, b1, b2⟩ := bench hI
      obtain ⟨c, n, f, z', p1, -⟩ := row_of hI row_1
      obtain ⟨h1, cs1, sl1, s1, s2, s3, s4, -⟩ := y_78z (d := d) (v := sgu x a3) hI row_1 hz (ck_1 _) (fun w => absurd w (by decide))
      obtain ⟨m, h', cs', sl', t1, t2, t3, t4⟩ := tl h1 _ _ (cs + cs1) (sl + sl1) s2.1 s3 l0' l1' l3'
      refine ⟨m + 4, h', cs1 + cs', sl1 + sl', ?_, CST_tr s2 t2, ?_, ?_⟩
      · refine xit_l (rld (calls := yex (d + 3)) (ok := xisA) l0' rfl) ?_
        refine xit_l (rget (calls := yex (d + 3)) (ci := 11) (k := 0) b1 b2) ?_
        refine xit_l (rld (calls := yex (d + 3)) (ok := xisI) l4' rfl) ?_
        refine xit_l (rcv2 (k := 6) (calls := yex (d + 3)) (loc := (4, .int (sgu x a3)) :: xf1 4 loc) (st := []) (cs := cs) (sl := sl) s1 rfl p1) ?_
        rw [← Nat.add_assoc, ← Nat.add_assoc]
        exact t1
      · rw [show layn x (k + 1) a3 z = layn x k (a3 + (-8)) (layc x a3 z) from rfl, e]
        exact t3
      · show fdC (lyk x k (a3 + (-8)) (lyp x a3 (rv h 1, z))) h h'
        rw [lyp_yes (z_nn hI hz) ec e (fun j => s4 1 row_1 j)]
        exact ⟨t4.1, fun b hb hb1 j => (t4.2 b hb hb1 j).trans (by rw [s4 b hb j, if_neg (fun w => hb1 w.1)])⟩
    have e10 : (10 : Int32).toInt = 10 := by decide
    have e32 : (32 : Int32).toInt = 32 := by decide
    have e126 : (126 : Int32).toInt = 126 := by decide
    have e4k : (Int32.ofNat (lim 1)).toInt = 4000 := by rw [lim_1]; decide
    have lc : layc x a3 z = if ((sgu x a3).toInt = 10 ∨ (¬ (sgu x a3).toInt < 32 ∧ ¬ 126 < (sgu x a3).toInt)) ∧ ¬ 4000 ≤ z.toInt then z + 1 else z := by
      rw [ec]
      rfl
    have lcy : ((sgu x a3).toInt = 10 ∨ (¬ (sgu x a3).toInt < 32 ∧ ¬ 126 < (sgu x a3).toInt)) → layc x a3 z = (if z < Int32.ofNat (lim 1) then z + 1 else z) := fun q => by
      rw [lc]
      by_cases hz4 : z < Int32.ofNat (lim 1)
      · have := (i_lt rfl e4k).mp hz4
        rw [if_pos ⟨q, by omega⟩, if_pos hz4]
      · have := mt (i_lt rfl e4k).mpr hz4
        rw [if_neg (fun w => w.2 (by omega)), if_neg hz4]
    have lcn : ¬ ((sgu x a3).toInt = 10 ∨ (¬ (sgu x a3).toInt < 32 ∧ ¬ 126 < (sgu x a3).toInt)) → layc x a3 z = z := fun q => by
      rw [lc, if_neg (fun w => q w.1)]
    have pre : ∀ {m : Nat} {σ}, xit (yex (d + 3)) xk_151 m (some (.inl (xk_151.drop 11, ((4, .int (sgu x a3)) :: xf1 4 loc, [], h, cs, sl)))) = σ → xit (yex (d + 3)) xk_151 (m + 9) (some (.inl (xk_151.drop 2, (loc, [], h, cs, sl)))) = σ := by
      intro m σ hσ
      refine xit_l (rld (calls := yex (d + 3)) (ok := xisI) l3 rfl) ?_
      refine xit_l (rbf (calls := yex (d + 3)) (t := 26) (show xc_lt [.int a3] = some (false, []) by show some (decide (a3 < 0), ([] : List Value)) = _; rw [decide_eq_false (fun w => by have := (i_lt rfl i0).mp w; omega)])) ?_
      refine xit_l (rld (calls := yex (d + 3)) (ok := xisL) l1 rfl) ?_
      refine xit_l (rld (calls := yex (d + 3)) (ok := xisI) l3 rfl) ?_
      refine xit_l (q := (none, (_, [.long (x.toUInt64 >>> (a3.toInt64.toUInt64 &&& Int64.toUInt64 63)).toInt64], h, cs, sl))) rfl ?_
      refine xit_l (q := (none, (_, [.int (x.toUInt64 >>> (a3.toInt64.toUInt64 &&& Int64.toUInt64 63)).toInt64.toInt32], h, cs, sl))) rfl ?_
      refine xit_l (q := (none, (_, [.int 255, .int (x.toUInt64 >>> (a3.toInt64.toUInt64 &&& Int64.toUInt64 63)).toInt64.toInt32], h, cs, sl))) rfl ?_
      refine xit_l (q := (none, (_, [.int (sgu x a3)], h, cs, sl))) rfl ?_
      refine xit_l (q := (none, ((4, .int (sgu x a3)) :: xf1 4 loc, [], h, cs, sl))) rfl ?_
      exact hσ
    by_cases c1 : (sgu x a3).toInt = 10
    · obtain ⟨m, h', cs', sl', t1, t2, t3, t4⟩ := yes (lcy (Or.inl c1))
      refine ⟨m + 3 + 9, h', cs', sl', pre ?_, t2, t3, t4⟩
      refine xit_l (rld (calls := yex (d + 3)) (ok := xisI) l4' rfl) ?_
      refine xit_l (q := (none, (_, [.int 10, .int (sgu x a3)], h, cs, sl))) rfl ?_
      refine xit_l (rbt (calls := yex (d + 3)) (t := 20) (show xc_ieq [.int 10, .int (sgu x a3)] = some (true, []) by show some (decide (sgu x a3 = 10), ([] : List Value)) = _; rw [decide_eq_true ((i_eq rfl e10).mpr c1)])) ?_
      exact t1
    · have p1 : ∀ {m : Nat} {σ}, xit (yex (d + 3)) xk_151 m (some (.inl (xk_151.drop 14, ((4, .int (sgu x a3)) :: xf1 4 loc, [], h, cs, sl)))) = σ → xit (yex (d + 3)) xk_151 (m + 3) (some (.inl (xk_151.drop 11, ((4, .int (sgu x a3)) :: xf1 4 loc, [], h, cs, sl)))) = σ := by
        intro m σ hσ
        refine xit_l (rld (calls := yex (d + 3)) (ok := xisI) l4' rfl) ?_
        refine xit_l (q := (none, (_, [.int 10, .int (sgu x a3)], h, cs, sl))) rfl ?_
        refine xit_l (rbf (calls := yex (d + 3)) (t := 20) (show xc_ieq [.int 10, .int (sgu x a3)] = some (false, []) by show some (decide (sgu x a3 = 10), ([] : List Value)) = _; rw [decide_eq_false (mt (i_eq rfl e10).mp c1)])) ?_
        exact hσ
      by_cases c2 : (sgu x a3).toInt < 32
      · obtain ⟨m, h', cs', sl', t1, t2, t3, t4⟩ := no (lcn (fun w => w.elim c1 (fun w => w.1 c2)))
        refine ⟨m + 3 + 3 + 9, h', cs', sl', pre (p1 ?_), t2, t3, t4⟩
        refine xit_l (rld (calls := yex (d + 3)) (ok := xisI) l4' rfl) ?_
        refine xit_l (q := (none, (_, [.int 32, .int (sgu x a3)], h, cs, sl))) rfl ?_
        refine xit_l (rbt (calls := yex (d + 3)) (t := 24) (show xc_ilt [.int 32, .int (sgu x a3)] = some (true, []) by show some (decide (sgu x a3 < 32), ([] : List Value)) = _; rw [decide_eq_true ((i_lt rfl e32).mpr c2)])) ?_
        exact t1
      · have p2 : ∀ {m : Nat} {σ}, xit (yex (d + 3)) xk_151 m (some (.inl (xk_151.drop 17, ((4, .int (sgu x a3)) :: xf1 4 loc, [], h, cs, sl)))) = σ → xit (yex (d + 3)) xk_151 (m + 3) (some (.inl (xk_151.drop 14, ((4, .int (sgu x a3)) :: xf1 4 loc, [], h, cs, sl)))) = σ := by
          intro m σ hσ
          refine xit_l (rld (calls := yex (d + 3)) (ok := xisI) l4' rfl) ?_
          refine xit_l (q := (none, (_, [.int 32, .int (sgu x a3)], h, cs, sl))) rfl ?_
          refine xit_l (rbf (calls := yex (d + 3)) (t := 24) (show xc_ilt [.int 32, .int (sgu x a3)] = some (false, []) by show some (decide (sgu x a3 < 32), ([] : List Value)) = _; rw [decide_eq_false (mt (i_lt rfl e32).mp c2)])) ?_
          exact hσ
        by_cases c3 : 126 < (sgu x a3).toInt
        · obtain ⟨m, h', cs', sl', t1, t2, t3, t4⟩ := no (lcn (fun w => w.elim c1 (fun w => w.2 c3)))
          refine ⟨m + 3 + 3 + 3 + 9, h', cs', sl', pre (p1 (p2 ?_)), t2, t3, t4⟩
          refine xit_l (rld (calls := yex (d + 3)) (ok := xisI) l4' rfl) ?_
          refine xit_l (q := (none, (_, [.int 126, .int (sgu x a3)], h, cs, sl))) rfl ?_
          refine xit_l (rbt (calls := yex (d + 3)) (t := 24) (show xc_igt [.int 126, .int (sgu x a3)] = some (true, []) by show some (decide (126 < sgu x a3), ([] : List Value)) = _; rw [decide_eq_true ((i_lt e126 rfl).mpr c3)])) ?_
          exact t1
        · obtain ⟨m, h', cs', sl', t1, t2, t3, t4⟩ := yes (lcy (Or.inr ⟨c2, c3⟩))
          refine ⟨m + 3 + 3 + 3 + 9, h', cs', sl', pre (p1 (p2 ?_)), t2, t3, t4⟩
          refine xit_l (rld (calls := yex (d + 3)) (ok := xisI) l4' rfl) ?_
          refine xit_l (q := (none, (_, [.int 126, .int (sgu x a3)], h, cs, sl))) rfl ?_
          refine xit_l (rbf (calls := yex (d + 3)) (t := 24) (show xc_igt [.int 126, .int (sgu x a3)] = some (false, []) by show some (decide (126 < sgu x a3), ([] : List Value)) = _; rw [decide_eq_false (mt (i_lt e126 rfl).mp c3)])) ?_
          exact t1
/-- takeSigns -/
theorem y_151c {h : xH} {z : Int32} (hI : INV h) (hz : fld h 1 2 = some (.int z)) : ∃ h' cs sl, yex (d + 4) 151 [.ref 0, .long x] h = some (none, h', cs, sl) ∧ CST [(100, 1), (100, 2)] h h' cs sl ∧ fld h' 1 2 = some (.int (layn x 8 56 z)) ∧ fdC (lyk x 8 56 (rv h 1, z)) h h' := by
  obtain ⟨m, h', cs, sl, q1, q2, q3, q4⟩ := l_151c (d := d) (x := x) 8 56 h ((3, .int 56) :: xf1 3 (lv_args 0 [.ref 0, .long x])) z 0 0 (by decide) (by decide) hI hz rfl rfl rfl
  rw [Nat.zero_add, Nat.zero_add] at q1
  refine ⟨h', cs, sl, yex_of (k := m + 2) rfl rfl rfl ?_, q2, q3, q4⟩
  refine xit_l (q := (none, (_, [.int 56], h, 0, 0))) rfl ?_
  refine xit_l (q := (none, ((3, .int 56) :: xf1 3 (lv_args 0 [.ref 0, .long x]), [], h, 0, 0))) rfl ?_
  exact q1
theorem y_139c {h : xH} {a b c : Int64} {z : Int32} (hI : INV h) (hz : fld h 1 2 = some (.int z)) : ∃ h' cs sl, yex (d + 5) 139 [.ref 0, .long a, .long b, .long c] h = some (some (.int (feedn a b c z)), h', cs, sl) ∧ CST [(100, 1), (100, 2)] h h' cs sl ∧ fld h' 1 2 = some (.int (feedn a b c z)) ∧ fdC (fdk a b c (rv h 1, z)) h h' := by
  obtain ⟨h1, cs1, sl1, a1, a2, a3, a4⟩ := y_151c (d := d) (x := a) hI hz
  obtain ⟨h2, cs2, sl2, b1, b2, b3, b4⟩ := y_151c (d := d) (x := b) a2.1 a3
  obtain ⟨h3, cs3, sl3, c1, c2, c3, c4⟩ := y_151c (d := d) (x := c) b2.1 b3
  obtain ⟨f0, p0, r0⟩ := bench hI
  obtain ⟨f1, p1, r1⟩ := bench a2.1
  obtain ⟨f2, p2, r2⟩ := bench b2.1
  obtain ⟨f3, p3, r3⟩ := bench c2.1
  obtain ⟨c', n', f', z', w1, -⟩ := row_of c2.1 row_1
  have hz' : z' = .int (feedn a b c z) := by
    have c3 := c3
    unfold fld at c3
    rw [w1] at c3
    exact Option.some.inj c3
  subst hz'
  have g1 : (rv h1 1, layn a 8 56 z) = lyk a 8 56 (rv h 1, z) := by
    have e := lyk_2 (x := a) 8 56 (rv h 1, z)
    refine Prod.ext (funext a4.1) ?_
    rw [e]
  rw [g1] at b4
  have g2 : (rv h2 1, layn b 8 56 (layn a 8 56 z)) = lyk b 8 56 (lyk a 8 56 (rv h 1, z)) := by
    have e := lyk_2 (x := b) 8 56 (lyk a 8 56 (rv h 1, z))
    rw [lyk_2 (x := a) 8 56 (rv h 1, z)] at e
    refine Prod.ext (funext b4.1) ?_
    rw [e]
  rw [g2] at c4
  have gF : fdC (fdk a b c (rv h 1, z)) h h3 := by
    unfold fdk
    exact ⟨c4.1, fun b' hb hb1 j => (c4.2 b' hb hb1 j).trans ((b4.2 b' hb hb1 j).trans (a4.2 b' hb hb1 j))⟩
  refine ⟨h3, cs1 + cs2 + cs3, sl1 + sl2 + sl3, yex_of (k := 13) rfl rfl rfl ?_, CST_tr (CST_tr a2 b2) c2, c3, gF⟩
  refine xit_l (q := (none, (_, [.ref 0], h, 0, 0))) rfl ?_
  refine xit_l (q := (none, (_, [.long a, .ref 0], h, 0, 0))) rfl ?_
  refine xit_l (rcv2 (k := 11) (calls := yex (d + 4)) (loc := lv_args 0 [.ref 0, .long a, .long b, .long c]) (st := []) (cs := 0) (sl := 0) a1 rfl p0) ?_
  rw [Nat.zero_add, Nat.zero_add]
  refine xit_l (q := (none, (_, [.ref 0], h1, cs1, sl1))) rfl ?_
  refine xit_l (q := (none, (_, [.long b, .ref 0], h1, cs1, sl1))) rfl ?_
  refine xit_l (rcv2 (k := 11) (calls := yex (d + 4)) (loc := lv_args 0 [.ref 0, .long a, .long b, .long c]) (st := []) (cs := cs1) (sl := sl1) b1 rfl p1) ?_
  refine xit_l (q := (none, (_, [.ref 0], h2, cs1 + cs2, sl1 + sl2))) rfl ?_
  refine xit_l (q := (none, (_, [.long c, .ref 0], h2, cs1 + cs2, sl1 + sl2))) rfl ?_
  refine xit_l (rcv2 (k := 11) (calls := yex (d + 4)) (loc := lv_args 0 [.ref 0, .long a, .long b, .long c]) (st := []) (cs := cs1 + cs2) (sl := sl1 + sl2) c1 rfl p2) ?_
  refine xit_l (q := (none, (_, [.ref 0], h3, cs1 + cs2 + cs3, sl1 + sl2 + sl3))) rfl ?_
  refine xit_l (rget (calls := yex (d + 4)) (ci := 11) (k := 0) p3 r3) ?_
  refine xit_l (rget (calls := yex (d + 4)) (ci := 6) (k := 2) w1 rfl) ?_
  exact xit_r rfl
/-! the reference -/
theorem x_155 {s : yS} : Par d 155 [.ref 213, .long x] s (fun v s' => v = none ∧ (s'.2.1 214, s'.1 2) = lyk x 8 56 (s.2.1 214, s.1 2)) := by
  cases d with
  | zero => exact Par_0
  | succ d =>
    refine pb_155 ?_
    unfold ub_155_0 ubl_155_2
    refine ⟨fun b1 c3 u => b1 = x ∧ ∃ k : Nat, c3.toInt = 8 * (k : Int) - 8 ∧ k ≤ 8 ∧ lyk x k c3 (u.2.1 214, u.1 2) = lyk x 8 56 (s.2.1 214, s.1 2), ⟨rfl, 8, by decide, by decide, rfl⟩, ?_⟩
    rintro b1 c3 u ⟨rfl, k, g3, g4, g5⟩
    unfold ub_155_2 ub_155_20 ub_155_36
    refine ⟨fun h => ?_, fun h => ?_⟩
    · obtain rfl : k = 0 := by omega
      exact ⟨rfl, g5⟩
    · obtain ⟨j, rfl⟩ : ∃ j, k = j + 1 := ⟨k - 1, by omega⟩
      have g6 : lyk b1 j (c3 + (-8)) (lyp b1 c3 (u.2.1 214, u.1 2)) = lyk b1 8 56 (s.2.1 214, s.1 2) := g5
      have st : ∀ s'' : yS, (s''.2.1 214, s''.1 2) = lyp b1 c3 (u.2.1 214, u.1 2) → ∀ x1 : Int32, x1.toInt = c3.toInt + (-8) → (b1 = b1 ∧ ∃ k : Nat, x1.toInt = 8 * (k : Int) - 8 ∧ k ≤ 8 ∧ lyk b1 k x1 (s''.2.1 214, s''.1 2) = lyk b1 8 56 (s.2.1 214, s.1 2)) := by
        intro s'' e1 x1 hx1
        have e5 : x1 = c3 + (-8) := Int32.toInt_inj.mp (by rw [hx1, i_add rfl (show (-8 : Int32).toInt = -8 by decide) (by omega)])
        exact ⟨rfl, j, by omega, by omega, by rw [e5, e1]; exact g6⟩
      have es : sgn b1 c3 = ((Int64.toInt32 (b1 >>> ((c3 : Int32).toInt64 &&& 63))) &&& 255) := rfl
      rw [← es]
      have lc : layc b1 c3 (u.1 2) = if ((sgn b1 c3).toInt = 10 ∨ (¬ (sgn b1 c3).toInt < 32 ∧ ¬ 126 < (sgn b1 c3).toInt)) ∧ ¬ 4000 ≤ (u.1 2).toInt then u.1 2 + 1 else u.1 2 := rfl
      have no : ¬ (((sgn b1 c3).toInt = 10 ∨ (¬ (sgn b1 c3).toInt < 32 ∧ ¬ 126 < (sgn b1 c3).toInt)) ∧ ¬ 4000 ≤ (u.1 2).toInt) → (u.2.1 214, u.1 2) = lyp b1 c3 (u.2.1 214, u.1 2) := fun q => (lyp_no (by rw [lc, if_neg q])).symm
      have yes : ((sgn b1 c3).toInt = 10 ∨ (¬ (sgn b1 c3).toInt < 32 ∧ ¬ 126 < (sgn b1 c3).toInt)) → ¬ 4000 ≤ (u.1 2).toInt → 0 ≤ (u.1 2).toInt → ∀ x2 : Int32, x2.toInt = (u.1 2).toInt + 1 → ((sf (sa u 214 (u.1 2).toInt.toNat (sgn b1 c3)) 2 x2).2.1 214, (sf (sa u 214 (u.1 2).toInt.toNat (sgn b1 c3)) 2 x2).1 2) = lyp b1 c3 (u.2.1 214, u.1 2) := fun q1 q2 q0 x2 hx2 => by
        have e1 : (u.1 2 + 1).toInt = (u.1 2).toInt + 1 := i_add rfl (show (1 : Int32).toInt = 1 by decide) (by omega)
        have e2 : layc b1 c3 (u.1 2) = u.1 2 + 1 := by rw [lc, if_pos ⟨q1, q2⟩]
        unfold lyp
        dsimp only
        rw [if_neg (by rw [e2]; intro w; have := congrArg Int32.toInt w; omega), e2]
        refine Prod.ext (funext fun i => ?_) ?_
        · show (sf (sa u 214 (u.1 2).toInt.toNat (sgn b1 c3)) 2 x2).2.1 214 i = _
          rw [sf_2, sa_21]
          by_cases hi : i = (u.1 2).toInt.toNat
          · rw [if_pos ⟨rfl, hi⟩]
            exact (if_pos hi).symm
          · rw [if_neg (fun w => hi w.2)]
            exact (if_neg hi).symm
        · show (sf (sa u 214 (u.1 2).toInt.toNat (sgn b1 c3)) 2 x2).1 2 = _
          rw [sf_1, if_pos rfl]
          exact Int32.toInt_inj.mp (by rw [hx2, e1])
      have both : ((sgn b1 c3).toInt = 10 ∨ (¬ (sgn b1 c3).toInt < 32 ∧ ¬ 126 < (sgn b1 c3).toInt)) → (4000 ≤ (u.1 2).toInt → (-2147483648 ≤ c3.toInt + (-8) ∧ c3.toInt + (-8) ≤ 2147483647) → ∀ x1 : Int32, x1.toInt = c3.toInt + (-8) → (b1 = b1 ∧ ∃ k : Nat, x1.toInt = 8 * (k : Int) - 8 ∧ k ≤ 8 ∧ lyk b1 k x1 (u.2.1 214, u.1 2) = lyk b1 8 56 (s.2.1 214, s.1 2))) ∧ (¬ 4000 ≤ (u.1 2).toInt → (0 ≤ (u.1 2).toInt ∧ (u.1 2).toInt < 4000) → ∀ s1, s1 = sa u 214 (u.1 2).toInt.toNat (sgn b1 c3) → (-2147483648 ≤ (s1.1 2).toInt + 1 ∧ (s1.1 2).toInt + 1 ≤ 2147483647) → ∀ x2 : Int32, x2.toInt = (s1.1 2).toInt + 1 → ∀ s3, s3 = sf s1 2 x2 → (-2147483648 ≤ c3.toInt + (-8) ∧ c3.toInt + (-8) ≤ 2147483647) → ∀ x1 : Int32, x1.toInt = c3.toInt + (-8) → (b1 = b1 ∧ ∃ k : Nat, x1.toInt = 8 * (k : Int) - 8 ∧ k ≤ 8 ∧ lyk b1 k x1 (s3.2.1 214, s3.1 2) = lyk b1 8 56 (s.2.1 214, s.1 2))) := fun q => by
        refine ⟨fun h4 _ x1 hx1 => st u (no (fun h5 => h5.2 h4)) x1 hx1, fun h4 h0 s1 hs1 _ x2 hx2 s3 hs3 _ x1 hx1 => ?_⟩
        subst hs1
        subst hs3
        exact st _ (yes q h4 h0.1 x2 hx2) x1 hx1
      refine ⟨fun q => both (Or.inl q), fun q => ⟨fun q2 _ x1 hx1 => st u (no (fun h5 => h5.1.elim q (fun h6 => h6.1 q2))) x1 hx1, fun q2 => ⟨fun q3 _ x1 hx1 => st u (no (fun h5 => h5.1.elim q (fun h6 => h6.2 q3))) x1 hx1, fun q3 => both (Or.inr ⟨q2, q3⟩)⟩⟩⟩
theorem x_154 {a b c : Int64} {s : yS} : Par d 154 [.ref 213, .long a, .long b, .long c] s (fun v s' => v = some (.int (s'.1 2)) ∧ (s'.2.1 214, s'.1 2) = fdk a b c (s.2.1 214, s.1 2)) := by
  cases d with
  | zero => exact Par_0
  | succ d =>
    refine pb_154 ?_
    unfold ub_154_0
    intro s1 hs1
    have e1 : (s1.2.1 214, s1.1 2) = (s.2.1 214, s.1 2) := by rw [hs1, sf_2, sf_1, if_neg (by decide)]
    refine Par.imp x_155 ?_
    rintro v3 s2 ⟨rfl, e2⟩
    refine ⟨rfl, Par.imp x_155 ?_⟩
    rintro v5 s4 ⟨rfl, e4⟩
    refine ⟨rfl, Par.imp x_155 ?_⟩
    rintro v7 s6 ⟨rfl, e6⟩
    refine ⟨rfl, rfl, ?_⟩
    unfold fdk
    rw [e6, e4, e2, e1]
/-! alike -/
theorem lyp_ag {p p' : (Nat → Int32) × Int32} (h : Agt p p') : Agt (lyp x a3 p) (lyp x a3 p') := by
  obtain ⟨g, z⟩ := p
  obtain ⟨g', z'⟩ := p'
  obtain ⟨e, h⟩ := h
  dsimp only at e h
  subst e
  unfold lyp
  dsimp only
  by_cases e : layc x a3 z = z
  · rw [if_pos e, if_pos e]
    exact ⟨rfl, h⟩
  · rw [if_neg e, if_neg e]
    refine ⟨rfl, fun i hi => ?_⟩
    dsimp only at hi ⊢
    have lc : layc x a3 z = if ((sgn x a3).toInt = 10 ∨ (¬ (sgn x a3).toInt < 32 ∧ ¬ 126 < (sgn x a3).toInt)) ∧ ¬ 4000 ≤ z.toInt then z + 1 else z := rfl
    by_cases q : ((sgn x a3).toInt = 10 ∨ (¬ (sgn x a3).toInt < 32 ∧ ¬ 126 < (sgn x a3).toInt)) ∧ ¬ 4000 ≤ z.toInt
    · have e1 : (z + 1).toInt = z.toInt + 1 := i_add rfl (show (1 : Int32).toInt = 1 by decide) (by have := z.le_toInt; omega)
      rw [lc, if_pos q, e1] at hi
      by_cases hj : i = z.toInt.toNat
      · rw [if_pos hj, if_pos hj]
      · rw [if_neg hj, if_neg hj]
        exact h i (by omega)
    · exact absurd (by rw [lc, if_neg q]) e
theorem lyk_ag : ∀ (k : Nat) (a3 : Int32) {p p' : (Nat → Int32) × Int32}, Agt p p' → Agt (lyk x k a3 p) (lyk x k a3 p')
  | 0, _, _, _, h => h
  | k + 1, a3, _, _, h => lyk_ag k (a3 + (-8)) (lyp_ag h)
theorem fdk_ag {a b c : Int64} {p p' : (Nat → Int32) × Int32} (h : Agt p p') : Agt (fdk a b c p) (fdk a b c p') := lyk_ag 8 56 (lyk_ag 8 56 (lyk_ag 8 56 h))
end FDC
