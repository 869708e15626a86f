/-! ===== the class: feed ===== -/
theorem b255 : ∀ i, i < 32 → (255#32).getLsbD i = decide (i < 8) := by decide +kernel
theorem sh_bit (x : BitVec 64) (k : Nat) (hk : k ≤ 56) : (x.ushiftRight k).setWidth 32 &&& 255#32 = (x.sshiftRight k).setWidth 32 &&& 255#32 := by
  apply BitVec.eq_of_getLsbD_eq
  intro i hi
  rw [BitVec.getLsbD_and, BitVec.getLsbD_and, b255 i hi, BitVec.getLsbD_setWidth, BitVec.getLsbD_setWidth]
  by_cases h8 : i < 8
  · have e1 : (x.ushiftRight k).getLsbD i = x.getLsbD (k + i) := BitVec.getLsbD_ushiftRight x k i
    have e2 : (x.sshiftRight k).getLsbD i = x.getLsbD (k + i) := by
      rw [BitVec.getLsbD_sshiftRight]
      rw [show decide (64 ≤ i) = false from decide_eq_false (by omega), if_pos (by omega)]
      rfl
    rw [e1, e2]
  · rw [decide_eq_false h8, Bool.and_false, Bool.and_false]
theorem shx (x y z : Int64) (k : Nat) (hk : k ≤ 56) (e1 : (y.toUInt64.toBitVec % 64#64).toNat = k) (e2 : (z.toBitVec.smod 64#64).toNat = k) : (((x.toUInt64 >>> y.toUInt64).toInt64.toInt32) &&& 255).toBitVec = ((x >>> z).toInt32 &&& 255).toBitVec := by
  rw [Int32.toBitVec_and, Int32.toBitVec_and, Int64.toBitVec_toInt32, Int64.toBitVec_toInt32, Int64.toBitVec_shiftRight, UInt64.toBitVec_toInt64, UInt64.toBitVec_shiftRight, Int64.toBitVec_toUInt64, BitVec.signExtend_eq_setWidth_of_le _ (by decide), BitVec.signExtend_eq_setWidth_of_le _ (by decide)]
  have h := sh_bit x.toBitVec k hk
  have a1 : x.toBitVec >>> (y.toUInt64.toBitVec % 64) = x.toBitVec.ushiftRight k := by
    rw [BitVec.ushiftRight_eq']
    show x.toBitVec.ushiftRight _ = _
    exact congrArg _ e1
  have a2 : x.toBitVec.sshiftRight' (z.toBitVec.smod 64) = x.toBitVec.sshiftRight k := by
    rw [BitVec.sshiftRight_eq']
    exact congrArg _ e2
  rw [a1, a2]
  exact h
def sgn (x : Int64) (a3 : Int32) : Int32 := (Int64.toInt32 (x >>> (a3.toInt64 &&& 63))) &&& 255
def sgu (x : Int64) (a3 : Int32) : Int32 := ((x.toUInt64 >>> (a3.toInt64.toUInt64 &&& Int64.toUInt64 63)).toInt64.toInt32) &&& 255
theorem sg_k (x : Int64) (k : Nat) (hk : k < 8) : sgu x (Int32.ofNat (8 * k)) = sgn x (Int32.ofNat (8 * k)) := by
  unfold sgu sgn
  apply Int32.toBitVec_inj.mp
  match k, hk with
  | 0, _ => exact shx x ((Int32.ofNat (8 * 0)).toInt64 &&& 63) _ 0 (by decide) (by decide) (by decide)
  | 1, _ => exact shx x ((Int32.ofNat (8 * 1)).toInt64 &&& 63) _ 8 (by decide) (by decide) (by decide)
  | 2, _ => exact shx x ((Int32.ofNat (8 * 2)).toInt64 &&& 63) _ 16 (by decide) (by decide) (by decide)
  | 3, _ => exact shx x ((Int32.ofNat (8 * 3)).toInt64 &&& 63) _ 24 (by decide) (by decide) (by decide)
  | 4, _ => exact shx x ((Int32.ofNat (8 * 4)).toInt64 &&& 63) _ 32 (by decide) (by decide) (by decide)
  | 5, _ => exact shx x ((Int32.ofNat (8 * 5)).toInt64 &&& 63) _ 40 (by decide) (by decide) (by decide)
  | 6, _ => exact shx x ((Int32.ofNat (8 * 6)).toInt64 &&& 63) _ 48 (by decide) (by decide) (by decide)
  | 7, _ => exact shx x ((Int32.ofNat (8 * 7)).toInt64 &&& 63) _ 56 (by decide) (by decide) (by decide)
theorem sgQ {x : Int64} {a3 : Int32} {k : Nat} (h : a3.toInt = 8 * (k : Int)) (hk : k < 8) : sgu x a3 = sgn x a3 := by
  have e : a3 = Int32.ofNat (8 * k) := Int32.toInt_inj.mp (by rw [h, iN (by omega)]; omega)
  rw [e]
  exact sg_k x k hk
theorem rld {k : Nat} {ok : Value → Bool} {calls : xC} {loc : cLoc} {v : Value} {st : List Value} {hh : xH} {cs sl : Nat} (e : xlk k loc = some v) (ho : ok v = true) : xLd k ok calls (loc, st, hh, cs, sl) = some (.inl (none, (loc, v :: st, hh, cs, sl))) := by
  unfold xLd
  dsimp only
  rw [e]
  dsimp only
  rw [ho]
theorem rinc {k : Nat} {c : Int} {calls : xC} {loc : cLoc} {x : Int32} {st : List Value} {hh : xH} {cs sl : Nat} (e : xlk k loc = some (.int x)) : xInc k c calls (loc, st, hh, cs, sl) = some (.inl (none, ((k, .int (x + Int32.ofInt c)) :: xf1 k loc, st, hh, cs, sl))) := by
  unfold xInc
  dsimp only
  rw [e]
theorem rcv2 {j k a : Nat} {q : List Value} {calls : xC} {loc : cLoc} {w : Value} {st : List Value} {h h' : xH} {cs sl cs' sl' : Nat} (hc : calls j [.ref a, w] h = some (none, h', cs', sl')) (hs : Nat.ble (xcs st) 8 = true) (ha : h[a]? = some (.inr (k, q))) : xCall j 2 (some k) calls (loc, w :: .ref a :: st, h, cs, sl) = some (.inl (none, (loc, st, h', cs + cs', sl + sl'))) := by
  unfold xCall
  dsimp only
  rw [show (Nat.ble 2 (w :: .ref a :: st).length && (Nat.ble (xcs ((w :: .ref a :: st).drop 2)) 8 && xrc (some k) ((w :: .ref a :: st).take 2).reverse h)) = true by
    rw [Bool.and_eq_true, Bool.and_eq_true]
    refine ⟨Nat.ble_eq_true_of_le (by rw [List.length_cons, List.length_cons]; omega), hs, ?_⟩
    show (match h[a]? with
      | some (.inr q) => Nat.beq q.1 k
      | _ => false) = true
    rw [ha]
    exact Nat.beq_refl k]
  show (match calls j [.ref a, w] h with
    | some res => some (Sum.inl (none, (loc, res.1.toList ++ st, res.2.1, cs + res.2.2.1, sl + res.2.2.2)))
    | none => none) = _
  rw [hc]
  rfl
/-- the bench's own cell, its tape -/
theorem bench {h : xH} (hI : INV h) : ∃ fs, h[0]? = some (.inr (11, fs)) ∧ fs[0]? = some (.ref 1) := by
  obtain ⟨fs, p1, -, p3⟩ := hI.1 0 (by decide) (by decide)
  obtain ⟨w, w1, w2⟩ := p3 0 (.inr (.inl [1])) (by decide +kernel)
  obtain ⟨b, rfl, hb⟩ := w2
  cases hb with
  | head => exact ⟨fs, p1, w1⟩
  | tail _ w => exact absurd w List.not_mem_nil
theorem lim_1 : lim 1 = 4000 := by decide +kernel
theorem row_1 : 1 ∈ rowL := by decide +kernel
theorem ck_1 (v : Int32) : (ckR 1).1 ≤ v.toInt ∧ v.toInt ≤ (ckR 1).2 := ⟨v.le_toInt, Int.le_of_lt_add_one v.toInt_lt⟩
section FEED
variable {d : Nat} {x : Int64}
/-- takeSigns, from the loop's head -/
theorem l_151 : ∀ (k : Nat) (a3 : Int32) (h : xH) (loc : cLoc) (z : Int32) (cs sl : Nat), a3.toInt = 8 * (k : Int) - 8 → k ≤ 8 → INV h → fld h 1 2 = some (.int z) → xlk 0 loc = some (.ref 0) → xlk 1 loc = some (.long x) → xlk 3 loc = some (.int a3) → ∃ m h' cs' sl', xit (yex (d + 3)) xk_151 m (some (.inl (xk_151.drop 2, (loc, [], h, cs, sl)))) = some (.inr (none, h', cs + cs', sl + sl')) ∧ CST [(100, 1), (100, 2)] h h' cs' sl' ∧ fld h' 1 2 = some (.int (layn x k a3 z))
  | 0, a3, h, loc, z, cs, sl, ha, hk, hI, hz, l0, l1, l3 => by
    refine ⟨3, h, 0, 0, ?_, CST_rf hI, hz⟩
    refine xit_l (rld (calls := yex (d + 3)) (ok := xisI) l3 rfl) ?_
    refine xit_l (rbt (calls := yex (d + 3)) (t := 26) (show xc_lt [.int a3] = some (true, []) by show some (decide (a3 < 0), ([] : List Value)) = _; rw [decide_eq_true ((i_lt rfl i0).mpr (by omega))])) ?_
    exact xit_r rfl
  | k + 1, a3, h, loc, z, cs, sl, ha, hk, hI, hz, l0, l1, l3 => by
    have ec : sgu x a3 = sgn x a3 := sgQ (k := k) (by omega) (by omega)
    have tl : ∀ (h1 : xH) (loc1 : cLoc) (z1 : Int32) (cs1 sl1 : Nat), INV h1 → fld h1 1 2 = some (.int z1) → xlk 0 loc1 = some (.ref 0) → xlk 1 loc1 = some (.long x) → xlk 3 loc1 = some (.int a3) → ∃ m h' cs' sl', xit (yex (d + 3)) xk_151 m (some (.inl (xk_151.drop 24, (loc1, [], h1, cs1, sl1)))) = some (.inr (none, h', cs1 + cs', sl1 + sl')) ∧ CST [(100, 1), (100, 2)] h1 h' cs' sl' ∧ fld h' 1 2 = some (.int (layn x k (a3 + (-8)) z1)) := by
      intro h1 loc1 z1 cs1 sl1 i1 i2 i3 i4 i5
      have e8 : (a3 + Int32.ofInt (-8)).toInt = a3.toInt - 8 := i_add rfl (show (Int32.ofInt (-8)).toInt = -8 by decide) (by omega)
      obtain ⟨m, h', cs', sl', q1, q2, q3⟩ := l_151 k (a3 + Int32.ofInt (-8)) h1 ((3, .int (a3 + Int32.ofInt (-8))) :: xf1 3 loc1) z1 cs1 sl1 (by omega) (by omega) i1 i2 (lo_keep 0 _ (by decide) (fun w => absurd w.1 (by decide)) i3) (lo_keep 1 _ (by decide) (fun w => absurd w.1 (by decide)) i4) xlk_cons
      refine ⟨m + 2, h', cs', sl', ?_, q2, q3⟩
      refine xit_l (rinc (calls := yex (d + 3)) (c := -8) i5) ?_
      refine xit_l (q := (some 2, (_, [], h1, cs1, sl1))) rfl ?_
      exact q1
    have l0' : xlk 0 ((4, .int (sgu x a3)) :: xf1 4 loc) = some (.ref 0) := lo_keep 0 _ (by decide) (fun w => absurd w.1 (by decide)) l0
    have l1' : xlk 1 ((4, .int (sgu x a3)) :: xf1 4 loc) = some (.long x) := lo_keep 1 _ (by decide) (fun w => absurd w.1 (by decide)) l1
    have l3' : xlk 3 ((4, .int (sgu x a3)) :: xf1 4 loc) = some (.int a3) := lo_keep 3 _ (by decide) (fun w => absurd w.2 (show ¬ (1 : Nat) = 2 by decide)) l3
    have l4' : xlk 4 ((4, .int (sgu x a3)) :: xf1 4 loc) = some (.int (sgu x a3)) := xlk_cons
    have no : layc x a3 z = z → ∃ m h' cs' sl', xit (yex (d + 3)) xk_151 m (some (.inl (xk_151.drop 24, ((4, .int (sgu x a3)) :: xf1 4 loc, [], h, cs, sl)))) = some (.inr (none, h', cs + cs', sl + sl')) ∧ CST [(100, 1), (100, 2)] h h' cs' sl' ∧ fld h' 1 2 = some (.int (layn x (k + 1) a3 z)) := fun e => by
      have := tl h _ z cs sl hI hz l0' l1' l3'
      rw [show layn x (k + 1) a3 z = layn x k (a3 + (-8)) (layc x a3 z) from rfl, e]
      exact this
    have yes : layc x a3 z = (if z < Int32.ofNat (lim 1) then z + 1 else z) → ∃ m h' cs' sl', xit (yex (d + 3)) xk_151 m (some (.inl (xk_151.drop 20, ((4, .int (sgu x a3)) :: xf1 4 loc, [], h, cs, sl)))) = some (.inr (none, h', cs + cs', sl + sl')) ∧ CST [(100, 1), (100, 2)] h h' cs' sl' ∧ fld h' 1 2 = some (.int (layn x (k + 1) a3 z)) := fun e => by
      obtain ⟨fs, b1, b2⟩ := bench hI
      obtain ⟨c, n, f, z', p1, -⟩ := row_of hI row_1
      obtain ⟨h1, cs1, sl1, s1, s2, s3⟩ := y_78 (d := d) (v := sgu x a3) hI row_1 hz (ck_1 _) (fun w => absurd w (by decide))
      obtain ⟨m, h', cs', sl', t1, t2, t3⟩ := tl h1 _ _ (cs + cs1) (sl + sl1) s2.1 s3 l0' l1' l3'
      refine ⟨m + 4, h', cs1 + cs', sl1 + sl', ?_, CST_tr s2 t2, ?_⟩
      · refine xit_l (rld (calls := yex (d + 3)) (ok := xisA) l0' rfl) ?_
        refine xit_l (rget (calls := yex (d + 3)) (ci := 11) (k := 0) b1 b2) ?_
        refine xit_l (rld (calls := yex (d + 3)) (ok := xisI) l4' rfl) ?_
        refine xit_l (rcv2 (k := 6) (calls := yex (d + 3)) (loc := (4, .int (sgu x a3)) :: xf1 4 loc) (st := []) (cs := cs) (sl := sl) s1 rfl p1) ?_
        rw [← Nat.add_assoc, ← Nat.add_assoc]
        exact t1
      · rw [show layn x (k + 1) a3 z = layn x k (a3 + (-8)) (layc x a3 z) from rfl, e]
        exact t3
    have e10 : (10 : Int32).toInt = 10 := by decide
    have e32 : (32 : Int32).toInt = 32 := by decide
    have e126 : (126 : Int32).toInt = 126 := by decide
    have e4k : (Int32.ofNat (lim 1)).toInt = 4000 := by rw [lim_1]; decide
    have lc : layc x a3 z = if ((sgu x a3).toInt = 10 ∨ (¬ (sgu x a3).toInt < 32 ∧ ¬ 126 < (sgu x a3).toInt)) ∧ ¬ 4000 ≤ z.toInt then z + 1 else z := by
      rw [ec]
      rfl
    have lcy : ((sgu x a3).toInt = 10 ∨ (¬ (sgu x a3).toInt < 32 ∧ ¬ 126 < (sgu x a3).toInt)) → layc x a3 z = (if z < Int32.ofNat (lim 1) then z + 1 else z) := fun q => by
      rw [lc]
      by_cases hz4 : z < Int32.ofNat (lim 1)
      · have := (i_lt rfl e4k).mp hz4
        rw [if_pos ⟨q, by omega⟩, if_pos hz4]
      · have := mt (i_lt rfl e4k).mpr hz4
        rw [if_neg (fun w => w.2 (by omega)), if_neg hz4]
    have lcn : ¬ ((sgu x a3).toInt = 10 ∨ (¬ (sgu x a3).toInt < 32 ∧ ¬ 126 < (sgu x a3).toInt)) → layc x a3 z = z := fun q => by
      rw [lc, if_neg (fun w => q w.1)]
    have pre : ∀ {m : Nat} {σ}, xit (yex (d + 3)) xk_151 m (some (.inl (xk_151.drop 11, ((4, .int (sgu x a3)) :: xf1 4 loc, [], h, cs, sl)))) = σ → xit (yex (d + 3)) xk_151 (m + 9) (some (.inl (xk_151.drop 2, (loc, [], h, cs, sl)))) = σ := by
      intro m σ hσ
      refine xit_l (rld (calls := yex (d + 3)) (ok := xisI) l3 rfl) ?_
      refine xit_l (rbf (calls := yex (d + 3)) (t := 26) (show xc_lt [.int a3] = some (false, []) by show some (decide (a3 < 0), ([] : List Value)) = _; rw [decide_eq_false (fun w => by have := (i_lt rfl i0).mp w; omega)])) ?_
      refine xit_l (rld (calls := yex (d + 3)) (ok := xisL) l1 rfl) ?_
      refine xit_l (rld (calls := yex (d + 3)) (ok := xisI) l3 rfl) ?_
      refine xit_l (q := (none, (_, [.long (x.toUInt64 >>> (a3.toInt64.toUInt64 &&& Int64.toUInt64 63)).toInt64], h, cs, sl))) rfl ?_
      refine xit_l (q := (none, (_, [.int (x.toUInt64 >>> (a3.toInt64.toUInt64 &&& Int64.toUInt64 63)).toInt64.toInt32], h, cs, sl))) rfl ?_
      refine xit_l (q := (none, (_, [.int 255, .int (x.toUInt64 >>> (a3.toInt64.toUInt64 &&& Int64.toUInt64 63)).toInt64.toInt32], h, cs, sl))) rfl ?_
      refine xit_l (q := (none, (_, [.int (sgu x a3)], h, cs, sl))) rfl ?_
      refine xit_l (q := (none, ((4, .int (sgu x a3)) :: xf1 4 loc, [], h, cs, sl))) rfl ?_
      exact hσ
    by_cases c1 : (sgu x a3).toInt = 10
    · obtain ⟨m, h', cs', sl', t1, t2, t3⟩ := yes (lcy (Or.inl c1))
      refine ⟨m + 3 + 9, h', cs', sl', pre ?_, t2, t3⟩
      refine xit_l (rld (calls := yex (d + 3)) (ok := xisI) l4' rfl) ?_
      refine xit_l (q := (none, (_, [.int 10, .int (sgu x a3)], h, cs, sl))) rfl ?_
      refine xit_l (rbt (calls := yex (d + 3)) (t := 20) (show xc_ieq [.int 10, .int (sgu x a3)] = some (true, []) by show some (decide (sgu x a3 = 10), ([] : List Value)) = _; rw [decide_eq_true ((i_eq rfl e10).mpr c1)])) ?_
      exact t1
    · have p1 : ∀ {m : Nat} {σ}, xit (yex (d + 3)) xk_151 m (some (.inl (xk_151.drop 14, ((4, .int (sgu x a3)) :: xf1 4 loc, [], h, cs, sl)))) = σ → xit (yex (d + 3)) xk_151 (m + 3) (some (.inl (xk_151.drop 11, ((4, .int (sgu x a3)) :: xf1 4 loc, [], h, cs, sl)))) = σ := by
        intro m σ hσ
        refine xit_l (rld (calls := yex (d + 3)) (ok := xisI) l4' rfl) ?_
        refine xit_l (q := (none, (_, [.int 10, .int (sgu x a3)], h, cs, sl))) rfl ?_
        refine xit_l (rbf (calls := yex (d + 3)) (t := 20) (show xc_ieq [.int 10, .int (sgu x a3)] = some (false, []) by show some (decide (sgu x a3 = 10), ([] : List Value)) = _; rw [decide_eq_false (mt (i_eq rfl e10).mp c1)])) ?_
        exact hσ
      by_cases c2 : (sgu x a3).toInt < 32
      · obtain ⟨m, h', cs', sl', t1, t2, t3⟩ := no (lcn (fun w => w.elim c1 (fun w => w.1 c2)))
        refine ⟨m + 3 + 3 + 9, h', cs', sl', pre (p1 ?_), t2, t3⟩
        refine xit_l (rld (calls := yex (d + 3)) (ok := xisI) l4' rfl) ?_
        refine xit_l (q := (none, (_, [.int 32, .int (sgu x a3)], h, cs, sl))) rfl ?_
        refine xit_l (rbt (calls := yex (d + 3)) (t := 24) (show xc_ilt [.int 32, .int (sgu x a3)] = some (true, []) by show some (decide (sgu x a3 < 32), ([] : List Value)) = _; rw [decide_eq_true ((i_lt rfl e32).mpr c2)])) ?_
        exact t1
      · have p2 : ∀ {m : Nat} {σ}, xit (yex (d + 3)) xk_151 m (some (.inl (xk_151.drop 17, ((4, .int (sgu x a3)) :: xf1 4 loc, [], h, cs, sl)))) = σ → xit (yex (d + 3)) xk_151 (m + 3) (some (.inl (xk_151.drop 14, ((4, .int (sgu x a3)) :: xf1 4 loc, [], h, cs, sl)))) = σ := by
          intro m σ hσ
          refine xit_l (rld (calls := yex (d + 3)) (ok := xisI) l4' rfl) ?_
          refine xit_l (q := (none, (_, [.int 32, .int (sgu x a3)], h, cs, sl))) rfl ?_
          refine xit_l (rbf (calls := yex (d + 3)) (t := 24) (show xc_ilt [.int 32, .int (sgu x a3)] = some (false, []) by show some (decide (sgu x a3 < 32), ([] : List Value)) = _; rw [decide_eq_false (mt (i_lt rfl e32).mp c2)])) ?_
          exact hσ
        by_cases c3 : 126 < (sgu x a3).toInt
        · obtain ⟨m, h', cs', sl', t1, t2, t3⟩ := no (lcn (fun w => w.elim c1 (fun w => w.2 c3)))
          refine ⟨m + 3 + 3 + 3 + 9, h', cs', sl', pre (p1 (p2 ?_)), t2, t3⟩
          refine xit_l (rld (calls := yex (d + 3)) (ok := xisI) l4' rfl) ?_
          refine xit_l (q := (none, (_, [.int 126, .int (sgu x a3)], h, cs, sl))) rfl ?_
          refine xit_l (rbt (calls := yex (d + 3)) (t := 24) (show xc_igt [.int 126, .int (sgu x a3)] = some (true, []) by show some (decide (126 < sgu x a3), ([] : List Value)) = _; rw [decide_eq_true ((i_lt e126 rfl).mpr c3)])) ?_
          exact t1
        · obtain ⟨m, h', cs', sl', t1, t2, t3⟩ := yes (lcy (Or.inr ⟨c2, c3⟩))
          refine ⟨m + 3 + 3 + 3 + 9, h', cs', sl', pre (p1 (p2 ?_)), t2, t3⟩
          refine xit_l (rld (calls := yex (d + 3)) (ok := xisI) l4' rfl) ?_
          refine xit_l (q := (none, (_, [.int 126, .int (sgu x a3)], h, cs, sl))) rfl ?_
          refine xit_l (rbf (calls := yex (d + 3)) (t := 24) (show xc_igt [.int 126, .int (sgu x a3)] = some (false, []) by show some (decide (126 < sgu x a3), ([] : List Value)) = _; rw [decide_eq_false (mt (i_lt e126 rfl).mp c3)])) ?_
          exact t1
/-- takeSigns -/
theorem y_151 {h : xH} {z : Int32} (hI : INV h) (hz : fld h 1 2 = some (.int z)) : ∃ h' cs sl, yex (d + 4) 151 [.ref 0, .long x] h = some (none, h', cs, sl) ∧ CST [(100, 1), (100, 2)] h h' cs sl ∧ fld h' 1 2 = some (.int (layn x 8 56 z)) := by
  obtain ⟨m, h', cs, sl, q1, q2, q3⟩ := l_151 (d := d) (x := x) 8 56 h ((3, .int 56) :: xf1 3 (lv_args 0 [.ref 0, .long x])) z 0 0 (by decide) (by decide) hI hz rfl rfl rfl
  rw [Nat.zero_add, Nat.zero_add] at q1
  refine ⟨h', cs, sl, yex_of (k := m + 2) rfl rfl rfl ?_, q2, q3⟩
  refine xit_l (q := (none, (_, [.int 56], h, 0, 0))) rfl ?_
  refine xit_l (q := (none, ((3, .int 56) :: xf1 3 (lv_args 0 [.ref 0, .long x]), [], h, 0, 0))) rfl ?_
  exact q1
/-- feed -/
theorem y_139 {h : xH} {a b c : Int64} {z : Int32} (hI : INV h) (hz : fld h 1 2 = some (.int z)) : ∃ h' cs sl, yex (d + 5) 139 [.ref 0, .long a, .long b, .long c] h = some (some (.int (feedn a b c z)), h', cs, sl) ∧ CST [(100, 1), (100, 2)] h h' cs sl ∧ fld h' 1 2 = some (.int (feedn a b c z)) := by
  obtain ⟨h1, cs1, sl1, a1, a2, a3⟩ := y_151 (d := d) (x := a) hI hz
  obtain ⟨h2, cs2, sl2, b1, b2, b3⟩ := y_151 (d := d) (x := b) a2.1 a3
  obtain ⟨h3, cs3, sl3, c1, c2, c3⟩ := y_151 (d := d) (x := c) b2.1 b3
  obtain ⟨f0, p0, r0⟩ := bench hI
  obtain ⟨f1, p1, r1⟩ := bench a2.1
  obtain ⟨f2, p2, r2⟩ := bench b2.1
  obtain ⟨f3, p3, r3⟩ := bench c2.1
  obtain ⟨c', n', f', z', w1, -⟩ := row_of c2.1 row_1
  have hz' : z' = .int (feedn a b c z) := by
    have c3 := c3
    unfold fld at c3
    rw [w1] at c3
    exact Option.some.inj c3
  subst hz'
  refine ⟨h3, cs1 + cs2 + cs3, sl1 + sl2 + sl3, yex_of (k := 13) rfl rfl rfl ?_, CST_tr (CST_tr a2 b2) c2, c3⟩
  refine xit_l (q := (none, (_, [.ref 0], h, 0, 0))) rfl ?_
  refine xit_l (q := (none, (_, [.long a, .ref 0], h, 0, 0))) rfl ?_
  refine xit_l (rcv2 (k := 11) (calls := yex (d + 4)) (loc := lv_args 0 [.ref 0, .long a, .long b, .long c]) (st := []) (cs := 0) (sl := 0) a1 rfl p0) ?_
  rw [Nat.zero_add, Nat.zero_add]
  refine xit_l (q := (none, (_, [.ref 0], h1, cs1, sl1))) rfl ?_
  refine xit_l (q := (none, (_, [.long b, .ref 0], h1, cs1, sl1))) rfl ?_
  refine xit_l (rcv2 (k := 11) (calls := yex (d + 4)) (loc := lv_args 0 [.ref 0, .long a, .long b, .long c]) (st := []) (cs := cs1) (sl := sl1) b1 rfl p1) ?_
  refine xit_l (q := (none, (_, [.ref 0], h2, cs1 + cs2, sl1 + sl2))) rfl ?_
  refine xit_l (q := (none, (_, [.long c, .ref 0], h2, cs1 + cs2, sl1 + sl2))) rfl ?_
  refine xit_l (rcv2 (k := 11) (calls := yex (d + 4)) (loc := lv_args 0 [.ref 0, .long a, .long b, .long c]) (st := []) (cs := cs1 + cs2) (sl := sl1 + sl2) c1 rfl p2) ?_
  refine xit_l (q := (none, (_, [.ref 0], h3, cs1 + cs2 + cs3, sl1 + sl2 + sl3))) rfl ?_
  refine xit_l (rget (calls := yex (d + 4)) (ci := 11) (k := 0) p3 r3) ?_
  refine xit_l (rget (calls := yex (d + 4)) (ci := 6) (k := 2) w1 rfl) ?_
  exact xit_r rfl
end FEED
