/-! ===== what holds behind the constructors ===== -/
theorem xck_at {i : Nat} {b : Bool} (h : xck[i]? = some b) : b = true := List.all_eq_true.mp xck_all b (List.mem_of_getElem? h)
theorem xsome {α : Type} {o : Option α} (d : α) (h : o.isSome = true) : o = some (o.getD d) := by
  cases o with
  | none => cases h
  | some a => rfl
theorem xe_0 : (xex xsg xpr 10 138 [.ref 0] [.inr (11, xdf11)]).isSome = true := of_decide_eq_true (xck_at (i := 0) rfl)
theorem xe_1 : (xex xsg xpr 10 153 [.ref 213] (xr1.2.1 ++ [.inr (12, xdf12)])).isSome = true := of_decide_eq_true (xck_at (i := 1) rfl)
theorem xe_2 : xr1.1 = none := of_decide_eq_true (xck_at (i := 2) rfl)
theorem xe_3 : xr1.2.1.length = 213 := of_decide_eq_true (xck_at (i := 3) rfl)
theorem xe_4 : xr1.2.2 = (212, 54083) := of_decide_eq_true (xck_at (i := 4) rfl)
theorem xe_5 : xr2.1 = none := of_decide_eq_true (xck_at (i := 5) rfl)
theorem xe_6 : xr2.2.2 = (74, 613545) := of_decide_eq_true (xck_at (i := 6) rfl)
theorem yr_1 : yex 1514 138 [.ref 0] [.inr (11, xdf11)] = some xr1 := yex_mono (by decide) _ _ _ _ (xex_le 10 _ _ _ _ (xsome _ xe_0))
theorem yr_2 : yex 1514 153 [.ref 213] (xr1.2.1 ++ [.inr (12, xdf12)]) = some xr2 := yex_mono (by decide) _ _ _ _ (xex_le 10 _ _ _ _ (xsome _ xe_1))
theorem xh2_inv : INV xh2 := invB_ok xe_7
set_option maxRecDepth 20000 in
theorem xh2_len : xh2.length = 288 := by
  have := xe_7
  unfold invB at this
  rw [Bool.and_eq_true, Bool.and_eq_true, Bool.and_eq_true] at this
  exact Nat.eq_of_beq_eq_true this.1.1.1
theorem fvsB_get : ∀ {vs ws : List Value}, fvsB vs ws = true → vs.length = ws.length ∧ ∀ (k : Nat) (v : Value), vs[k]? = some v → ∃ w, ws[k]? = some w ∧ fvB v w = true
  | [], [], _ => ⟨rfl, fun k v h => by cases h⟩
  | [], w :: ws, h => by cases h
  | v :: vs, [], h => by cases h
  | v :: vs, w :: ws, h => by
    have h : (fvB v w && fvsB vs ws) = true := h
    rw [Bool.and_eq_true] at h
    obtain ⟨i1, i2⟩ := fvsB_get h.2
    refine ⟨by rw [List.length_cons, List.length_cons, i1], fun k v' hk => ?_⟩
    cases k with
    | zero =>
      cases hk
      exact ⟨w, rfl, h.1⟩
    | succ k => exact i2 k v' hk
theorem rcsB_get {h : xH} : ∀ {l : List (Nat × Nat)} {p : Nat}, rcsB h p l = true → ∀ (j : Nat) (q : Nat × Nat), l[j]? = some q → rcB h (p + j) q = true
  | [], p, _, j, q, hj => by cases hj
  | q0 :: l, p, hb, j, q, hj => by
    have hb : (rcB h p q0 && rcsB h (p + 1) l) = true := hb
    rw [Bool.and_eq_true] at hb
    cases j with
    | zero =>
      cases hj
      exact hb.1
    | succ j =>
      have := rcsB_get hb.2 j q hj
      rw [show p + (j + 1) = p + 1 + j by omega]
      exact this
/-- two cells that the machine does not tell apart -/
def cEq (c c' : xE) : Prop := c = c' ∨ (∃ t n f f', c = .inl (t, n, .inl f) ∧ c' = .inl (t, n, .inl f') ∧ ∀ i, i < n → f i = f' i) ∨ ∃ t n f f', c = .inl (t, n, .inr (.inl f)) ∧ c' = .inl (t, n, .inr (.inl f')) ∧ ∀ i, i < n → f i = f' i
theorem arrV_eq {cI : ClassId} {n : Nat} {f g : Nat → Value} (h : ∀ i, i < n → f i = g i) : arrV cI n f = arrV cI n g := by
  unfold arrV
  congr 2
  funext j
  exact h j.1 j.2
theorem cEq_at {D : va_G} {b a : Nat} {aS : Nat → Nat} {cT : Nat → ClassId} {c c' : xE} {H : Heap} (hc : cEq c c') (h : va_at D vwCl (a, xc b aS cT c) H) : va_at D vwCl (a, xc b aS cT c') H := by
  rcases hc with rfl | ⟨t, n, f, f', rfl, rfl, e⟩ | ⟨t, n, f, f', rfl, rfl, e⟩
  · exact h
  · have h : H[a]? = some (arrV (cT t) n (fun j => .int (f j))) := h
    show H[a]? = some (arrV (cT t) n (fun j => .int (f' j)))
    rw [h, arrV_eq (fun i hi => by rw [e i hi])]
  · have h : H[a]? = some (arrV (cT t) n (fun j => .long (f j))) := h
    show H[a]? = some (arrV (cT t) n (fun j => .long (f' j)))
    rw [h, arrV_eq (fun i hi => by rw [e i hi])]
theorem xI_cEq {b : Nat} {aS : Nat → Nat} {D : va_G} {cT : Nat → ClassId} {s : State} {H : Heap} {locs : List Loc} {h h' : xH} (hI : xI b aS D cT s H locs h) (hl : h'.length = h.length) (hc : ∀ (k : Nat) (c' : xE), h'[k]? = some c' → ∃ c, h[k]? = some c ∧ cEq c c') : xI b aS D cT s H locs h' := by
  obtain ⟨i1, i2, i3, i4⟩ := hI
  refine ⟨by omega, by rw [i2, hl], fun k q hq => ?_, i4⟩
  rw [xw_get] at hq
  obtain ⟨c', h1, rfl⟩ := Option.map_eq_some_iff.mp hq
  obtain ⟨c, h2, h3⟩ := hc k c' h1
  exact cEq_at h3 (i3 k (b + k, xc b aS cT c) (xw_at h2))
noncomputable def hN : xH := yh (xh2.take 213) [] (sOf xh2)
theorem refB_ok {h : xH} (hb : refB h = true) : (∃ fs, h[213]? = some (.inr (12, fs)) ∧ fvsB yf fs = true) ∧ rcsB h 214 yrt = true ∧ (i0B h 213 29 = true ∧ i0B h 213 2 = true ∧ i0B h 213 94 = true ∧ i0B h 213 120 = true ∧ i0B h 213 112 = true ∧ i0B h 213 90 = true) ∧ i0B h 3 10 = true ∧ i0B h 39 10 = true ∧ i0B h 1 2 = true := by
  unfold refB at hb
  simp only [Bool.and_eq_true] at hb
  obtain ⟨b1, b2, b4, b5, b6, b7⟩ := hb
  refine ⟨?_, b2, b4, b5, b6, b7⟩
  split at b1
  · rename_i fs e
    exact ⟨fs, e, b1⟩
  · cases b1
theorem i0B_ok {h : xH} {a k : Nat} (hb : i0B h a k = true) : fld h a k = some (.int 0) := by
  unfold i0B at hb
  split at hb
  · rename_i x e
    rw [e, of_decide_eq_true hb]
  · cases hb
theorem sOf_1 {h : xH} {k : Nat} {x : Int32} (hk : fld h 213 k = some (.int x)) : (sOf h).1 k = x := by
  show (match fld h 213 k with
    | some (.int x) => x
    | _ => 0) = x
  rw [hk]
theorem sOf_2 {h : xH} {p t n : Nat} {f : Nat → Int32} (hk : h[p]? = some (.inl (t, n, .inl f))) : (sOf h).2.1 p = in0 n f := by
  show (match h[p]? with
    | some (.inl (_, n, .inl f)) => in0 n f
    | _ => fun _ => 0) = _
  rw [hk]
theorem sOf_3 {h : xH} {p t n : Nat} {f : Nat → Int64} (hk : h[p]? = some (.inl (t, n, .inr (.inl f)))) : (sOf h).2.2 p = in0L n f := by
  show (match h[p]? with
    | some (.inl (_, n, .inr (.inl f))) => in0L n f
    | _ => fun _ => 0) = _
  rw [hk]
theorem yfl_of {h : xH} {fs : List Value} (e : h[213]? = some (.inr (12, fs))) (hf : fvsB yf fs = true) : yfl (sOf h) = fs := by
  obtain ⟨l1, l2⟩ := fvsB_get hf
  refine List.ext_getElem? (fun k => ?_)
  unfold yfl
  rw [List.getElem?_mapIdx]
  cases hk : yf[k]? with
  | none =>
    have := List.getElem?_eq_none_iff.mp hk
    rw [List.getElem?_eq_none (by omega)]
    rfl
  | some v =>
    obtain ⟨w, w1, w2⟩ := l2 k v hk
    rw [w1]
    show some (yfv (sOf h) k v) = some w
    congr 1
    cases v with
    | int x =>
      cases w with
      | int y =>
        show Value.int ((sOf h).1 k) = _
        rw [sOf_1 (x := y) (by unfold fld; rw [e]; exact w1)]
      | _ => cases w2
    | ref a =>
      cases w with
      | ref a' =>
        have w2 : Nat.beq a a' = true := w2
        rw [Nat.eq_of_beq_eq_true w2]
        rfl
      | _ => cases w2
    | _ => cases w <;> cases w2
theorem in0_lt {n i : Nat} {f : Nat → Int32} (h : i < n) : f i = in0 n f i := by
  unfold in0
  rw [if_pos h]
theorem in0L_lt {n i : Nat} {f : Nat → Int64} (h : i < n) : f i = in0L n f i := by
  unfold in0L
  rw [if_pos h]
theorem yce_of {h : xH} {p : Nat} {q : Nat × Nat} (hb : rcB h p q = true) : ∃ c, h[p]? = some c ∧ cEq c (ycell (sOf h) p q) := by
  obtain ⟨t, n⟩ := q
  unfold rcB at hb
  split at hb
  · rename_i t' n' f e
    rw [Bool.and_eq_true, Bool.and_eq_true] at hb
    obtain ⟨⟨a1, a2⟩, b3⟩ := hb
    obtain rfl : t' = t := Nat.eq_of_beq_eq_true a1
    obtain rfl : n' = n := Nat.eq_of_beq_eq_true a2
    refine ⟨_, e, Or.inr (Or.inl ⟨t', n', f, in0 n' f, rfl, ?_, fun i hi => in0_lt hi⟩)⟩
    have ht : ¬ t' = 1 := by
      intro w
      rw [w] at b3
      cases b3
    rw [← sOf_2 e]
    unfold ycell
    split
    · rename_i w
      exact absurd w ht
    · rfl
  · rename_i t' n' f e
    rw [Bool.and_eq_true, Bool.and_eq_true] at hb
    obtain ⟨⟨a1, a2⟩, a3⟩ := hb
    obtain rfl : t' = 1 := Nat.eq_of_beq_eq_true a1
    obtain rfl : n' = n := Nat.eq_of_beq_eq_true a2
    obtain rfl : t = 1 := Nat.eq_of_beq_eq_true a3
    refine ⟨_, e, Or.inr (Or.inr ⟨1, n', f, in0L n' f, rfl, ?_, fun i hi => in0L_lt hi⟩)⟩
    rw [← sOf_3 e]
    rfl
  · cases hb
theorem tk_len : (xh2.take 213).length = 213 := by rw [List.length_take, xh2_len]; rfl
theorem hN_len : hN.length = xh2.length := by
  unfold hN
  rw [yh_len tk_len, xh2_len]
  rfl
theorem hN_lo {m : Nat} (hm : m < 213) : hN[m]? = xh2[m]? := by
  unfold hN
  rw [yh_get tk_len, if_pos hm, List.getElem?_take, if_pos hm]
theorem hN_get (k : Nat) (c' : xE) (hk : hN[k]? = some c') : ∃ c, xh2[k]? = some c ∧ cEq c c' := by
  by_cases h1 : k < 213
  · rw [hN_lo h1] at hk
    exact ⟨c', hk, Or.inl rfl⟩
  · have hl : k < 288 := by
      have := (List.getElem?_eq_some_iff.mp hk).1
      rw [hN_len, xh2_len] at this
      exact this
    unfold hN at hk
    rw [yh_get tk_len, if_neg h1, if_pos hl] at hk
    obtain ⟨⟨fs, e, hf⟩, hr, -⟩ := refB_ok xe_8
    by_cases h2 : k = 213
    · subst h2
      have hk : some (Sum.inr (12, yfl (sOf xh2))) = some c' := hk
      rw [yfl_of e hf] at hk
      exact ⟨_, e, Or.inl (Option.some.inj hk)⟩
    · rw [yR_at (by omega)] at hk
      obtain ⟨q, q1, rfl⟩ := Option.map_eq_some_iff.mp hk
      have := rcsB_get hr (k - 214) q q1
      rw [show 214 + (k - 214) = k by omega] at this
      exact yce_of this
theorem xI_N {b : Nat} {aS : Nat → Nat} {D : va_G} {cT : Nat → ClassId} {s : State} {H : Heap} {locs : List Loc} (hI : xI b aS D cT s H locs xh2) : xI b aS D cT s H locs hN := xI_cEq hI hN_len hN_get
theorem zeB_ok {h : xH} {p k : Nat} (hb : zeB h p k = true) (i : Nat) : (sOf h).2.1 p i = 0 := by
  unfold zeB at hb
  split at hb
  · rename_i t n f e
    rw [Bool.and_eq_true] at hb
    rw [sOf_2 e]
    unfold in0
    by_cases hi : i < n
    · rw [if_pos hi]
      have := pB_ok hb.2 (i := i) (Nat.zero_le _) (by have := Nat.le_of_ble_eq_true hb.1; omega)
      have : (f i).toBitVec.toNat = 0 := Nat.eq_of_beq_eq_true this
      exact Int32.toBitVec_inj.mp (BitVec.eq_of_toNat_eq this)
    · rw [if_neg hi]
  · cases hb
theorem RIv_N : RIv (sOf xh2) := by
  obtain ⟨-, -, ⟨f29, f2, f94, f120, f112, f90⟩, -⟩ := refB_ok xe_8
  have g29 := sOf_1 (i0B_ok f29)
  have g2 := sOf_1 (i0B_ok f2)
  have g94 := sOf_1 (i0B_ok f94)
  have g120 := sOf_1 (i0B_ok f120)
  have g112 := sOf_1 (i0B_ok f112)
  have g90 := sOf_1 (i0B_ok f90)
  refine ⟨0, by decide, by rw [g29]; decide, fun i => ?_, fun i => ?_, by rw [g2]; decide, by rw [g94]; decide, ?_, by rw [g112]; decide, fun w => absurd (by rw [g90]; decide) w, fun _ => ⟨0, by rw [g112]; decide, by decide, fun i hi => absurd hi (Nat.not_lt_zero i)⟩⟩
  · rw [zeB_ok xe_9]
    decide
  · rw [zeB_ok xe_10]
    decide
  · unfold sOK
    rw [g120]
    decide
theorem skM_lo (a : Nat) : 100000 ≤ skM a := by
  unfold skM
  cases cod a <;> cases skE a <;> decide
theorem EX_x : EXh xh2 := by
  have hb := xe_11
  unfold exBx at hb
  rw [Bool.and_eq_true, Bool.and_eq_true] at hb
  obtain ⟨⟨b1, b2⟩, b3⟩ := hb
  refine ⟨fun a ha i hi => ?_, fun a ha i => ?_, Or.inl (i0B_ok b2)⟩
  · have := aB_ok b1 hi
    rw [Bool.and_eq_true] at this
    rcases ha with rfl | rfl
    · exact of_decide_eq_true this.1
    · exact of_decide_eq_true this.2
  · have h3 := aB_ok b3 (sk_lt ha)
    rw [ha, Bool.not_true, Bool.false_or] at h3
    have hm := skM_lo a
    unfold rv
    cases hq : rc xh2 a with
    | none =>
      show -1000 ≤ (0 : Int32).toInt ∧ (0 : Int32).toInt ≤ skM a
      rw [show (0 : Int32).toInt = 0 by decide]
      omega
    | some q =>
      rw [hq] at h3
      try dsimp only at h3
      show -1000 ≤ (if i < q.2.1 then q.2.2 i else 0).toInt ∧ (if i < q.2.1 then q.2.2 i else 0).toInt ≤ skM a
      by_cases hi : i < q.2.1
      · rw [if_pos hi]
        have := aB_ok h3 hi
        rw [Bool.and_eq_true] at this
        have h1 := of_decide_eq_true this.1
        have h2 := of_decide_eq_true this.2
        omega
      · rw [if_neg hi, show (0 : Int32).toInt = 0 by decide]
        omega
theorem LSt_N : LSt hN (sOf xh2) := by
  obtain ⟨-, -, ⟨-, f2, -⟩, j1, j2, j3⟩ := refB_ok xe_8
  have fl : ∀ a k, a < 213 → fld hN a k = fld xh2 a k := fun a k ha => by
    unfold fld
    rw [hN_lo ha]
  have hl := hN_len
  have hl2 := xh2_len
  refine ⟨INV_eq xh2_inv hN_len (fun m hm => ?_), ⟨0, 0, (fl 3 10 (by decide)).trans (i0B_ok j1), by decide, (fl 39 10 (by decide)).trans (i0B_ok j2), by decide⟩, RIv_N, ?_, ?_, ?_, ?_⟩
  · rcases hm with hm | hm
    · exact hN_lo hm
    · rw [List.getElem?_eq_none (by omega), List.getElem?_eq_none (by omega)]
  · have e1 : hN.take 213 = xh2.take 213 := List.ext_getElem? (fun m => by
      rw [List.getElem?_take, List.getElem?_take]
      by_cases hm : m < 213
      · rw [if_pos hm, if_pos hm, hN_lo hm]
      · rw [if_neg hm, if_neg hm])
    have e2 : hN.drop 288 = [] := List.drop_of_length_le (by omega)
    rw [e1, e2]
    rfl
  · rw [fl 1 2 (by decide), i0B_ok j3, sOf_1 (i0B_ok f2)]
  · intro i hi
    rw [sOf_1 (i0B_ok f2), show (0 : Int32).toInt = 0 by decide] at hi
    omega
  · have hg : ∀ m, (m < 213 ∨ 288 ≤ m) → hN[m]? = xh2[m]? := fun m hm => by
      rcases hm with hm | hm
      · exact hN_lo hm
      · rw [List.getElem?_eq_none (by omega), List.getElem?_eq_none (by omega)]
    have rvE : ∀ a ∈ rowL, ∀ j, rv hN a j = rv xh2 a j := fun a ha j => rv_same (rc_same xh2_inv fl hg ha) j
    have hX := EX_x
    refine ⟨fun a ha j hj => ?_, fun a ha j => ?_, (KL_eq (fl 3 10 (by decide)) (fl 39 10 (by decide)) (fl 0 9 (by decide)) (fl 0 11 (by decide)) xh2_inv).2 hX.2.2⟩
    · rw [rvE a (wk_row ha) j]
      exact hX.1 a ha j hj
    · rw [rvE a (sk_row ha) j]
      exact hX.2.1 a ha j
theorem Sh_N : Sh hN = 0 := by
  have hl := hN_len
  have hl2 := xh2_len
  unfold Sh
  rw [List.drop_of_length_le (by omega)]
  rfl
