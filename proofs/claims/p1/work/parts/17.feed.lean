/-! ===== feed: three longs that aren't known ===== -/
theorem xe_ial_len {a t n : Nat} {calls : xC} {loc : List (Nat × Value)} {st : List Value} {h : xH} {cs sl : Nat} {f : Nat → Int32} (hh : h[a]? = some (.inl (0, n, .inl f))) : xLen calls (loc, .ref a :: st, h, cs, sl) = some (.inl (none, (loc, .int (Int32.ofNat n) :: st, h, cs, sl))) := by
  simp only [xLen, hh]
  rfl
theorem xIn_nI {i n : Nat} (h : i < n) (hn : n < 2 ^ 31) : xIn (nI i) n = true := by
  unfold xIn
  rw [Bool.and_eq_true]
  exact ⟨decide_eq_true (nI_pos' (by omega)), by rw [nI_clamp (by omega)]; exact Nat.ble_eq_true_of_le h⟩
theorem xe_ias {a i n : Nat} {calls : xC} {loc : List (Nat × Value)} {st : List Value} {h : xH} {cs sl : Nat} {f : Nat → Int32} {x : Int32} (hh : h[a]? = some (.inl (0, n, .inl f))) (hi : i < n) (hn : n < 2 ^ 31) : xIas calls (loc, .int x :: .int (nI i) :: .ref a :: st, h, cs, sl) = some (.inl (none, (loc, st, h.set a (.inl (0, n, .inl (upd f i x))), cs, sl))) := by
  simp only [xIas, hh, xIn_nI hi hn, nI_clamp (show i < 2 ^ 31 by omega)]
theorem xe_call {i n : Nat} {ci : Option Nat} {calls : xC} {loc : List (Nat × Value)} {vs rest : List Value} {st : List Value} {h : xH} {cs sl : Nat} {res : xR} (hst : st = vs.reverse ++ rest) (hn : vs.length = n) (h8 : Nat.ble (xcs rest) 8 = true) (hrc : xrc ci vs h = true) (hc : calls i vs h = some res) : xCall i n ci calls (loc, st, h, cs, sl) = some (.inl (none, (loc, res.1.toList ++ rest, res.2.1, cs + res.2.2.1, sl + res.2.2.2))) := by
  have e1 : st.take n = vs.reverse := by rw [hst, ← hn, ← List.length_reverse, List.take_left']; rfl
  have e2 : st.drop n = rest := by rw [hst, ← hn, ← List.length_reverse, List.drop_left']; rfl
  have e3 : Nat.ble n st.length = true := Nat.ble_eq_true_of_le (by rw [hst, List.length_append, List.length_reverse]; omega)
  simp only [xCall, e1, e2, e3, List.reverse_reverse, h8, hrc, hc, Bool.and_self]
/-- the class's tape with n signs -/
def xFB (h : xH) (n : Nat) : Prop := h.length = 288 ∧ h[0]? = some (.inr (11, xf_0)) ∧ h[1]? = some (.inr (6, [.int 4000, .ref 2, .int (nI n)])) ∧ (∃ f, h[2]? = some (.inl (0, 600, .inl f))) ∧ h[213]? = some (.inr (12, xf_213)) ∧ ∃ g, h[214]? = some (.inl (0, 4000, .inl g))
theorem xu_set (d : Nat) {h : xH} {n : Nat} {f : Nat → Int32} {v : Int32} (h1 : h[1]? = some (.inr (6, [.int 4000, .ref 2, .int (nI n)]))) (h2 : h[2]? = some (.inl (0, 600, .inl f))) (hn : n < 600) : xex xsg xpr (d + 1) 38 [.ref 1, .int (nI n), .int v] h = some (none, h.set 2 (.inl (0, 600, .inl (upd f n v))), 0, 0) := by
  have n1 : ¬ nI n < 0 := nI_pos (by omega)
  have n2 : nI n < 4000 := nI_lt (b := 4000) (by omega) (by decide)
  have n3 : nI n < Int32.ofNat 600 := nI_lt (b := 600) hn (by decide)
  refine xex_of (k := 17) rfl rfl rfl (by decide) ?_
  refine xit_l rfl ?_
  refine xit_l (xe_brF (st' := []) (by simp [xc_lt, n1])) ?_
  refine xit_l rfl ?_
  refine xit_l rfl ?_
  refine xit_l (xe_get h1 rfl) ?_
  refine xit_l (xe_brT (st' := []) (by simp [xc_ilt, n2])) ?_
  refine xit_l rfl ?_
  refine xit_l rfl ?_
  refine xit_l (xe_get h1 rfl) ?_
  refine xit_l (xe_ial_len (t := 0) h2) ?_
  refine xit_l (xe_brT (st' := []) (by simp only [xc_ilt, decide_eq_true n3])) ?_
  refine xit_l rfl ?_
  refine xit_l (xe_get h1 rfl) ?_
  refine xit_l rfl ?_
  refine xit_l rfl ?_
  refine xit_l (xe_ias h2 hn (by decide)) ?_
  exact xit_r rfl
theorem xu_add (d : Nat) {h : xH} {n : Nat} {v : Int32} (hF : xFB h n) (hn : n < 600) : ∃ h', xex xsg xpr (d + 2) 39 [.ref 1, .int v] h = some (none, h', 0, 0) ∧ xFB h' (n + 1) := by
  obtain ⟨l0, h0, h1, ⟨f, h2⟩, h3, g, h4⟩ := hF
  have n2 : ¬ (4000 : Int32) ≤ nI n := nI_ge (b := 4000) (a := n) (by omega) (by decide)
  have hc := xu_set d (v := v) h1 h2 hn
  have hb1 : (h.set 2 (.inl (0, 600, .inl (upd f n v))))[1]? = some (.inr (6, [.int 4000, .ref 2, .int (nI n)])) := by rw [List.getElem?_set_ne (by decide)]; exact h1
  refine ⟨(h.set 2 (.inl (0, 600, .inl (upd f n v)))).set 1 (.inr (6, [.int 4000, .ref 2, .int (nI (n + 1))])), ?_, ?_⟩
  · refine xex_of (k := 17) rfl rfl rfl (by decide) ?_
    refine xit_l rfl ?_
    refine xit_l (xe_get h1 rfl) ?_
    refine xit_l rfl ?_
    refine xit_l (xe_get h1 rfl) ?_
    refine xit_l (xe_brF (st' := []) (by simp only [xc_ige, decide_eq_false n2])) ?_
    refine xit_l rfl ?_
    refine xit_l rfl ?_
    refine xit_l (xe_get h1 rfl) ?_
    refine xit_l rfl ?_
    refine xit_l (xe_call (vs := [.ref 1, .int (nI n), .int v]) (rest := []) rfl rfl rfl (by simp [xrc, h1]) hc) ?_
    refine xit_l rfl ?_
    refine xit_l rfl ?_
    refine xit_l (xe_get hb1 rfl) ?_
    refine xit_l rfl ?_
    refine xit_l rfl ?_
    refine xit_l (xe_put hb1 (Nat.le_of_ble_eq_true rfl) rfl) ?_
    exact xit_r (by rw [nI_succ]; rfl)
  · refine ⟨by rw [List.length_set, List.length_set]; exact l0, ?_, ?_, ⟨upd f n v, ?_⟩, ?_, g, ?_⟩
    · rw [List.getElem?_set_ne (by decide), List.getElem?_set_ne (by decide)]; exact h0
    · rw [List.getElem?_set_self (by rw [List.length_set]; omega)]
    · rw [List.getElem?_set_ne (by decide), List.getElem?_set_self (by omega)]
    · rw [List.getElem?_set_ne (by decide), List.getElem?_set_ne (by decide)]; exact h3
    · rw [List.getElem?_set_ne (by decide), List.getElem?_set_ne (by decide)]; exact h4
/-- a byte of a long, and whether it is a sign -/
def xbt (a : Int64) (s : Int32) : Int32 := (a.toUInt64 >>> (s.toInt64.toUInt64 &&& Int64.toUInt64 63)).toInt64.toInt32 &&& 255
def xgb (c : Int32) : Bool := decide (c = 10) || (!decide (c < 32) && !decide (126 < c))
def xsh (j : Nat) : Int32 := Int32.ofInt (8 * (j : Int) - 8)
theorem xsh_s : ∀ j, j < 9 → xsh (j + 1) + Int32.ofInt (-8) = xsh j := by decide +kernel
theorem xsh_pos : ∀ j, j < 9 → ¬ xsh (j + 1) < 0 := by decide +kernel
theorem xsh_0 : xsh 0 < 0 := by decide +kernel
theorem xsh_8 : xsh 8 = 56 := by decide +kernel
/-- how many of a long's first j bytes are signs -/
def xct (a : Int64) : Nat → Nat
  | 0 => 0
  | j + 1 => (match xgb (xbt a (xsh (j + 1))) with
    | true => 1
    | false => 0) + xct a j
theorem xct_le (a : Int64) : ∀ j, xct a j ≤ j
  | 0 => Nat.le_refl 0
  | j + 1 => by
    have h := xct_le a j
    unfold xct
    cases xgb (xbt a (xsh (j + 1))) <;> dsimp only <;> omega
theorem xu_it (d : Nat) (a : Int64) : ∀ (j : Nat), j ≤ 8 → ∀ (n : Nat) (h : xH) (t : List (Nat × Value)), xFB h n → n + j < 600 → (t = [(0, .ref 0), (1, .long a)] ∨ ∃ x, t = [(4, .int x), (0, .ref 0), (1, .long a)]) →
    ∃ k h', k ≤ 40 * j + 3 ∧ xit (xex xsg xpr (d + 2)) xk_13_0 k (some (.inl (xk_13_2, ((3, .int (xsh j)) :: t, [], h, 0, 0)))) = some (.inr (none, h', 0, 0)) ∧ xFB h' (n + xct a j) := by
  intro j
  induction j with
  | zero =>
    intro _ n h t hF _ ht
    refine ⟨3, h, by omega, ?_, hF⟩
    refine xit_l rfl ?_
    refine xit_l (xe_brT (st' := []) (by simp only [xc_lt, decide_eq_true xsh_0])) ?_
    exact xit_r rfl
  | succ j ih =>
    intro hj n h t hF hn ht
    have hs := xsh_s j (by omega)
    have hp := xsh_pos j (by omega)
    have e24 : ∀ (n' : Nat) (h' : xH), xFB h' n' → n' + j < 600 → ∃ k h'', k ≤ 40 * j + 5 ∧ xit (xex xsg xpr (d + 2)) xk_13_0 k (some (.inl (xk_13_24, ([(4, .int (xbt a (xsh (j + 1)))), (3, .int (xsh (j + 1))), (0, .ref 0), (1, .long a)], [], h', 0, 0)))) = some (.inr (none, h'', 0, 0)) ∧ xFB h'' (n' + xct a j) := by
      intro n' h' hF' hn'
      obtain ⟨k, h'', hk, hr, hq⟩ := ih (by omega) n' h' [(4, .int (xbt a (xsh (j + 1)))), (0, .ref 0), (1, .long a)] hF' hn' (Or.inr ⟨_, rfl⟩)
      refine ⟨k + 2, h'', by omega, ?_, hq⟩
      refine xit_l (q := (none, ([(3, .int (xsh j)), (4, .int (xbt a (xsh (j + 1)))), (0, .ref 0), (1, .long a)], [], h', 0, 0))) (by rw [← hs]; rfl) ?_
      refine xit_l rfl ?_
      exact hr
    have e20 : ∀ (hg : xgb (xbt a (xsh (j + 1))) = true), ∃ k h', k ≤ 40 * j + 10 ∧ xit (xex xsg xpr (d + 2)) xk_13_0 k (some (.inl (xk_13_20, ([(4, .int (xbt a (xsh (j + 1)))), (3, .int (xsh (j + 1))), (0, .ref 0), (1, .long a)], [], h, 0, 0)))) = some (.inr (none, h', 0, 0)) ∧ xFB h' (n + xct a (j + 1)) := by
      intro hg
      obtain ⟨h1, hc, hF1⟩ := xu_add d (v := xbt a (xsh (j + 1))) hF (by omega)
      obtain ⟨k, h', hk, hr, hq⟩ := e24 (n + 1) h1 hF1 (by omega)
      refine ⟨k + 4, h', by omega, ?_, ?_⟩
      · refine xit_l rfl ?_
        refine xit_l (xe_get hF.2.1 rfl) ?_
        refine xit_l rfl ?_
        refine xit_l (xe_call (vs := [.ref 1, .int (xbt a (xsh (j + 1)))]) (rest := []) rfl rfl rfl (by simp [xrc, hF.2.2.1]) hc) ?_
        exact hr
      · unfold xct
        rw [hg]
        dsimp only
        rw [← Nat.add_assoc]
        exact hq
    have e24' : ∀ (hg : xgb (xbt a (xsh (j + 1))) = false), ∃ k h', k ≤ 40 * j + 5 ∧ xit (xex xsg xpr (d + 2)) xk_13_0 k (some (.inl (xk_13_24, ([(4, .int (xbt a (xsh (j + 1)))), (3, .int (xsh (j + 1))), (0, .ref 0), (1, .long a)], [], h, 0, 0)))) = some (.inr (none, h', 0, 0)) ∧ xFB h' (n + xct a (j + 1)) := by
      intro hg
      obtain ⟨k, h', hk, hr, hq⟩ := e24 n h hF (by omega)
      refine ⟨k, h', by omega, hr, ?_⟩
      unfold xct
      rw [hg]
      dsimp only
      rw [Nat.zero_add]
      exact hq
    have start : ∀ (k : Nat) (z : Option ((xK × xS) ⊕ xR)), xit (xex xsg xpr (d + 2)) xk_13_0 k (some (.inl (xk_13_11, ([(4, .int (xbt a (xsh (j + 1)))), (3, .int (xsh (j + 1))), (0, .ref 0), (1, .long a)], [], h, 0, 0)))) = z → xit (xex xsg xpr (d + 2)) xk_13_0 (k + 9) (some (.inl (xk_13_2, ((3, .int (xsh (j + 1))) :: t, [], h, 0, 0)))) = z := by
      intro k z hz
      rcases ht with rfl | ⟨x, rfl⟩
      · refine xit_l rfl ?_
        refine xit_l (xe_brF (st' := []) (by simp only [xc_lt, decide_eq_false hp])) ?_
        refine xit_l rfl ?_
        refine xit_l rfl ?_
        refine xit_l rfl ?_
        refine xit_l rfl ?_
        refine xit_l rfl ?_
        refine xit_l rfl ?_
        refine xit_l rfl ?_
        exact hz
      · refine xit_l rfl ?_
        refine xit_l (xe_brF (st' := []) (by simp only [xc_lt, decide_eq_false hp])) ?_
        refine xit_l rfl ?_
        refine xit_l rfl ?_
        refine xit_l rfl ?_
        refine xit_l rfl ?_
        refine xit_l rfl ?_
        refine xit_l rfl ?_
        refine xit_l rfl ?_
        exact hz
    by_cases c1 : xbt a (xsh (j + 1)) = 10
    · obtain ⟨k, h', hk, hr, hq⟩ := e20 (by simp [xgb, c1])
      refine ⟨k + 3 + 9, h', by omega, start _ _ ?_, hq⟩
      refine xit_l rfl ?_
      refine xit_l rfl ?_
      refine xit_l (xe_brT (st' := []) (by simp only [xc_ieq, decide_eq_true c1])) ?_
      exact hr
    · by_cases c2 : xbt a (xsh (j + 1)) < 32
      · obtain ⟨k, h', hk, hr, hq⟩ := e24' (by simp [xgb, c1, c2])
        refine ⟨k + 6 + 9, h', by omega, start _ _ ?_, hq⟩
        refine xit_l rfl ?_
        refine xit_l rfl ?_
        refine xit_l (xe_brF (st' := []) (by simp only [xc_ieq, decide_eq_false c1])) ?_
        refine xit_l rfl ?_
        refine xit_l rfl ?_
        refine xit_l (xe_brT (st' := []) (by simp only [xc_ilt, decide_eq_true c2])) ?_
        exact hr
      · by_cases c3 : 126 < xbt a (xsh (j + 1))
        · obtain ⟨k, h', hk, hr, hq⟩ := e24' (by simp [xgb, c1, c3])
          refine ⟨k + 9 + 9, h', by omega, start _ _ ?_, hq⟩
          refine xit_l rfl ?_
          refine xit_l rfl ?_
          refine xit_l (xe_brF (st' := []) (by simp only [xc_ieq, decide_eq_false c1])) ?_
          refine xit_l rfl ?_
          refine xit_l rfl ?_
          refine xit_l (xe_brF (st' := []) (by simp only [xc_ilt, decide_eq_false c2])) ?_
          refine xit_l rfl ?_
          refine xit_l rfl ?_
          refine xit_l (xe_brT (st' := []) (by simp only [xc_igt, decide_eq_true c3])) ?_
          exact hr
        · obtain ⟨k, h', hk, hr, hq⟩ := e20 (by simp [xgb, c1, c2, c3])
          refine ⟨k + 9 + 9, h', by omega, start _ _ ?_, hq⟩
          refine xit_l rfl ?_
          refine xit_l rfl ?_
          refine xit_l (xe_brF (st' := []) (by simp only [xc_ieq, decide_eq_false c1])) ?_
          refine xit_l rfl ?_
          refine xit_l rfl ?_
          refine xit_l (xe_brF (st' := []) (by simp only [xc_ilt, decide_eq_false c2])) ?_
          refine xit_l rfl ?_
          refine xit_l rfl ?_
          refine xit_l (xe_brF (st' := []) (by simp only [xc_igt, decide_eq_false c3])) ?_
          exact hr
theorem xu_take (d : Nat) (a : Int64) {n : Nat} {h : xH} (hF : xFB h n) (hn : n + 8 < 600) : ∃ h', xex xsg xpr (d + 3) 13 [.ref 0, .long a] h = some (none, h', 0, 0) ∧ xFB h' (n + xct a 8) := by
  obtain ⟨k, h', hk, hr, hq⟩ := xu_it d a 8 (Nat.le_refl 8) n h _ hF hn (Or.inl rfl)
  refine ⟨h', xex_of (k := k + 2) rfl rfl rfl (by omega) ?_, hq⟩
  rw [xsh_8] at hr
  refine xit_l rfl ?_
  refine xit_l rfl ?_
  exact hr
theorem xs_feed (d : Nat) (a b c : Int64) : ∃ h', xex xsg xpr (d + 4) 1 [.ref 0, .long a, .long b, .long c] xh2 = some (some (.int (nI (xct a 8 + xct b 8 + xct c 8))), h', 0, 0) ∧ xFB h' (xct a 8 + xct b 8 + xct c 8) := by
  have ha := xct_le a 8
  have hb := xct_le b 8
  have hF0 : xFB xh2 0 := ⟨xe_6, xobj_at xe_8, xobj_at xe_9, xarr_at xe_15, xobj_at xe_14, xarr_at xe_16⟩
  obtain ⟨h1, r1, F1⟩ := xu_take d a hF0 (by omega)
  obtain ⟨h2, r2, F2⟩ := xu_take d b F1 (by omega)
  obtain ⟨h3, r3, F3⟩ := xu_take d c F2 (by omega)
  rw [Nat.zero_add] at F3
  refine ⟨h3, xex_of (k := 13) rfl rfl rfl (by decide) ?_, F3⟩
  refine xit_l rfl ?_
  refine xit_l rfl ?_
  refine xit_l (xe_call (vs := [.ref 0, .long a]) (rest := []) rfl rfl rfl (by simp [xrc, hF0.2.1]) r1) ?_
  refine xit_l rfl ?_
  refine xit_l rfl ?_
  refine xit_l (xe_call (vs := [.ref 0, .long b]) (rest := []) rfl rfl rfl (by simp [xrc, F1.2.1]) r2) ?_
  refine xit_l rfl ?_
  refine xit_l rfl ?_
  refine xit_l (xe_call (vs := [.ref 0, .long c]) (rest := []) rfl rfl rfl (by simp [xrc, F2.2.1]) r3) ?_
  refine xit_l rfl ?_
  refine xit_l (xe_get F3.2.1 rfl) ?_
  refine xit_l (xe_get F3.2.2.1 rfl) ?_
  exact xit_r rfl
