/-! ===== the reference's feed ===== -/
/-- a byte by the arithmetic shift -/
def xbm (a : Int64) (s : Int32) : Int32 := (a >>> (s.toInt64 &&& 63)).toInt32 &&& 255
theorem xbm_of (a : Int64) (s : Int32) (k : Nat) (hk : k ≤ 56) (h1 : ((s.toInt64 &&& 63).toBitVec.smod 64).toNat = k) (h2 : ((s.toInt64.toUInt64 &&& Int64.toUInt64 63).toBitVec % 64).toNat = k) : xbm a s = xbt a s := by
  apply Int32.toBitVec_inj.mp
  apply BitVec.eq_of_getLsbD_eq
  intro i hi
  have e255 : (255 : Int32).toBitVec.getLsbD i = decide (i < 8) := by
    have : ∀ i, i < 32 → (255 : Int32).toBitVec.getLsbD i = decide (i < 8) := by decide +kernel
    exact this i hi
  have eA : (xbm a s).toBitVec = ((a.toBitVec.sshiftRight k).signExtend 32) &&& (255 : Int32).toBitVec := by
    show ((a >>> (s.toInt64 &&& 63)).toInt32 &&& 255).toBitVec = _
    rw [Int32.toBitVec_and]
    congr 1
    show ((a >>> (s.toInt64 &&& 63)).toBitVec).signExtend 32 = _
    rw [Int64.toBitVec_shiftRight, BitVec.sshiftRight_eq', h1]
  have eB : (xbt a s).toBitVec = ((a.toBitVec >>> k).signExtend 32) &&& (255 : Int32).toBitVec := by
    show ((a.toUInt64 >>> (s.toInt64.toUInt64 &&& Int64.toUInt64 63)).toInt64.toInt32 &&& 255).toBitVec = _
    rw [Int32.toBitVec_and]
    congr 1
    show ((a.toUInt64 >>> (s.toInt64.toUInt64 &&& Int64.toUInt64 63)).toBitVec).signExtend 32 = _
    rw [UInt64.toBitVec_shiftRight, BitVec.ushiftRight_eq', h2]
    rfl
  rw [eA, eB, BitVec.getLsbD_and, BitVec.getLsbD_and, e255]
  by_cases h8 : i < 8
  · rw [BitVec.getLsbD_signExtend, BitVec.getLsbD_signExtend, BitVec.getLsbD_sshiftRight, BitVec.getLsbD_ushiftRight]
    simp [show i < 64 by omega, show k + i < 64 by omega, show ¬ 64 ≤ i by omega]
  · simp [h8]
theorem xbm_eq (a : Int64) (j : Nat) (hj : j < 8) : xbm a (xsh (j + 1)) = xbt a (xsh (j + 1)) := by
  have k1 : ∀ j, j < 8 → (((xsh (j + 1)).toInt64 &&& 63).toBitVec.smod 64).toNat = 8 * j := by decide +kernel
  have k2 : ∀ j, j < 8 → (((xsh (j + 1)).toInt64.toUInt64 &&& Int64.toUInt64 63).toBitVec % 64).toNat = 8 * j := by decide +kernel
  exact xbm_of a _ (8 * j) (by omega) (k1 j hj) (k2 j hj)
/-- the reference's tape with n signs -/
def xFM (h : xH) (n : Nat) : Prop := h.length = 288 ∧ h[213]? = some (.inr (12, (xf_213.set 0 (.int 0)).set 2 (.int (nI n)))) ∧ ∃ g, h[214]? = some (.inl (0, 4000, .inl g))
theorem xfm_len (n : Nat) : ((xf_213.set 0 (.int 0)).set 2 (.int (nI n))).length = 125 := by rw [List.length_set, List.length_set, xf213_len]
theorem xv_it (d : Nat) (a : Int64) : ∀ (j : Nat), j ≤ 8 → ∀ (n : Nat) (h : xH) (t : List (Nat × Value)), xFM h n → n + j < 4000 → (t = [(0, .ref 213), (1, .long a)] ∨ ∃ x, t = [(4, .int x), (0, .ref 213), (1, .long a)]) →
    ∃ k h', k ≤ 60 * j + 3 ∧ xit (xex xsg xpr d) xk_56_0 k (some (.inl (xk_56_2, ((3, .int (xsh j)) :: t, [], h, 0, 0)))) = some (.inr (none, h', 0, 0)) ∧ xFM h' (n + xct a j) := by
  intro j
  induction j with
  | zero =>
    intro _ n h t hF _ ht
    refine ⟨3, h, by omega, ?_, hF⟩
    refine xit_l rfl ?_
    refine xit_l (xe_brT (st' := []) (by simp only [xc_lt, decide_eq_true xsh_0])) ?_
    exact xit_r rfl
  | succ j ih =>
    intro hj n h t hF hn ht
    have hs := xsh_s j (by omega)
    have hp := xsh_pos j (by omega)
    have hbm := xbm_eq a j (by omega)
    have e36 : ∀ (n' : Nat) (h' : xH), xFM h' n' → n' + j < 4000 → ∃ k h'', k ≤ 60 * j + 5 ∧ xit (xex xsg xpr d) xk_56_0 k (some (.inl (xk_56_36, ([(4, .int (xbt a (xsh (j + 1)))), (3, .int (xsh (j + 1))), (0, .ref 213), (1, .long a)], [], h', 0, 0)))) = some (.inr (none, h'', 0, 0)) ∧ xFM h'' (n' + xct a j) := by
      intro n' h' hF' hn'
      obtain ⟨k, h'', hk, hr, hq⟩ := ih (by omega) n' h' [(4, .int (xbt a (xsh (j + 1)))), (0, .ref 213), (1, .long a)] hF' hn' (Or.inr ⟨_, rfl⟩)
      refine ⟨k + 2, h'', by omega, ?_, hq⟩
      refine xit_l (q := (none, ([(3, .int (xsh j)), (4, .int (xbt a (xsh (j + 1)))), (0, .ref 213), (1, .long a)], [], h', 0, 0))) (by rw [← hs]; rfl) ?_
      refine xit_l rfl ?_
      exact hr
    have e20 : ∀ (hg : xgb (xbt a (xsh (j + 1))) = true), ∃ k h', k ≤ 60 * j + 30 ∧ xit (xex xsg xpr d) xk_56_0 k (some (.inl (xk_56_20, ([(4, .int (xbt a (xsh (j + 1)))), (3, .int (xsh (j + 1))), (0, .ref 213), (1, .long a)], [], h, 0, 0)))) = some (.inr (none, h', 0, 0)) ∧ xFM h' (n + xct a (j + 1)) := by
      intro hg
      obtain ⟨l0, h1, g, h2⟩ := hF
      have n2 : ¬ (4000 : Int32) ≤ nI n := nI_ge (b := 4000) (a := n) (by omega) (by decide)
      have hb1 : (h.set 214 (.inl (0, 4000, .inl (upd g n (xbt a (xsh (j + 1)))))))[213]? = some (.inr (12, (xf_213.set 0 (.int 0)).set 2 (.int (nI n)))) := by rw [List.getElem?_set_ne (by decide)]; exact h1
      have hF1 : xFM ((h.set 214 (.inl (0, 4000, .inl (upd g n (xbt a (xsh (j + 1))))))).set 213 (.inr (12, ((xf_213.set 0 (.int 0)).set 2 (.int (nI n))).set 2 (.int (nI n + 1))))) (n + 1) := by
        refine ⟨by rw [List.length_set, List.length_set]; exact l0, ?_, upd g n (xbt a (xsh (j + 1))), ?_⟩
        · rw [List.getElem?_set_self (by rw [List.length_set]; omega), List.set_set, nI_succ]
        · rw [List.getElem?_set_ne (by decide), List.getElem?_set_self (by omega)]
      obtain ⟨k, h', hk, hr, hq⟩ := e36 (n + 1) _ hF1 (by omega)
      refine ⟨k + 16, h', by omega, ?_, ?_⟩
      · refine xit_l rfl ?_
        refine xit_l (xe_get h1 rfl) ?_
        refine xit_l rfl ?_
        refine xit_l (xe_brF (st' := []) (by simp only [xc_ige, decide_eq_false n2])) ?_
        refine xit_l rfl ?_
        refine xit_l (xe_get h1 rfl) ?_
        refine xit_l rfl ?_
        refine xit_l (xe_get h1 rfl) ?_
        refine xit_l rfl ?_
        refine xit_l (xe_ias h2 (by omega) (by decide)) ?_
        refine xit_l rfl ?_
        refine xit_l rfl ?_
        refine xit_l (xe_get hb1 rfl) ?_
        refine xit_l rfl ?_
        refine xit_l rfl ?_
        refine xit_l (xe_put hb1 (by rw [xfm_len]; decide) rfl) ?_
        exact hr
      · unfold xct
        rw [hg]
        dsimp only
        rw [← Nat.add_assoc]
        exact hq
    have e36' : ∀ (hg : xgb (xbt a (xsh (j + 1))) = false), ∃ k h', k ≤ 60 * j + 5 ∧ xit (xex xsg xpr d) xk_56_0 k (some (.inl (xk_56_36, ([(4, .int (xbt a (xsh (j + 1)))), (3, .int (xsh (j + 1))), (0, .ref 213), (1, .long a)], [], h, 0, 0)))) = some (.inr (none, h', 0, 0)) ∧ xFM h' (n + xct a (j + 1)) := by
      intro hg
      obtain ⟨k, h', hk, hr, hq⟩ := e36 n h hF (by omega)
      refine ⟨k, h', by omega, hr, ?_⟩
      unfold xct
      rw [hg]
      dsimp only
      rw [Nat.zero_add]
      exact hq
    have start : ∀ (k : Nat) (z : Option ((xK × xS) ⊕ xR)), xit (xex xsg xpr d) xk_56_0 k (some (.inl (xk_56_11, ([(4, .int (xbt a (xsh (j + 1)))), (3, .int (xsh (j + 1))), (0, .ref 213), (1, .long a)], [], h, 0, 0)))) = z → xit (xex xsg xpr d) xk_56_0 (k + 9) (some (.inl (xk_56_2, ((3, .int (xsh (j + 1))) :: t, [], h, 0, 0)))) = z := by
      intro k z hz
      rw [← hbm] at hz
      rcases ht with rfl | ⟨x, rfl⟩
      · refine xit_l rfl ?_
        refine xit_l (xe_brF (st' := []) (by simp only [xc_lt, decide_eq_false hp])) ?_
        refine xit_l rfl ?_
        refine xit_l rfl ?_
        refine xit_l rfl ?_
        refine xit_l rfl ?_
        refine xit_l rfl ?_
        refine xit_l rfl ?_
        refine xit_l rfl ?_
        exact hz
      · refine xit_l rfl ?_
        refine xit_l (xe_brF (st' := []) (by simp only [xc_lt, decide_eq_false hp])) ?_
        refine xit_l rfl ?_
        refine xit_l rfl ?_
        refine xit_l rfl ?_
        refine xit_l rfl ?_
        refine xit_l rfl ?_
        refine xit_l rfl ?_
        refine xit_l rfl ?_
        exact hz
    by_cases c1 : xbt a (xsh (j + 1)) = 10
    · obtain ⟨k, h', hk, hr, hq⟩ := e20 (by simp [xgb, c1])
      refine ⟨k + 3 + 9, h', by omega, start _ _ ?_, hq⟩
      refine xit_l rfl ?_
      refine xit_l rfl ?_
      refine xit_l (xe_brT (st' := []) (by simp only [xc_ieq, decide_eq_true c1])) ?_
      exact hr
    · by_cases c2 : xbt a (xsh (j + 1)) < 32
      · obtain ⟨k, h', hk, hr, hq⟩ := e36' (by simp [xgb, c1, c2])
        refine ⟨k + 6 + 9, h', by omega, start _ _ ?_, hq⟩
        refine xit_l rfl ?_
        refine xit_l rfl ?_
        refine xit_l (xe_brF (st' := []) (by simp only [xc_ieq, decide_eq_false c1])) ?_
        refine xit_l rfl ?_
        refine xit_l rfl ?_
        refine xit_l (xe_brT (st' := []) (by simp only [xc_ilt, decide_eq_true c2])) ?_
        exact hr
      · by_cases c3 : 126 < xbt a (xsh (j + 1))
        · obtain ⟨k, h', hk, hr, hq⟩ := e36' (by simp [xgb, c1, c3])
          refine ⟨k + 9 + 9, h', by omega, start _ _ ?_, hq⟩
          refine xit_l rfl ?_
          refine xit_l rfl ?_
          refine xit_l (xe_brF (st' := []) (by simp only [xc_ieq, decide_eq_false c1])) ?_
          refine xit_l rfl ?_
          refine xit_l rfl ?_
          refine xit_l (xe_brF (st' := []) (by simp only [xc_ilt, decide_eq_false c2])) ?_
          refine xit_l rfl ?_
          refine xit_l rfl ?_
          refine xit_l (xe_brT (st' := []) (by simp only [xc_igt, decide_eq_true c3])) ?_
          exact hr
        · obtain ⟨k, h', hk, hr, hq⟩ := e20 (by simp [xgb, c1, c2, c3])
          refine ⟨k + 9 + 9, h', by omega, start _ _ ?_, hq⟩
          refine xit_l rfl ?_
          refine xit_l rfl ?_
          refine xit_l (xe_brF (st' := []) (by simp only [xc_ieq, decide_eq_false c1])) ?_
          refine xit_l rfl ?_
          refine xit_l rfl ?_
          refine xit_l (xe_brF (st' := []) (by simp only [xc_ilt, decide_eq_false c2])) ?_
          refine xit_l rfl ?_
          refine xit_l rfl ?_
          refine xit_l (xe_brF (st' := []) (by simp only [xc_igt, decide_eq_false c3])) ?_
          exact hr
theorem xv_lay (d : Nat) (a : Int64) {n : Nat} {h : xH} (hF : xFM h n) (hn : n + 8 < 4000) : ∃ h', xex xsg xpr (d + 1) 56 [.ref 213, .long a] h = some (none, h', 0, 0) ∧ xFM h' (n + xct a 8) := by
  obtain ⟨k, h', hk, hr, hq⟩ := xv_it d a 8 (Nat.le_refl 8) n h _ hF hn (Or.inl rfl)
  refine ⟨h', xex_of (k := k + 2) rfl rfl rfl (by omega) ?_, hq⟩
  rw [xsh_8] at hr
  refine xit_l rfl ?_
  refine xit_l rfl ?_
  exact hr
theorem xt_feed (d : Nat) (a b c : Int64) {h : xH} {n0 : Nat} (hF : xFB h n0) : ∃ h', xex xsg xpr (d + 2) 55 [.ref 213, .long a, .long b, .long c] h = some (some (.int (nI (xct a 8 + xct b 8 + xct c 8))), h', 0, 0) := by
  have ha := xct_le a 8
  have hb := xct_le b 8
  obtain ⟨l0, -, -, -, h1, g, h2⟩ := hF
  have hF0 : xFM (h.set 213 (.inr (12, xf_213.set 0 (.int 0)))) 0 := by
    refine ⟨by rw [List.length_set]; exact l0, ?_, g, ?_⟩
    · rw [List.getElem?_set_self (by omega)]
      rfl
    · rw [List.getElem?_set_ne (by decide)]
      exact h2
  obtain ⟨h1', r1, F1⟩ := xv_lay d a hF0 (by omega)
  obtain ⟨h2', r2, F2⟩ := xv_lay d b F1 (by omega)
  obtain ⟨h3', r3, F3⟩ := xv_lay d c F2 (by omega)
  rw [Nat.zero_add] at F3
  refine ⟨h3', xex_of (k := 15) rfl rfl rfl (by decide) ?_⟩
  refine xit_l rfl ?_
  refine xit_l rfl ?_
  refine xit_l (xe_put h1 (by rw [xf213_len]; decide) rfl) ?_
  refine xit_l rfl ?_
  refine xit_l rfl ?_
  refine xit_l (xe_call (vs := [.ref 213, .long a]) (rest := []) rfl rfl rfl (by simp [xrc, hF0.2.1]) r1) ?_
  refine xit_l rfl ?_
  refine xit_l rfl ?_
  refine xit_l (xe_call (vs := [.ref 213, .long b]) (rest := []) rfl rfl rfl (by simp [xrc, F1.2.1]) r2) ?_
  refine xit_l rfl ?_
  refine xit_l rfl ?_
  refine xit_l (xe_call (vs := [.ref 213, .long c]) (rest := []) rfl rfl rfl (by simp [xrc, F2.2.1]) r3) ?_
  refine xit_l rfl ?_
  refine xit_l (xe_get F3.2.1 rfl) ?_
  exact xit_r rfl
