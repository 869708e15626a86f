/-! ===== the short calls with a number that isn't known ===== -/
theorem xe_brT {cnd : List Value → Option (Bool × List Value)} {t cs sl : Nat} {calls : xC} {loc : List (Nat × Value)} {st st' : List Value} {h : xH} (hc : cnd st = some (true, st')) : xBr cnd t calls (loc, st, h, cs, sl) = some (.inl (some t, (loc, st', h, cs, sl))) := by
  simp only [xBr, hc]
theorem xe_brF {cnd : List Value → Option (Bool × List Value)} {t cs sl : Nat} {calls : xC} {loc : List (Nat × Value)} {st st' : List Value} {h : xH} (hc : cnd st = some (false, st')) : xBr cnd t calls (loc, st, h, cs, sl) = some (.inl (none, (loc, st', h, cs, sl))) := by
  simp only [xBr, hc]
theorem xe_sw {lo hi : Int} {ts : List Nat} {dt cs sl : Nat} {calls : xC} {loc : List (Nat × Value)} {st : List Value} {h : xH} {x : Int32} (hx : x.toInt < lo ∨ hi < x.toInt) : xSw lo hi ts dt calls (loc, .int x :: st, h, cs, sl) = some (.inl (some dt, (loc, st, h, cs, sl))) := by
  simp only [xSw, if_pos hx]
theorem xs_print (d : Nat) (n : Int32) (h0 : ¬ n = 0) (h1 : ¬ n = 1) : xex xsg xpr (d + 1) 10 [.ref 0, .int n] xh2 = some (some (.int (-1)), xh2, 0, 0) := by
  refine xex_of (k := 7) rfl rfl rfl (by decide) ?_
  refine xit_l rfl ?_
  refine xit_l (xe_brT (st' := []) (by simp [xc_ne, h0])) ?_
  refine xit_l rfl ?_
  refine xit_l rfl ?_
  refine xit_l (xe_brT (st' := []) (by simp [xc_ine, h1])) ?_
  refine xit_l rfl ?_
  exact xit_r rfl
theorem xs_out (d : Nat) (n : Int32) : xex xsg xpr (d + 1) 11 [.ref 0, .int n] xh2 = some (some (.int (-1)), xh2, 0, 0) := by
  have h0 := xobj_at xe_8
  have h1 := xobj_at xe_12
  have h2 := xobj_at xe_13
  by_cases hn : n < 0
  · refine xex_of (k := 4) rfl rfl rfl (by decide) ?_
    refine xit_l rfl ?_
    refine xit_l (xe_brT (st' := []) (by simp [xc_lt, hn])) ?_
    refine xit_l rfl ?_
    exact xit_r rfl
  · refine xex_of (k := 10) rfl rfl rfl (by decide) ?_
    refine xit_l rfl ?_
    refine xit_l (xe_brF (st' := []) (by simp [xc_lt, hn])) ?_
    refine xit_l rfl ?_
    refine xit_l rfl ?_
    refine xit_l (xe_get h0 rfl) ?_
    refine xit_l (xe_get h1 rfl) ?_
    refine xit_l (xe_get h2 rfl) ?_
    refine xit_l (xe_brT (st' := []) (by simp [xc_ige, Int32.not_lt.mp hn])) ?_
    refine xit_l rfl ?_
    exact xit_r rfl
theorem xs_count (d : Nat) (n : Int32) (hn : n.toInt < 0 ∨ 5 < n.toInt) : xex xsg xpr (d + 1) 12 [.ref 0, .int n] xh2 = some (some (.int (-1)), xh2, 0, 0) := by
  refine xex_of (k := 4) rfl rfl rfl (by decide) ?_
  refine xit_l rfl ?_
  refine xit_l (xe_sw hn) ?_
  refine xit_l rfl ?_
  exact xit_r rfl
/-- the reference; its first field is set first -/
theorem xf213_len : xf_213.length = 125 := by decide +kernel
noncomputable def xh3 : xH := xh2.set 213 (.inr (12, xf_213.set 0 (.int 0)))
theorem xh3_at : xh3[213]? = some (.inr (12, xf_213.set 0 (.int 0))) := by
  unfold xh3
  rw [List.getElem?_set_self (by have := xe_6; omega)]
theorem xt_run (d : Nat) (n : Int32) : xex xsg xpr (d + 1) 75 [.ref 213, .int n] xh2 = some (some (.int (-1)), xh3, 0, 0) := by
  have h0 := xobj_at xe_14
  refine xex_of (k := 8) rfl rfl rfl (by decide) ?_
  refine xit_l rfl ?_
  refine xit_l rfl ?_
  refine xit_l (xe_put h0 (by rw [xf213_len]; decide) rfl) ?_
  refine xit_l rfl ?_
  refine xit_l (xe_get xh3_at rfl) ?_
  refine xit_l rfl ?_
  refine xit_l rfl ?_
  exact xit_r rfl
theorem xt_made (d : Nat) (n : Int32) : xex xsg xpr (d + 1) 79 [.ref 213, .int n] xh2 = some (some (.int (-1)), xh3, 0, 0) := by
  have h0 := xobj_at xe_14
  refine xex_of (k := 9) rfl rfl rfl (by decide) ?_
  refine xit_l rfl ?_
  refine xit_l rfl ?_
  refine xit_l (xe_put h0 (by rw [xf213_len]; decide) rfl) ?_
  refine xit_l rfl ?_
  refine xit_l (xe_get xh3_at rfl) ?_
  refine xit_l rfl ?_
  refine xit_l rfl ?_
  refine xit_l rfl ?_
  exact xit_r rfl
theorem xt_print (d : Nat) (n : Int32) : xex xsg xpr (d + 1) 81 [.ref 213, .int n] xh2 = some (some (.int (-1)), xh3, 0, 0) := by
  have h0 := xobj_at xe_14
  refine xex_of (k := 8) rfl rfl rfl (by decide) ?_
  refine xit_l rfl ?_
  refine xit_l rfl ?_
  refine xit_l (xe_put h0 (by rw [xf213_len]; decide) rfl) ?_
  refine xit_l rfl ?_
  refine xit_l (xe_get xh3_at rfl) ?_
  refine xit_l rfl ?_
  refine xit_l rfl ?_
  exact xit_r rfl
theorem xt_out (d : Nat) (n : Int32) : xex xsg xpr (d + 1) 82 [.ref 213, .int n] xh2 = some (some (.int (-1)), xh3, 0, 0) := by
  have h0 := xobj_at xe_14
  by_cases hn : n < 0
  · refine xex_of (k := 8) rfl rfl rfl (by decide) ?_
    refine xit_l rfl ?_
    refine xit_l rfl ?_
    refine xit_l (xe_put h0 (by rw [xf213_len]; decide) rfl) ?_
    refine xit_l rfl ?_
    refine xit_l (xe_brT (st' := []) (by simp [xc_lt, hn])) ?_
    refine xit_l rfl ?_
    refine xit_l rfl ?_
    exact xit_r rfl
  · refine xex_of (k := 12) rfl rfl rfl (by decide) ?_
    refine xit_l rfl ?_
    refine xit_l rfl ?_
    refine xit_l (xe_put h0 (by rw [xf213_len]; decide) rfl) ?_
    refine xit_l rfl ?_
    refine xit_l (xe_brF (st' := []) (by simp [xc_lt, hn])) ?_
    refine xit_l rfl ?_
    refine xit_l rfl ?_
    refine xit_l (xe_get xh3_at rfl) ?_
    refine xit_l (xe_brF (st' := []) (by simp [xc_ilt, hn])) ?_
    refine xit_l rfl ?_
    refine xit_l rfl ?_
    exact xit_r rfl
theorem xt_count (d : Nat) (n : Int32) (hn : n.toInt < 0 ∨ 5 < n.toInt) : xex xsg xpr (d + 1) 83 [.ref 213, .int n] xh2 = some (some (.int (-1)), xh3, 0, 0) := by
  have h0 := xobj_at xe_14
  refine xex_of (k := 7) rfl rfl rfl (by decide) ?_
  refine xit_l rfl ?_
  refine xit_l rfl ?_
  refine xit_l (xe_put h0 (by rw [xf213_len]; decide) rfl) ?_
  refine xit_l rfl ?_
  refine xit_l (xe_sw hn) ?_
  refine xit_l rfl ?_
  exact xit_r rfl
