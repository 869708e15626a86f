/-! ===== the law's walk ===== -/
/-- a call of the class and the same call of the reference answer alike, and make nothing -/
def xPx (i : Nat) (vs : List Value) (i' : Nat) (vs' : List Value) : Prop := ∃ (v : Int32) (h1 h2 : xH) (fs : List Value), xex xsg xpr 10 i vs xh2 = some (some (.int v), h1, 0, 0) ∧ h1[213]? = some (.inr (12, fs)) ∧ xex xsg xpr 10 i' vs' h1 = some (some (.int v), h2, 0, 0)
theorem xPx_of {i i' : Nat} {vs vs' : List Value} {v : Int32} (h : xan i vs i' vs' = some ((some (.int v), 0, 0), (some (.int v), 0, 0), some 12)) : xPx i vs i' vs' := by
  unfold xan at h
  split at h
  · rename_i r1 e1
    split at h
    · rename_i r2 e2
      obtain ⟨v1, h1, c1, s1⟩ := r1
      obtain ⟨v2, h2, c2, s2⟩ := r2
      simp only [Option.some.injEq, Prod.mk.injEq] at h
      obtain ⟨⟨rfl, rfl, rfl⟩, ⟨rfl, rfl, rfl⟩, ho⟩ := h
      obtain ⟨q, hq, hq1⟩ := Option.map_eq_some_iff.mp ho
      obtain ⟨ci, fs⟩ := q
      have hq1 : ci = 12 := hq1
      subst hq1
      exact ⟨v, h1, h2, fs, e1, xobj_at hq, e2⟩
    · cases h
  · cases h
theorem xP_program : xPx 2 [.ref 0] 71 [.ref 213] := xPx_of xe_17
theorem xP_implementing : xPx 3 [.ref 0] 74 [.ref 213] := xPx_of xe_18
theorem xP_failed : xPx 5 [.ref 0] 76 [.ref 213] := xPx_of xe_19
theorem xP_calls : xPx 6 [.ref 0] 77 [.ref 213] := xPx_of xe_20
theorem xP_instances : xPx 7 [.ref 0] 78 [.ref 213] := xPx_of xe_21
theorem xP_isMade : xPx 9 [.ref 0] 80 [.ref 213] := xPx_of xe_22
theorem xP_run (n : Int32) : xPx 4 [.ref 0, .int n] 75 [.ref 213, .int n] := ⟨-1, xh2, xh3, xf_213, xs_run 9 n, xobj_at xe_14, xt_run 9 n⟩
theorem xP_made (n : Int32) : xPx 8 [.ref 0, .int n] 79 [.ref 213, .int n] := ⟨-1, xh2, xh3, xf_213, xs_made 9 n, xobj_at xe_14, xt_made 9 n⟩
theorem xP_out (n : Int32) : xPx 11 [.ref 0, .int n] 82 [.ref 213, .int n] := ⟨-1, xh2, xh3, xf_213, xs_out 9 n, xobj_at xe_14, xt_out 9 n⟩
theorem xP_print (n : Int32) : xPx 10 [.ref 0, .int n] 81 [.ref 213, .int n] := by
  by_cases h0 : n = 0
  · subst h0; exact xPx_of xe_29
  · by_cases h1 : n = 1
    · subst h1; exact xPx_of xe_30
    · exact ⟨-1, xh2, xh3, xf_213, xs_print 9 n h0 h1, xobj_at xe_14, xt_print 9 n⟩
theorem xP_count (n : Int32) : xPx 12 [.ref 0, .int n] 83 [.ref 213, .int n] := by
  by_cases hn : n.toInt < 0 ∨ 5 < n.toInt
  · exact ⟨-1, xh2, xh3, xf_213, xs_count 9 n hn, xobj_at xe_14, xt_count 9 n hn⟩
  · obtain ⟨j, hj, rfl⟩ : ∃ j : Nat, j < 6 ∧ n = nI j := by
      refine ⟨n.toInt.toNat, by omega, ?_⟩
      apply Int32.toInt_inj.mp
      rw [nI_toInt (by omega)]
      omega
    match j, hj with
    | 0, _ => exact xPx_of xe_23
    | 1, _ => exact xPx_of xe_24
    | 2, _ => exact xPx_of xe_25
    | 3, _ => exact xPx_of xe_26
    | 4, _ => exact xPx_of xe_27
    | 5, _ => exact xPx_of xe_28
theorem xP_feed (a b c : Int64) : xPx 1 [.ref 0, .long a, .long b, .long c] 55 [.ref 213, .long a, .long b, .long c] := by
  obtain ⟨h1, r1, F1⟩ := xs_feed 6 a b c
  obtain ⟨h2, r2⟩ := xt_feed 8 a b c F1
  exact ⟨_, h1, h2, xf_213, r1, F1.2.2.2.2.1, r2⟩
section LY
variable {p : Program} {l : Launch} {e : Env} {s : State} {m : MethodId} {below : List Frame} {meth : Method} {c : Code} {H : Heap} {locs : List Loc} {cells slots : Nat} {b L aS : Nat} {xs : Nat → Int32} {D : va_G} {cT : Nat → ClassId} {ls : Array Slot}
/-- the loop's end -/
theorem lx_end (C0 : lw_At p s m meth c b L xs) {x3 : Int32} (hx3 : Int32.ofNat L - 7 < x3) (hS : va_S (xA s.heap.size) s.heap H locs) (hcs : cells ≤ 600000) (hss : slots ≤ 7302250) (hl : lv_has ls 4 [(0, .ref b), (3, .int x3)]) : W p l e room_1 s m #[Value.ref b] below meth c H locs cells slots (lw_Z below #[Value.ref b] s) (F0 m 18 ls []) := by
  obtain ⟨hx, hb, hr, hml, hown, hts, hX, hbl, hlocks, hgv⟩ := C0
  have hbA : ¬ xA s.heap.size b := Nat.not_le.mpr hbl
  refine lv_iload_n hx hb (show decode code 18 = .ok (.iload_n 3, 1) by decide +kernel) rfl (lv_at hl 1 rfl) ?_
  refine lv_aload_n hx hb (show decode code 19 = .ok (.aload_n 0, 1) by decide +kernel) rfl (lv_at hl 0 rfl) ?_
  refine va_slen hx hb hX hbl hbA hS (show decode code 20 = .ok (.arraylength, 1) by decide +kernel) ?_
  refine lv_bipush (v := 7) hx hb (show decode code 21 = .ok (.bipush 7, 2) by decide +kernel) (by decide) ?_
  refine lv_isub hx hb (show decode code 23 = .ok (.isub, 1) by decide +kernel) ?_
  refine lv_icmp_gt (tgt := 430) hx hb (show decode code 24 = .ok (.if_icmp .gt 406, 3) by decide +kernel) (by decide) (fun _ => ?_) (fun h => absurd hx3 h)
  refine lv_iconst (v := 1) hx hb (show decode code 430 = .ok (.iconst 1, 1) by decide +kernel) (by decide) ?_
  refine va_forget (fun q hq => hS.2.2 q hq) ?_
  refine W.widen hcs hss ?_
  exact lw_ret hx hb hr hlocks (show decode code 431 = .ok (.ireturn, 1) by decide +kernel)
/-- behind a call of both -/
theorem lx_fin (C0 : lw_At p s m meth c b 7 xs) (hS : va_S (xA s.heap.size) s.heap H locs) (hcs : cells ≤ 600000) (hss : slots ≤ 7302250) (hl : lv_has ls 4 [(0, .ref b), (3, .int 0)]) : W p l e room_1 s m #[Value.ref b] below meth c H locs cells slots (lw_Z below #[Value.ref b] s) (F0 m 424 ls []) := by
  obtain ⟨hx, hb, hr, hml, hown, hts, hX, hbl, hlocks, hgv⟩ := id C0
  refine lv_iinc (v := 7) (lv' := [(3, .int 7), (0, .ref b)]) hx hb (show decode code 424 = .ok (.iinc 3 7, 3) by decide +kernel) hl (k := 1) rfl (by decide) (by decide) rfl (fun ls hl => ?_)
  refine lv_goto (tgt := 18) hx hb (show decode code 427 = .ok (.goto (-409), 3) by decide +kernel) (by decide) ?_
  exact lx_end C0 (by decide) hS hcs hss (lv_sub hl [1, 0] rfl)
theorem lx_feed (C0 : lw_At p s m meth c b 7 xs) (hG : xG s.heap.size aS D cT s) (hcl : xCallsOK xsg l s.heap.size aS D cT 10 (xex xsg xpr 10)) (hI : xI s.heap.size aS D cT s H locs xh2) (hcs : cells ≤ 600000) (hss : slots ≤ 7302250) (hl : lv_has ls 4 [(0, .ref b), (1, .ref (s.heap.size + 0)), (2, .ref (s.heap.size + 213)), (3, .int 0)]) : W p l e room_1 s m #[Value.ref b] below meth c H locs cells slots (lw_Z below #[Value.ref b] s) (F0 m 96 ls []) := by
  obtain ⟨hx, hb, hr, hml, hown, hts0, hX, hbl, hlocks, hgv⟩ := id C0
  have hts : ∀ w ∈ xT, w.before #[Value.ref b] s = true := fun w hw => hts0 w (List.mem_filter.mp hw).1
  have hbA : ¬ xA s.heap.size b := Nat.not_le.mpr hbl
  obtain ⟨la, ela⟩ : ∃ y : Int64, y = ((xs 1).toInt64 <<< ((32 : Int32).toInt64 &&& 63)) ||| ((xs 2).toInt64 &&& 4294967295) := ⟨_, rfl⟩
  obtain ⟨lb, elb⟩ : ∃ y : Int64, y = ((xs 3).toInt64 <<< ((32 : Int32).toInt64 &&& 63)) ||| ((xs 4).toInt64 &&& 4294967295) := ⟨_, rfl⟩
  obtain ⟨lc, elc⟩ : ∃ y : Int64, y = ((xs 5).toInt64 <<< ((32 : Int32).toInt64 &&& 63)) ||| ((xs 6).toInt64 &&& 4294967295) := ⟨_, rfl⟩
  obtain ⟨v, h1, h2, fs, r1, hq, r2⟩ := xP_feed la lb lc
  refine lv_aload_n hx hb (show decode code 96 = .ok (.aload_n 1, 1) by decide +kernel) rfl (lv_at hl 1 rfl) ?_
  refine lv_aload_n hx hb (show decode code 97 = .ok (.aload_n 0, 1) by decide +kernel) rfl (lv_at hl 0 rfl) ?_
  refine lv_iload_n hx hb (show decode code 98 = .ok (.iload_n 3, 1) by decide +kernel) rfl (lv_at hl 3 rfl) ?_
  refine lv_iconst (v := 1) hx hb (show decode code 99 = .ok (.iconst 1, 1) by decide +kernel) (by decide) ?_
  refine lv_iadd hx hb (show decode code 100 = .ok (.iadd, 1) by decide +kernel) ?_
  refine va_sld hx hb hX hbl hbA hI.2.2.2 (by unfold vp_in; decide) (show decode code 101 = .ok (.iaload, 1) by decide +kernel) ?_
  refine lv_i2l hx hb (show decode code 102 = .ok (.i2l, 1) by decide +kernel) rfl ?_
  refine lv_bipush (v := 32) hx hb (show decode code 103 = .ok (.bipush 32, 2) by decide +kernel) (by decide) ?_
  refine lv_lshl hx hb (show decode code 105 = .ok (.lshl, 1) by decide +kernel) rfl ?_
  refine lv_aload_n hx hb (show decode code 106 = .ok (.aload_n 0, 1) by decide +kernel) rfl (lv_at hl 0 rfl) ?_
  refine lv_iload_n hx hb (show decode code 107 = .ok (.iload_n 3, 1) by decide +kernel) rfl (lv_at hl 3 rfl) ?_
  refine lv_iconst (v := 2) hx hb (show decode code 108 = .ok (.iconst 2, 1) by decide +kernel) (by decide) ?_
  refine lv_iadd hx hb (show decode code 109 = .ok (.iadd, 1) by decide +kernel) ?_
  refine va_sld hx hb hX hbl hbA hI.2.2.2 (by unfold vp_in; decide) (show decode code 110 = .ok (.iaload, 1) by decide +kernel) ?_
  refine lv_i2l hx hb (show decode code 111 = .ok (.i2l, 1) by decide +kernel) rfl ?_
  refine lv_ldc2 (v := 4294967295) hx hb hown (hts (.constantLong R_law 13 4294967295) (xT_c9 184 rfl rfl)) (show decode code 112 = .ok (.ldc2_w 13, 3) by decide +kernel) ?_
  refine lv_land hx hb (show decode code 115 = .ok (.land, 1) by decide +kernel) ?_
  refine lv_lor hx hb (show decode code 116 = .ok (.lor, 1) by decide +kernel) ?_
  refine W.eq (g2 := F0 m 117 ls (.long la :: [.ref (s.heap.size + 0)])) (by rw [ela]; rfl) ?_
  refine lv_aload_n hx hb (show decode code 117 = .ok (.aload_n 0, 1) by decide +kernel) rfl (lv_at hl 0 rfl) ?_
  refine lv_iload_n hx hb (show decode code 118 = .ok (.iload_n 3, 1) by decide +kernel) rfl (lv_at hl 3 rfl) ?_
  refine lv_iconst (v := 3) hx hb (show decode code 119 = .ok (.iconst 3, 1) by decide +kernel) (by decide) ?_
  refine lv_iadd hx hb (show decode code 120 = .ok (.iadd, 1) by decide +kernel) ?_
  refine va_sld hx hb hX hbl hbA hI.2.2.2 (by unfold vp_in; decide) (show decode code 121 = .ok (.iaload, 1) by decide +kernel) ?_
  refine lv_i2l hx hb (show decode code 122 = .ok (.i2l, 1) by decide +kernel) rfl ?_
  refine lv_bipush (v := 32) hx hb (show decode code 123 = .ok (.bipush 32, 2) by decide +kernel) (by decide) ?_
  refine lv_lshl hx hb (show decode code 125 = .ok (.lshl, 1) by decide +kernel) rfl ?_
  refine lv_aload_n hx hb (show decode code 126 = .ok (.aload_n 0, 1) by decide +kernel) rfl (lv_at hl 0 rfl) ?_
  refine lv_iload_n hx hb (show decode code 127 = .ok (.iload_n 3, 1) by decide +kernel) rfl (lv_at hl 3 rfl) ?_
  refine lv_iconst (v := 4) hx hb (show decode code 128 = .ok (.iconst 4, 1) by decide +kernel) (by decide) ?_
  refine lv_iadd hx hb (show decode code 129 = .ok (.iadd, 1) by decide +kernel) ?_
  refine va_sld hx hb hX hbl hbA hI.2.2.2 (by unfold vp_in; decide) (show decode code 130 = .ok (.iaload, 1) by decide +kernel) ?_
  refine lv_i2l hx hb (show decode code 131 = .ok (.i2l, 1) by decide +kernel) rfl ?_
  refine lv_ldc2 (v := 4294967295) hx hb hown (hts (.constantLong R_law 13 4294967295) (xT_c9 184 rfl rfl)) (show decode code 132 = .ok (.ldc2_w 13, 3) by decide +kernel) ?_
  refine lv_land hx hb (show decode code 135 = .ok (.land, 1) by decide +kernel) ?_
  refine lv_lor hx hb (show decode code 136 = .ok (.lor, 1) by decide +kernel) ?_
  refine W.eq (g2 := F0 m 137 ls (.long lb :: .long la :: [.ref (s.heap.size + 0)])) (by rw [elb]; rfl) ?_
  refine lv_aload_n hx hb (show decode code 137 = .ok (.aload_n 0, 1) by decide +kernel) rfl (lv_at hl 0 rfl) ?_
  refine lv_iload_n hx hb (show decode code 138 = .ok (.iload_n 3, 1) by decide +kernel) rfl (lv_at hl 3 rfl) ?_
  refine lv_iconst (v := 5) hx hb (show decode code 139 = .ok (.iconst 5, 1) by decide +kernel) (by decide) ?_
  refine lv_iadd hx hb (show decode code 140 = .ok (.iadd, 1) by decide +kernel) ?_
  refine va_sld hx hb hX hbl hbA hI.2.2.2 (by unfold vp_in; decide) (show decode code 141 = .ok (.iaload, 1) by decide +kernel) ?_
  refine lv_i2l hx hb (show decode code 142 = .ok (.i2l, 1) by decide +kernel) rfl ?_
  refine lv_bipush (v := 32) hx hb (show decode code 143 = .ok (.bipush 32, 2) by decide +kernel) (by decide) ?_
  refine lv_lshl hx hb (show decode code 145 = .ok (.lshl, 1) by decide +kernel) rfl ?_
  refine lv_aload_n hx hb (show decode code 146 = .ok (.aload_n 0, 1) by decide +kernel) rfl (lv_at hl 0 rfl) ?_
  refine lv_iload_n hx hb (show decode code 147 = .ok (.iload_n 3, 1) by decide +kernel) rfl (lv_at hl 3 rfl) ?_
  refine lv_bipush (v := 6) hx hb (show decode code 148 = .ok (.bipush 6, 2) by decide +kernel) (by decide) ?_
  refine lv_iadd hx hb (show decode code 150 = .ok (.iadd, 1) by decide +kernel) ?_
  refine va_sld hx hb hX hbl hbA hI.2.2.2 (by unfold vp_in; decide) (show decode code 151 = .ok (.iaload, 1) by decide +kernel) ?_
  refine lv_i2l hx hb (show decode code 152 = .ok (.i2l, 1) by decide +kernel) rfl ?_
  refine lv_ldc2 (v := 4294967295) hx hb hown (hts (.constantLong R_law 13 4294967295) (xT_c9 184 rfl rfl)) (show decode code 153 = .ok (.ldc2_w 13, 3) by decide +kernel) ?_
  refine lv_land hx hb (show decode code 156 = .ok (.land, 1) by decide +kernel) ?_
  refine lv_lor hx hb (show decode code 157 = .ok (.lor, 1) by decide +kernel) ?_
  refine W.eq (g2 := F0 m 158 ls (.long lc :: .long lb :: .long la :: [.ref (s.heap.size + 0)])) (by rw [elc]; rfl) ?_
  refine lx_callV (As := [.long la, .long lb, .long lc]) (rest := []) (M' := xm_1) hx hb hml hown hts hG hcl rfl (rfl : vwCl[11]? = some (RX11, TX11, 13)) (show decode code 158 = .ok (.invokevirtual 15, 3) by decide +kernel) xn_1 (xT_c3 59 rfl rfl) (xT_c3 60 rfl rfl) (xT_c3 58 rfl rfl) hI (xobj_at xe_8) r1 rfl hl.1 (by simp [Value.category]) ⟨hcs, hss⟩ (fun H1 locs1 hI1 => ?_)
  refine W.eq (g2 := F0 m 161 ls [.int v]) rfl ?_
  refine lv_aload_n hx hb (show decode code 161 = .ok (.aload_n 2, 1) by decide +kernel) rfl (lv_at hl 2 rfl) ?_
  refine lv_aload_n hx hb (show decode code 162 = .ok (.aload_n 0, 1) by decide +kernel) rfl (lv_at hl 0 rfl) ?_
  refine lv_iload_n hx hb (show decode code 163 = .ok (.iload_n 3, 1) by decide +kernel) rfl (lv_at hl 3 rfl) ?_
  refine lv_iconst (v := 1) hx hb (show decode code 164 = .ok (.iconst 1, 1) by decide +kernel) (by decide) ?_
  refine lv_iadd hx hb (show decode code 165 = .ok (.iadd, 1) by decide +kernel) ?_
  refine va_sld hx hb hX hbl hbA hI1.2.2.2 (by unfold vp_in; decide) (show decode code 166 = .ok (.iaload, 1) by decide +kernel) ?_
  refine lv_i2l hx hb (show decode code 167 = .ok (.i2l, 1) by decide +kernel) rfl ?_
  refine lv_bipush (v := 32) hx hb (show decode code 168 = .ok (.bipush 32, 2) by decide +kernel) (by decide) ?_
  refine lv_lshl hx hb (show decode code 170 = .ok (.lshl, 1) by decide +kernel) rfl ?_
  refine lv_aload_n hx hb (show decode code 171 = .ok (.aload_n 0, 1) by decide +kernel) rfl (lv_at hl 0 rfl) ?_
  refine lv_iload_n hx hb (show decode code 172 = .ok (.iload_n 3, 1) by decide +kernel) rfl (lv_at hl 3 rfl) ?_
  refine lv_iconst (v := 2) hx hb (show decode code 173 = .ok (.iconst 2, 1) by decide +kernel) (by decide) ?_
  refine lv_iadd hx hb (show decode code 174 = .ok (.iadd, 1) by decide +kernel) ?_
  refine va_sld hx hb hX hbl hbA hI1.2.2.2 (by unfold vp_in; decide) (show decode code 175 = .ok (.iaload, 1) by decide +kernel) ?_
  refine lv_i2l hx hb (show decode code 176 = .ok (.i2l, 1) by decide +kernel) rfl ?_
  refine lv_ldc2 (v := 4294967295) hx hb hown (hts (.constantLong R_law 13 4294967295) (xT_c9 184 rfl rfl)) (show decode code 177 = .ok (.ldc2_w 13, 3) by decide +kernel) ?_
  refine lv_land hx hb (show decode code 180 = .ok (.land, 1) by decide +kernel) ?_
  refine lv_lor hx hb (show decode code 181 = .ok (.lor, 1) by decide +kernel) ?_
  refine W.eq (g2 := F0 m 182 ls (.long la :: [.ref (s.heap.size + 213), .int v])) (by rw [ela]; rfl) ?_
  refine lv_aload_n hx hb (show decode code 182 = .ok (.aload_n 0, 1) by decide +kernel) rfl (lv_at hl 0 rfl) ?_
  refine lv_iload_n hx hb (show decode code 183 = .ok (.iload_n 3, 1) by decide +kernel) rfl (lv_at hl 3 rfl) ?_
  refine lv_iconst (v := 3) hx hb (show decode code 184 = .ok (.iconst 3, 1) by decide +kernel) (by decide) ?_
  refine lv_iadd hx hb (show decode code 185 = .ok (.iadd, 1) by decide +kernel) ?_
  refine va_sld hx hb hX hbl hbA hI1.2.2.2 (by unfold vp_in; decide) (show decode code 186 = .ok (.iaload, 1) by decide +kernel) ?_
  refine lv_i2l hx hb (show decode code 187 = .ok (.i2l, 1) by decide +kernel) rfl ?_
  refine lv_bipush (v := 32) hx hb (show decode code 188 = .ok (.bipush 32, 2) by decide +kernel) (by decide) ?_
  refine lv_lshl hx hb (show decode code 190 = .ok (.lshl, 1) by decide +kernel) rfl ?_
  refine lv_aload_n hx hb (show decode code 191 = .ok (.aload_n 0, 1) by decide +kernel) rfl (lv_at hl 0 rfl) ?_
  refine lv_iload_n hx hb (show decode code 192 = .ok (.iload_n 3, 1) by decide +kernel) rfl (lv_at hl 3 rfl) ?_
  refine lv_iconst (v := 4) hx hb (show decode code 193 = .ok (.iconst 4, 1) by decide +kernel) (by decide) ?_
  refine lv_iadd hx hb (show decode code 194 = .ok (.iadd, 1) by decide +kernel) ?_
  refine va_sld hx hb hX hbl hbA hI1.2.2.2 (by unfold vp_in; decide) (show decode code 195 = .ok (.iaload, 1) by decide +kernel) ?_
  refine lv_i2l hx hb (show decode code 196 = .ok (.i2l, 1) by decide +kernel) rfl ?_
  refine lv_ldc2 (v := 4294967295) hx hb hown (hts (.constantLong R_law 13 4294967295) (xT_c9 184 rfl rfl)) (show decode code 197 = .ok (.ldc2_w 13, 3) by decide +kernel) ?_
  refine lv_land hx hb (show decode code 200 = .ok (.land, 1) by decide +kernel) ?_
  refine lv_lor hx hb (show decode code 201 = .ok (.lor, 1) by decide +kernel) ?_
  refine W.eq (g2 := F0 m 202 ls (.long lb :: .long la :: [.ref (s.heap.size + 213), .int v])) (by rw [elb]; rfl) ?_
  refine lv_aload_n hx hb (show decode code 202 = .ok (.aload_n 0, 1) by decide +kernel) rfl (lv_at hl 0 rfl) ?_
  refine lv_iload_n hx hb (show decode code 203 = .ok (.iload_n 3, 1) by decide +kernel) rfl (lv_at hl 3 rfl) ?_
  refine lv_iconst (v := 5) hx hb (show decode code 204 = .ok (.iconst 5, 1) by decide +kernel) (by decide) ?_
  refine lv_iadd hx hb (show decode code 205 = .ok (.iadd, 1) by decide +kernel) ?_
  refine va_sld hx hb hX hbl hbA hI1.2.2.2 (by unfold vp_in; decide) (show decode code 206 = .ok (.iaload, 1) by decide +kernel) ?_
  refine lv_i2l hx hb (show decode code 207 = .ok (.i2l, 1) by decide +kernel) rfl ?_
  refine lv_bipush (v := 32) hx hb (show decode code 208 = .ok (.bipush 32, 2) by decide +kernel) (by decide) ?_
  refine lv_lshl hx hb (show decode code 210 = .ok (.lshl, 1) by decide +kernel) rfl ?_
  refine lv_aload_n hx hb (show decode code 211 = .ok (.aload_n 0, 1) by decide +kernel) rfl (lv_at hl 0 rfl) ?_
  refine lv_iload_n hx hb (show decode code 212 = .ok (.iload_n 3, 1) by decide +kernel) rfl (lv_at hl 3 rfl) ?_
  refine lv_bipush (v := 6) hx hb (show decode code 213 = .ok (.bipush 6, 2) by decide +kernel) (by decide) ?_
  refine lv_iadd hx hb (show decode code 215 = .ok (.iadd, 1) by decide +kernel) ?_
  refine va_sld hx hb hX hbl hbA hI1.2.2.2 (by unfold vp_in; decide) (show decode code 216 = .ok (.iaload, 1) by decide +kernel) ?_
  refine lv_i2l hx hb (show decode code 217 = .ok (.i2l, 1) by decide +kernel) rfl ?_
  refine lv_ldc2 (v := 4294967295) hx hb hown (hts (.constantLong R_law 13 4294967295) (xT_c9 184 rfl rfl)) (show decode code 218 = .ok (.ldc2_w 13, 3) by decide +kernel) ?_
  refine lv_land hx hb (show decode code 221 = .ok (.land, 1) by decide +kernel) ?_
  refine lv_lor hx hb (show decode code 222 = .ok (.lor, 1) by decide +kernel) ?_
  refine W.eq (g2 := F0 m 223 ls (.long lc :: .long lb :: .long la :: [.ref (s.heap.size + 213), .int v])) (by rw [elc]; rfl) ?_
  refine lx_callV (As := [.long la, .long lb, .long lc]) (rest := [.int v]) (M' := xm_55) hx hb hml hown hts hG hcl rfl (rfl : vwCl[12]? = some (RX12, TX12, 125)) (show decode code 223 = .ok (.invokevirtual 19, 3) by decide +kernel) xn_55 (xT_c7 198 rfl rfl) (xT_c7 199 rfl rfl) (xT_c7 197 rfl rfl) hI1 hq r2 rfl hl.1 (by simp [Value.category]) ⟨hcs, hss⟩ (fun H2 locs2 hI2 => ?_)
  refine W.eq (g2 := F0 m 226 ls [.int v, .int v]) rfl ?_
  refine lv_icmp_eq (tgt := 424) hx hb (show decode code 226 = .ok (.if_icmp .eq 198, 3) by decide +kernel) (by decide) (fun _ => ?_) (fun hne => absurd rfl hne)
  exact lx_fin C0 hI2.2.2.2 hcs hss (lv_sub hl [0, 3] rfl)
theorem lx_program (C0 : lw_At p s m meth c b 7 xs) (hG : xG s.heap.size aS D cT s) (hcl : xCallsOK xsg l s.heap.size aS D cT 10 (xex xsg xpr 10)) (hI : xI s.heap.size aS D cT s H locs xh2) (hcs : cells ≤ 600000) (hss : slots ≤ 7302250) (hl : lv_has ls 4 [(0, .ref b), (1, .ref (s.heap.size + 0)), (2, .ref (s.heap.size + 213)), (3, .int 0)]) : W p l e room_1 s m #[Value.ref b] below meth c H locs cells slots (lw_Z below #[Value.ref b] s) (F0 m 231 ls []) := by
  obtain ⟨hx, hb, hr, hml, hown, hts0, hX, hbl, hlocks, hgv⟩ := id C0
  have hts : ∀ w ∈ xT, w.before #[Value.ref b] s = true := fun w hw => hts0 w (List.mem_filter.mp hw).1
  have hbA : ¬ xA s.heap.size b := Nat.not_le.mpr hbl
  obtain ⟨v, h1, h2, fs, r1, hq, r2⟩ := xP_program
  refine lv_aload_n hx hb (show decode code 231 = .ok (.aload_n 1, 1) by decide +kernel) rfl (lv_at hl 1 rfl) ?_
  refine lx_callV (As := []) (rest := []) (M' := xm_2) hx hb hml hown hts hG hcl rfl (rfl : vwCl[11]? = some (RX11, TX11, 13)) (show decode code 232 = .ok (.invokevirtual 20, 3) by decide +kernel) xn_2 (xT_c3 72 rfl rfl) (xT_c3 73 rfl rfl) (xT_c3 71 rfl rfl) hI (xobj_at xe_8) r1 rfl hl.1 (by simp [Value.category]) ⟨hcs, hss⟩ (fun H1 locs1 hI1 => ?_)
  refine W.eq (g2 := F0 m 235 ls [.int v]) rfl ?_
  refine lv_aload_n hx hb (show decode code 235 = .ok (.aload_n 2, 1) by decide +kernel) rfl (lv_at hl 2 rfl) ?_
  refine lx_callV (As := []) (rest := [.int v]) (M' := xm_71) hx hb hml hown hts hG hcl rfl (rfl : vwCl[12]? = some (RX12, TX12, 125)) (show decode code 236 = .ok (.invokevirtual 24, 3) by decide +kernel) xn_71 (xT_c7 206 rfl rfl) (xT_c7 207 rfl rfl) (xT_c7 205 rfl rfl) hI1 hq r2 rfl hl.1 (by simp [Value.category]) ⟨hcs, hss⟩ (fun H2 locs2 hI2 => ?_)
  refine W.eq (g2 := F0 m 239 ls [.int v, .int v]) rfl ?_
  refine lv_icmp_eq (tgt := 424) hx hb (show decode code 239 = .ok (.if_icmp .eq 185, 3) by decide +kernel) (by decide) (fun _ => ?_) (fun hne => absurd rfl hne)
  exact lx_fin C0 hI2.2.2.2 hcs hss (lv_sub hl [0, 3] rfl)
theorem lx_implementing (C0 : lw_At p s m meth c b 7 xs) (hG : xG s.heap.size aS D cT s) (hcl : xCallsOK xsg l s.heap.size aS D cT 10 (xex xsg xpr 10)) (hI : xI s.heap.size aS D cT s H locs xh2) (hcs : cells ≤ 600000) (hss : slots ≤ 7302250) (hl : lv_has ls 4 [(0, .ref b), (1, .ref (s.heap.size + 0)), (2, .ref (s.heap.size + 213)), (3, .int 0)]) : W p l e room_1 s m #[Value.ref b] below meth c H locs cells slots (lw_Z below #[Value.ref b] s) (F0 m 244 ls []) := by
  obtain ⟨hx, hb, hr, hml, hown, hts0, hX, hbl, hlocks, hgv⟩ := id C0
  have hts : ∀ w ∈ xT, w.before #[Value.ref b] s = true := fun w hw => hts0 w (List.mem_filter.mp hw).1
  have hbA : ¬ xA s.heap.size b := Nat.not_le.mpr hbl
  obtain ⟨v, h1, h2, fs, r1, hq, r2⟩ := xP_implementing
  refine lv_aload_n hx hb (show decode code 244 = .ok (.aload_n 1, 1) by decide +kernel) rfl (lv_at hl 1 rfl) ?_
  refine lx_callV (As := []) (rest := []) (M' := xm_3) hx hb hml hown hts hG hcl rfl (rfl : vwCl[11]? = some (RX11, TX11, 13)) (show decode code 245 = .ok (.invokevirtual 25, 3) by decide +kernel) xn_3 (xT_c5 61 rfl rfl) (xT_c5 62 rfl rfl) (xT_c5 60 rfl rfl) hI (xobj_at xe_8) r1 rfl hl.1 (by simp [Value.category]) ⟨hcs, hss⟩ (fun H1 locs1 hI1 => ?_)
  refine W.eq (g2 := F0 m 248 ls [.int v]) rfl ?_
  refine lv_aload_n hx hb (show decode code 248 = .ok (.aload_n 2, 1) by decide +kernel) rfl (lv_at hl 2 rfl) ?_
  refine lx_callV (As := []) (rest := [.int v]) (M' := xm_74) hx hb hml hown hts hG hcl rfl (rfl : vwCl[12]? = some (RX12, TX12, 125)) (show decode code 249 = .ok (.invokevirtual 28, 3) by decide +kernel) xn_74 (xT_c9 34 rfl rfl) (xT_c9 35 rfl rfl) (xT_c9 33 rfl rfl) hI1 hq r2 rfl hl.1 (by simp [Value.category]) ⟨hcs, hss⟩ (fun H2 locs2 hI2 => ?_)
  refine W.eq (g2 := F0 m 252 ls [.int v, .int v]) rfl ?_
  refine lv_icmp_eq (tgt := 424) hx hb (show decode code 252 = .ok (.if_icmp .eq 172, 3) by decide +kernel) (by decide) (fun _ => ?_) (fun hne => absurd rfl hne)
  exact lx_fin C0 hI2.2.2.2 hcs hss (lv_sub hl [0, 3] rfl)
theorem lx_run (C0 : lw_At p s m meth c b 7 xs) (hG : xG s.heap.size aS D cT s) (hcl : xCallsOK xsg l s.heap.size aS D cT 10 (xex xsg xpr 10)) (hI : xI s.heap.size aS D cT s H locs xh2) (hcs : cells ≤ 600000) (hss : slots ≤ 7302250) (hl : lv_has ls 4 [(0, .ref b), (1, .ref (s.heap.size + 0)), (2, .ref (s.heap.size + 213)), (3, .int 0)]) : W p l e room_1 s m #[Value.ref b] below meth c H locs cells slots (lw_Z below #[Value.ref b] s) (F0 m 257 ls []) := by
  obtain ⟨hx, hb, hr, hml, hown, hts0, hX, hbl, hlocks, hgv⟩ := id C0
  have hts : ∀ w ∈ xT, w.before #[Value.ref b] s = true := fun w hw => hts0 w (List.mem_filter.mp hw).1
  have hbA : ¬ xA s.heap.size b := Nat.not_le.mpr hbl
  obtain ⟨v, h1, h2, fs, r1, hq, r2⟩ := xP_run (xs 1)
  refine lv_aload_n hx hb (show decode code 257 = .ok (.aload_n 1, 1) by decide +kernel) rfl (lv_at hl 1 rfl) ?_
  refine lv_aload_n hx hb (show decode code 258 = .ok (.aload_n 0, 1) by decide +kernel) rfl (lv_at hl 0 rfl) ?_
  refine lv_iload_n hx hb (show decode code 259 = .ok (.iload_n 3, 1) by decide +kernel) rfl (lv_at hl 3 rfl) ?_
  refine lv_iconst (v := 1) hx hb (show decode code 260 = .ok (.iconst 1, 1) by decide +kernel) (by decide) ?_
  refine lv_iadd hx hb (show decode code 261 = .ok (.iadd, 1) by decide +kernel) ?_
  refine va_sld hx hb hX hbl hbA hI.2.2.2 (by unfold vp_in; decide) (show decode code 262 = .ok (.iaload, 1) by decide +kernel) ?_
  refine lx_callV (As := [.int (xs 1)]) (rest := []) (M' := xm_4) hx hb hml hown hts hG hcl rfl (rfl : vwCl[11]? = some (RX11, TX11, 13)) (show decode code 263 = .ok (.invokevirtual 29, 3) by decide +kernel) xn_4 (xT_c5 89 rfl rfl) (xT_c5 90 rfl rfl) (xT_c5 88 rfl rfl) hI (xobj_at xe_8) r1 rfl hl.1 (by simp [Value.category]) ⟨hcs, hss⟩ (fun H1 locs1 hI1 => ?_)
  refine W.eq (g2 := F0 m 266 ls [.int v]) rfl ?_
  refine lv_aload_n hx hb (show decode code 266 = .ok (.aload_n 2, 1) by decide +kernel) rfl (lv_at hl 2 rfl) ?_
  refine lv_aload_n hx hb (show decode code 267 = .ok (.aload_n 0, 1) by decide +kernel) rfl (lv_at hl 0 rfl) ?_
  refine lv_iload_n hx hb (show decode code 268 = .ok (.iload_n 3, 1) by decide +kernel) rfl (lv_at hl 3 rfl) ?_
  refine lv_iconst (v := 1) hx hb (show decode code 269 = .ok (.iconst 1, 1) by decide +kernel) (by decide) ?_
  refine lv_iadd hx hb (show decode code 270 = .ok (.iadd, 1) by decide +kernel) ?_
  refine va_sld hx hb hX hbl hbA hI1.2.2.2 (by unfold vp_in; decide) (show decode code 271 = .ok (.iaload, 1) by decide +kernel) ?_
  refine lx_callV (As := [.int (xs 1)]) (rest := [.int v]) (M' := xm_75) hx hb hml hown hts hG hcl rfl (rfl : vwCl[12]? = some (RX12, TX12, 125)) (show decode code 272 = .ok (.invokevirtual 33, 3) by decide +kernel) xn_75 (xT_c9 50 rfl rfl) (xT_c9 51 rfl rfl) (xT_c9 49 rfl rfl) hI1 hq r2 rfl hl.1 (by simp [Value.category]) ⟨hcs, hss⟩ (fun H2 locs2 hI2 => ?_)
  refine W.eq (g2 := F0 m 275 ls [.int v, .int v]) rfl ?_
  refine lv_icmp_eq (tgt := 424) hx hb (show decode code 275 = .ok (.if_icmp .eq 149, 3) by decide +kernel) (by decide) (fun _ => ?_) (fun hne => absurd rfl hne)
  exact lx_fin C0 hI2.2.2.2 hcs hss (lv_sub hl [0, 3] rfl)
theorem lx_failed (C0 : lw_At p s m meth c b 7 xs) (hG : xG s.heap.size aS D cT s) (hcl : xCallsOK xsg l s.heap.size aS D cT 10 (xex xsg xpr 10)) (hI : xI s.heap.size aS D cT s H locs xh2) (hcs : cells ≤ 600000) (hss : slots ≤ 7302250) (hl : lv_has ls 4 [(0, .ref b), (1, .ref (s.heap.size + 0)), (2, .ref (s.heap.size + 213)), (3, .int 0)]) : W p l e room_1 s m #[Value.ref b] below meth c H locs cells slots (lw_Z below #[Value.ref b] s) (F0 m 280 ls []) := by
  obtain ⟨hx, hb, hr, hml, hown, hts0, hX, hbl, hlocks, hgv⟩ := id C0
  have hts : ∀ w ∈ xT, w.before #[Value.ref b] s = true := fun w hw => hts0 w (List.mem_filter.mp hw).1
  have hbA : ¬ xA s.heap.size b := Nat.not_le.mpr hbl
  obtain ⟨v, h1, h2, fs, r1, hq, r2⟩ := xP_failed
  refine lv_aload_n hx hb (show decode code 280 = .ok (.aload_n 1, 1) by decide +kernel) rfl (lv_at hl 1 rfl) ?_
  refine lx_callV (As := []) (rest := []) (M' := xm_5) hx hb hml hown hts hG hcl rfl (rfl : vwCl[11]? = some (RX11, TX11, 13)) (show decode code 281 = .ok (.invokevirtual 34, 3) by decide +kernel) xn_5 (xT_c5 159 rfl rfl) (xT_c5 160 rfl rfl) (xT_c5 158 rfl rfl) hI (xobj_at xe_8) r1 rfl hl.1 (by simp [Value.category]) ⟨hcs, hss⟩ (fun H1 locs1 hI1 => ?_)
  refine W.eq (g2 := F0 m 284 ls [.int v]) rfl ?_
  refine lv_aload_n hx hb (show decode code 284 = .ok (.aload_n 2, 1) by decide +kernel) rfl (lv_at hl 2 rfl) ?_
  refine lx_callV (As := []) (rest := [.int v]) (M' := xm_76) hx hb hml hown hts hG hcl rfl (rfl : vwCl[12]? = some (RX12, TX12, 125)) (show decode code 285 = .ok (.invokevirtual 37, 3) by decide +kernel) xn_76 (xT_c9 94 rfl rfl) (xT_c9 95 rfl rfl) (xT_c9 93 rfl rfl) hI1 hq r2 rfl hl.1 (by simp [Value.category]) ⟨hcs, hss⟩ (fun H2 locs2 hI2 => ?_)
  refine W.eq (g2 := F0 m 288 ls [.int v, .int v]) rfl ?_
  refine lv_icmp_eq (tgt := 424) hx hb (show decode code 288 = .ok (.if_icmp .eq 136, 3) by decide +kernel) (by decide) (fun _ => ?_) (fun hne => absurd rfl hne)
  exact lx_fin C0 hI2.2.2.2 hcs hss (lv_sub hl [0, 3] rfl)
theorem lx_calls (C0 : lw_At p s m meth c b 7 xs) (hG : xG s.heap.size aS D cT s) (hcl : xCallsOK xsg l s.heap.size aS D cT 10 (xex xsg xpr 10)) (hI : xI s.heap.size aS D cT s H locs xh2) (hcs : cells ≤ 600000) (hss : slots ≤ 7302250) (hl : lv_has ls 4 [(0, .ref b), (1, .ref (s.heap.size + 0)), (2, .ref (s.heap.size + 213)), (3, .int 0)]) : W p l e room_1 s m #[Value.ref b] below meth c H locs cells slots (lw_Z below #[Value.ref b] s) (F0 m 293 ls []) := by
  obtain ⟨hx, hb, hr, hml, hown, hts0, hX, hbl, hlocks, hgv⟩ := id C0
  have hts : ∀ w ∈ xT, w.before #[Value.ref b] s = true := fun w hw => hts0 w (List.mem_filter.mp hw).1
  have hbA : ¬ xA s.heap.size b := Nat.not_le.mpr hbl
  obtain ⟨v, h1, h2, fs, r1, hq, r2⟩ := xP_calls
  refine lv_aload_n hx hb (show decode code 293 = .ok (.aload_n 1, 1) by decide +kernel) rfl (lv_at hl 1 rfl) ?_
  refine lx_callV (As := []) (rest := []) (M' := xm_6) hx hb hml hown hts hG hcl rfl (rfl : vwCl[11]? = some (RX11, TX11, 13)) (show decode code 294 = .ok (.invokevirtual 38, 3) by decide +kernel) xn_6 (xT_c5 163 rfl rfl) (xT_c5 164 rfl rfl) (xT_c5 162 rfl rfl) hI (xobj_at xe_8) r1 rfl hl.1 (by simp [Value.category]) ⟨hcs, hss⟩ (fun H1 locs1 hI1 => ?_)
  refine W.eq (g2 := F0 m 297 ls [.int v]) rfl ?_
  refine lv_aload_n hx hb (show decode code 297 = .ok (.aload_n 2, 1) by decide +kernel) rfl (lv_at hl 2 rfl) ?_
  refine lx_callV (As := []) (rest := [.int v]) (M' := xm_77) hx hb hml hown hts hG hcl rfl (rfl : vwCl[12]? = some (RX12, TX12, 125)) (show decode code 298 = .ok (.invokevirtual 41, 3) by decide +kernel) xn_77 (xT_c9 98 rfl rfl) (xT_c9 99 rfl rfl) (xT_c9 97 rfl rfl) hI1 hq r2 rfl hl.1 (by simp [Value.category]) ⟨hcs, hss⟩ (fun H2 locs2 hI2 => ?_)
  refine W.eq (g2 := F0 m 301 ls [.int v, .int v]) rfl ?_
  refine lv_icmp_eq (tgt := 424) hx hb (show decode code 301 = .ok (.if_icmp .eq 123, 3) by decide +kernel) (by decide) (fun _ => ?_) (fun hne => absurd rfl hne)
  exact lx_fin C0 hI2.2.2.2 hcs hss (lv_sub hl [0, 3] rfl)
theorem lx_instances (C0 : lw_At p s m meth c b 7 xs) (hG : xG s.heap.size aS D cT s) (hcl : xCallsOK xsg l s.heap.size aS D cT 10 (xex xsg xpr 10)) (hI : xI s.heap.size aS D cT s H locs xh2) (hcs : cells ≤ 600000) (hss : slots ≤ 7302250) (hl : lv_has ls 4 [(0, .ref b), (1, .ref (s.heap.size + 0)), (2, .ref (s.heap.size + 213)), (3, .int 0)]) : W p l e room_1 s m #[Value.ref b] below meth c H locs cells slots (lw_Z below #[Value.ref b] s) (F0 m 306 ls []) := by
  obtain ⟨hx, hb, hr, hml, hown, hts0, hX, hbl, hlocks, hgv⟩ := id C0
  have hts : ∀ w ∈ xT, w.before #[Value.ref b] s = true := fun w hw => hts0 w (List.mem_filter.mp hw).1
  have hbA : ¬ xA s.heap.size b := Nat.not_le.mpr hbl
  obtain ⟨v, h1, h2, fs, r1, hq, r2⟩ := xP_instances
  refine lv_aload_n hx hb (show decode code 306 = .ok (.aload_n 1, 1) by decide +kernel) rfl (lv_at hl 1 rfl) ?_
  refine lx_callV (As := []) (rest := []) (M' := xm_7) hx hb hml hown hts hG hcl rfl (rfl : vwCl[11]? = some (RX11, TX11, 13)) (show decode code 307 = .ok (.invokevirtual 42, 3) by decide +kernel) xn_7 (xT_c5 167 rfl rfl) (xT_c5 168 rfl rfl) (xT_c5 166 rfl rfl) hI (xobj_at xe_8) r1 rfl hl.1 (by simp [Value.category]) ⟨hcs, hss⟩ (fun H1 locs1 hI1 => ?_)
  refine W.eq (g2 := F0 m 310 ls [.int v]) rfl ?_
  refine lv_aload_n hx hb (show decode code 310 = .ok (.aload_n 2, 1) by decide +kernel) rfl (lv_at hl 2 rfl) ?_
  refine lx_callV (As := []) (rest := [.int v]) (M' := xm_78) hx hb hml hown hts hG hcl rfl (rfl : vwCl[12]? = some (RX12, TX12, 125)) (show decode code 311 = .ok (.invokevirtual 45, 3) by decide +kernel) xn_78 (xT_c9 102 rfl rfl) (xT_c9 103 rfl rfl) (xT_c9 101 rfl rfl) hI1 hq r2 rfl hl.1 (by simp [Value.category]) ⟨hcs, hss⟩ (fun H2 locs2 hI2 => ?_)
  refine W.eq (g2 := F0 m 314 ls [.int v, .int v]) rfl ?_
  refine lv_icmp_eq (tgt := 424) hx hb (show decode code 314 = .ok (.if_icmp .eq 110, 3) by decide +kernel) (by decide) (fun _ => ?_) (fun hne => absurd rfl hne)
  exact lx_fin C0 hI2.2.2.2 hcs hss (lv_sub hl [0, 3] rfl)
theorem lx_made (C0 : lw_At p s m meth c b 7 xs) (hG : xG s.heap.size aS D cT s) (hcl : xCallsOK xsg l s.heap.size aS D cT 10 (xex xsg xpr 10)) (hI : xI s.heap.size aS D cT s H locs xh2) (hcs : cells ≤ 600000) (hss : slots ≤ 7302250) (hl : lv_has ls 4 [(0, .ref b), (1, .ref (s.heap.size + 0)), (2, .ref (s.heap.size + 213)), (3, .int 0)]) : W p l e room_1 s m #[Value.ref b] below meth c H locs cells slots (lw_Z below #[Value.ref b] s) (F0 m 319 ls []) := by
  obtain ⟨hx, hb, hr, hml, hown, hts0, hX, hbl, hlocks, hgv⟩ := id C0
  have hts : ∀ w ∈ xT, w.before #[Value.ref b] s = true := fun w hw => hts0 w (List.mem_filter.mp hw).1
  have hbA : ¬ xA s.heap.size b := Nat.not_le.mpr hbl
  obtain ⟨v, h1, h2, fs, r1, hq, r2⟩ := xP_made (xs 1)
  refine lv_aload_n hx hb (show decode code 319 = .ok (.aload_n 1, 1) by decide +kernel) rfl (lv_at hl 1 rfl) ?_
  refine lv_aload_n hx hb (show decode code 320 = .ok (.aload_n 0, 1) by decide +kernel) rfl (lv_at hl 0 rfl) ?_
  refine lv_iload_n hx hb (show decode code 321 = .ok (.iload_n 3, 1) by decide +kernel) rfl (lv_at hl 3 rfl) ?_
  refine lv_iconst (v := 1) hx hb (show decode code 322 = .ok (.iconst 1, 1) by decide +kernel) (by decide) ?_
  refine lv_iadd hx hb (show decode code 323 = .ok (.iadd, 1) by decide +kernel) ?_
  refine va_sld hx hb hX hbl hbA hI.2.2.2 (by unfold vp_in; decide) (show decode code 324 = .ok (.iaload, 1) by decide +kernel) ?_
  refine lx_callV (As := [.int (xs 1)]) (rest := []) (M' := xm_8) hx hb hml hown hts hG hcl rfl (rfl : vwCl[11]? = some (RX11, TX11, 13)) (show decode code 325 = .ok (.invokevirtual 46, 3) by decide +kernel) xn_8 (xT_c6 0 rfl rfl) (xT_c6 1 rfl rfl) (xT_c6 5 rfl rfl) hI (xobj_at xe_8) r1 rfl hl.1 (by simp [Value.category]) ⟨hcs, hss⟩ (fun H1 locs1 hI1 => ?_)
  refine W.eq (g2 := F0 m 328 ls [.int v]) rfl ?_
  refine lv_aload_n hx hb (show decode code 328 = .ok (.aload_n 2, 1) by decide +kernel) rfl (lv_at hl 2 rfl) ?_
  refine lv_aload_n hx hb (show decode code 329 = .ok (.aload_n 0, 1) by decide +kernel) rfl (lv_at hl 0 rfl) ?_
  refine lv_iload_n hx hb (show decode code 330 = .ok (.iload_n 3, 1) by decide +kernel) rfl (lv_at hl 3 rfl) ?_
  refine lv_iconst (v := 1) hx hb (show decode code 331 = .ok (.iconst 1, 1) by decide +kernel) (by decide) ?_
  refine lv_iadd hx hb (show decode code 332 = .ok (.iadd, 1) by decide +kernel) ?_
  refine va_sld hx hb hX hbl hbA hI1.2.2.2 (by unfold vp_in; decide) (show decode code 333 = .ok (.iaload, 1) by decide +kernel) ?_
  refine lx_callV (As := [.int (xs 1)]) (rest := [.int v]) (M' := xm_79) hx hb hml hown hts hG hcl rfl (rfl : vwCl[12]? = some (RX12, TX12, 125)) (show decode code 334 = .ok (.invokevirtual 49, 3) by decide +kernel) xn_79 (xT_c9 138 rfl rfl) (xT_c9 139 rfl rfl) (xT_c9 137 rfl rfl) hI1 hq r2 rfl hl.1 (by simp [Value.category]) ⟨hcs, hss⟩ (fun H2 locs2 hI2 => ?_)
  refine W.eq (g2 := F0 m 337 ls [.int v, .int v]) rfl ?_
  refine lv_icmp_eq (tgt := 424) hx hb (show decode code 337 = .ok (.if_icmp .eq 87, 3) by decide +kernel) (by decide) (fun _ => ?_) (fun hne => absurd rfl hne)
  exact lx_fin C0 hI2.2.2.2 hcs hss (lv_sub hl [0, 3] rfl)
theorem lx_isMade (C0 : lw_At p s m meth c b 7 xs) (hG : xG s.heap.size aS D cT s) (hcl : xCallsOK xsg l s.heap.size aS D cT 10 (xex xsg xpr 10)) (hI : xI s.heap.size aS D cT s H locs xh2) (hcs : cells ≤ 600000) (hss : slots ≤ 7302250) (hl : lv_has ls 4 [(0, .ref b), (1, .ref (s.heap.size + 0)), (2, .ref (s.heap.size + 213)), (3, .int 0)]) : W p l e room_1 s m #[Value.ref b] below meth c H locs cells slots (lw_Z below #[Value.ref b] s) (F0 m 342 ls []) := by
  obtain ⟨hx, hb, hr, hml, hown, hts0, hX, hbl, hlocks, hgv⟩ := id C0
  have hts : ∀ w ∈ xT, w.before #[Value.ref b] s = true := fun w hw => hts0 w (List.mem_filter.mp hw).1
  have hbA : ¬ xA s.heap.size b := Nat.not_le.mpr hbl
  obtain ⟨v, h1, h2, fs, r1, hq, r2⟩ := xP_isMade
  refine lv_aload_n hx hb (show decode code 342 = .ok (.aload_n 1, 1) by decide +kernel) rfl (lv_at hl 1 rfl) ?_
  refine lx_callV (As := []) (rest := []) (M' := xm_9) hx hb hml hown hts hG hcl rfl (rfl : vwCl[11]? = some (RX11, TX11, 13)) (show decode code 343 = .ok (.invokevirtual 50, 3) by decide +kernel) xn_9 (xT_c6 7 rfl rfl) (xT_c6 8 rfl rfl) (xT_c6 6 rfl rfl) hI (xobj_at xe_8) r1 rfl hl.1 (by simp [Value.category]) ⟨hcs, hss⟩ (fun H1 locs1 hI1 => ?_)
  refine W.eq (g2 := F0 m 346 ls [.int v]) rfl ?_
  refine lv_aload_n hx hb (show decode code 346 = .ok (.aload_n 2, 1) by decide +kernel) rfl (lv_at hl 2 rfl) ?_
  refine lx_callV (As := []) (rest := [.int v]) (M' := xm_80) hx hb hml hown hts hG hcl rfl (rfl : vwCl[12]? = some (RX12, TX12, 125)) (show decode code 347 = .ok (.invokevirtual 53, 3) by decide +kernel) xn_80 (xT_c9 142 rfl rfl) (xT_c9 143 rfl rfl) (xT_c9 141 rfl rfl) hI1 hq r2 rfl hl.1 (by simp [Value.category]) ⟨hcs, hss⟩ (fun H2 locs2 hI2 => ?_)
  refine W.eq (g2 := F0 m 350 ls [.int v, .int v]) rfl ?_
  refine lv_icmp_eq (tgt := 424) hx hb (show decode code 350 = .ok (.if_icmp .eq 74, 3) by decide +kernel) (by decide) (fun _ => ?_) (fun hne => absurd rfl hne)
  exact lx_fin C0 hI2.2.2.2 hcs hss (lv_sub hl [0, 3] rfl)
theorem lx_print (C0 : lw_At p s m meth c b 7 xs) (hG : xG s.heap.size aS D cT s) (hcl : xCallsOK xsg l s.heap.size aS D cT 10 (xex xsg xpr 10)) (hI : xI s.heap.size aS D cT s H locs xh2) (hcs : cells ≤ 600000) (hss : slots ≤ 7302250) (hl : lv_has ls 4 [(0, .ref b), (1, .ref (s.heap.size + 0)), (2, .ref (s.heap.size + 213)), (3, .int 0)]) : W p l e room_1 s m #[Value.ref b] below meth c H locs cells slots (lw_Z below #[Value.ref b] s) (F0 m 355 ls []) := by
  obtain ⟨hx, hb, hr, hml, hown, hts0, hX, hbl, hlocks, hgv⟩ := id C0
  have hts : ∀ w ∈ xT, w.before #[Value.ref b] s = true := fun w hw => hts0 w (List.mem_filter.mp hw).1
  have hbA : ¬ xA s.heap.size b := Nat.not_le.mpr hbl
  obtain ⟨v, h1, h2, fs, r1, hq, r2⟩ := xP_print (xs 1)
  refine lv_aload_n hx hb (show decode code 355 = .ok (.aload_n 1, 1) by decide +kernel) rfl (lv_at hl 1 rfl) ?_
  refine lv_aload_n hx hb (show decode code 356 = .ok (.aload_n 0, 1) by decide +kernel) rfl (lv_at hl 0 rfl) ?_
  refine lv_iload_n hx hb (show decode code 357 = .ok (.iload_n 3, 1) by decide +kernel) rfl (lv_at hl 3 rfl) ?_
  refine lv_iconst (v := 1) hx hb (show decode code 358 = .ok (.iconst 1, 1) by decide +kernel) (by decide) ?_
  refine lv_iadd hx hb (show decode code 359 = .ok (.iadd, 1) by decide +kernel) ?_
  refine va_sld hx hb hX hbl hbA hI.2.2.2 (by unfold vp_in; decide) (show decode code 360 = .ok (.iaload, 1) by decide +kernel) ?_
  refine lx_callV (As := [.int (xs 1)]) (rest := []) (M' := xm_10) hx hb hml hown hts hG hcl rfl (rfl : vwCl[11]? = some (RX11, TX11, 13)) (show decode code 361 = .ok (.invokevirtual 54, 3) by decide +kernel) xn_10 (xT_c6 12 rfl rfl) (xT_c6 13 rfl rfl) (xT_c6 11 rfl rfl) hI (xobj_at xe_8) r1 rfl hl.1 (by simp [Value.category]) ⟨hcs, hss⟩ (fun H1 locs1 hI1 => ?_)
  refine W.eq (g2 := F0 m 364 ls [.int v]) rfl ?_
  refine lv_aload_n hx hb (show decode code 364 = .ok (.aload_n 2, 1) by decide +kernel) rfl (lv_at hl 2 rfl) ?_
  refine lv_aload_n hx hb (show decode code 365 = .ok (.aload_n 0, 1) by decide +kernel) rfl (lv_at hl 0 rfl) ?_
  refine lv_iload_n hx hb (show decode code 366 = .ok (.iload_n 3, 1) by decide +kernel) rfl (lv_at hl 3 rfl) ?_
  refine lv_iconst (v := 1) hx hb (show decode code 367 = .ok (.iconst 1, 1) by decide +kernel) (by decide) ?_
  refine lv_iadd hx hb (show decode code 368 = .ok (.iadd, 1) by decide +kernel) ?_
  refine va_sld hx hb hX hbl hbA hI1.2.2.2 (by unfold vp_in; decide) (show decode code 369 = .ok (.iaload, 1) by decide +kernel) ?_
  refine lx_callV (As := [.int (xs 1)]) (rest := [.int v]) (M' := xm_81) hx hb hml hown hts hG hcl rfl (rfl : vwCl[12]? = some (RX12, TX12, 125)) (show decode code 370 = .ok (.invokevirtual 57, 3) by decide +kernel) xn_81 (xT_c9 146 rfl rfl) (xT_c9 147 rfl rfl) (xT_c9 145 rfl rfl) hI1 hq r2 rfl hl.1 (by simp [Value.category]) ⟨hcs, hss⟩ (fun H2 locs2 hI2 => ?_)
  refine W.eq (g2 := F0 m 373 ls [.int v, .int v]) rfl ?_
  refine lv_icmp_eq (tgt := 424) hx hb (show decode code 373 = .ok (.if_icmp .eq 51, 3) by decide +kernel) (by decide) (fun _ => ?_) (fun hne => absurd rfl hne)
  exact lx_fin C0 hI2.2.2.2 hcs hss (lv_sub hl [0, 3] rfl)
theorem lx_out (C0 : lw_At p s m meth c b 7 xs) (hG : xG s.heap.size aS D cT s) (hcl : xCallsOK xsg l s.heap.size aS D cT 10 (xex xsg xpr 10)) (hI : xI s.heap.size aS D cT s H locs xh2) (hcs : cells ≤ 600000) (hss : slots ≤ 7302250) (hl : lv_has ls 4 [(0, .ref b), (1, .ref (s.heap.size + 0)), (2, .ref (s.heap.size + 213)), (3, .int 0)]) : W p l e room_1 s m #[Value.ref b] below meth c H locs cells slots (lw_Z below #[Value.ref b] s) (F0 m 378 ls []) := by
  obtain ⟨hx, hb, hr, hml, hown, hts0, hX, hbl, hlocks, hgv⟩ := id C0
  have hts : ∀ w ∈ xT, w.before #[Value.ref b] s = true := fun w hw => hts0 w (List.mem_filter.mp hw).1
  have hbA : ¬ xA s.heap.size b := Nat.not_le.mpr hbl
  obtain ⟨v, h1, h2, fs, r1, hq, r2⟩ := xP_out (xs 1)
  refine lv_aload_n hx hb (show decode code 378 = .ok (.aload_n 1, 1) by decide +kernel) rfl (lv_at hl 1 rfl) ?_
  refine lv_aload_n hx hb (show decode code 379 = .ok (.aload_n 0, 1) by decide +kernel) rfl (lv_at hl 0 rfl) ?_
  refine lv_iload_n hx hb (show decode code 380 = .ok (.iload_n 3, 1) by decide +kernel) rfl (lv_at hl 3 rfl) ?_
  refine lv_iconst (v := 1) hx hb (show decode code 381 = .ok (.iconst 1, 1) by decide +kernel) (by decide) ?_
  refine lv_iadd hx hb (show decode code 382 = .ok (.iadd, 1) by decide +kernel) ?_
  refine va_sld hx hb hX hbl hbA hI.2.2.2 (by unfold vp_in; decide) (show decode code 383 = .ok (.iaload, 1) by decide +kernel) ?_
  refine lx_callV (As := [.int (xs 1)]) (rest := []) (M' := xm_11) hx hb hml hown hts hG hcl rfl (rfl : vwCl[11]? = some (RX11, TX11, 13)) (show decode code 384 = .ok (.invokevirtual 58, 3) by decide +kernel) xn_11 (xT_c6 42 rfl rfl) (xT_c6 43 rfl rfl) (xT_c6 41 rfl rfl) hI (xobj_at xe_8) r1 rfl hl.1 (by simp [Value.category]) ⟨hcs, hss⟩ (fun H1 locs1 hI1 => ?_)
  refine W.eq (g2 := F0 m 387 ls [.int v]) rfl ?_
  refine lv_aload_n hx hb (show decode code 387 = .ok (.aload_n 2, 1) by decide +kernel) rfl (lv_at hl 2 rfl) ?_
  refine lv_aload_n hx hb (show decode code 388 = .ok (.aload_n 0, 1) by decide +kernel) rfl (lv_at hl 0 rfl) ?_
  refine lv_iload_n hx hb (show decode code 389 = .ok (.iload_n 3, 1) by decide +kernel) rfl (lv_at hl 3 rfl) ?_
  refine lv_iconst (v := 1) hx hb (show decode code 390 = .ok (.iconst 1, 1) by decide +kernel) (by decide) ?_
  refine lv_iadd hx hb (show decode code 391 = .ok (.iadd, 1) by decide +kernel) ?_
  refine va_sld hx hb hX hbl hbA hI1.2.2.2 (by unfold vp_in; decide) (show decode code 392 = .ok (.iaload, 1) by decide +kernel) ?_
  refine lx_callV (As := [.int (xs 1)]) (rest := [.int v]) (M' := xm_82) hx hb hml hown hts hG hcl rfl (rfl : vwCl[12]? = some (RX12, TX12, 125)) (show decode code 393 = .ok (.invokevirtual 61, 3) by decide +kernel) xn_82 (xT_c9 177 rfl rfl) (xT_c9 178 rfl rfl) (xT_c9 176 rfl rfl) hI1 hq r2 rfl hl.1 (by simp [Value.category]) ⟨hcs, hss⟩ (fun H2 locs2 hI2 => ?_)
  refine W.eq (g2 := F0 m 396 ls [.int v, .int v]) rfl ?_
  refine lv_icmp_eq (tgt := 424) hx hb (show decode code 396 = .ok (.if_icmp .eq 28, 3) by decide +kernel) (by decide) (fun _ => ?_) (fun hne => absurd rfl hne)
  exact lx_fin C0 hI2.2.2.2 hcs hss (lv_sub hl [0, 3] rfl)
theorem lx_count (C0 : lw_At p s m meth c b 7 xs) (hG : xG s.heap.size aS D cT s) (hcl : xCallsOK xsg l s.heap.size aS D cT 10 (xex xsg xpr 10)) (hI : xI s.heap.size aS D cT s H locs xh2) (hcs : cells ≤ 600000) (hss : slots ≤ 7302250) (hl : lv_has ls 4 [(0, .ref b), (1, .ref (s.heap.size + 0)), (2, .ref (s.heap.size + 213)), (3, .int 0)]) : W p l e room_1 s m #[Value.ref b] below meth c H locs cells slots (lw_Z below #[Value.ref b] s) (F0 m 401 ls []) := by
  obtain ⟨hx, hb, hr, hml, hown, hts0, hX, hbl, hlocks, hgv⟩ := id C0
  have hts : ∀ w ∈ xT, w.before #[Value.ref b] s = true := fun w hw => hts0 w (List.mem_filter.mp hw).1
  have hbA : ¬ xA s.heap.size b := Nat.not_le.mpr hbl
  obtain ⟨v, h1, h2, fs, r1, hq, r2⟩ := xP_count (xs 1)
  refine lv_aload_n hx hb (show decode code 401 = .ok (.aload_n 1, 1) by decide +kernel) rfl (lv_at hl 1 rfl) ?_
  refine lv_aload_n hx hb (show decode code 402 = .ok (.aload_n 0, 1) by decide +kernel) rfl (lv_at hl 0 rfl) ?_
  refine lv_iload_n hx hb (show decode code 403 = .ok (.iload_n 3, 1) by decide +kernel) rfl (lv_at hl 3 rfl) ?_
  refine lv_iconst (v := 1) hx hb (show decode code 404 = .ok (.iconst 1, 1) by decide +kernel) (by decide) ?_
  refine lv_iadd hx hb (show decode code 405 = .ok (.iadd, 1) by decide +kernel) ?_
  refine va_sld hx hb hX hbl hbA hI.2.2.2 (by unfold vp_in; decide) (show decode code 406 = .ok (.iaload, 1) by decide +kernel) ?_
  refine lx_callV (As := [.int (xs 1)]) (rest := []) (M' := xm_12) hx hb hml hown hts hG hcl rfl (rfl : vwCl[11]? = some (RX11, TX11, 13)) (show decode code 407 = .ok (.invokevirtual 62, 3) by decide +kernel) xn_12 (xT_c6 47 rfl rfl) (xT_c6 48 rfl rfl) (xT_c6 46 rfl rfl) hI (xobj_at xe_8) r1 rfl hl.1 (by simp [Value.category]) ⟨hcs, hss⟩ (fun H1 locs1 hI1 => ?_)
  refine W.eq (g2 := F0 m 410 ls [.int v]) rfl ?_
  refine lv_aload_n hx hb (show decode code 410 = .ok (.aload_n 2, 1) by decide +kernel) rfl (lv_at hl 2 rfl) ?_
  refine lv_aload_n hx hb (show decode code 411 = .ok (.aload_n 0, 1) by decide +kernel) rfl (lv_at hl 0 rfl) ?_
  refine lv_iload_n hx hb (show decode code 412 = .ok (.iload_n 3, 1) by decide +kernel) rfl (lv_at hl 3 rfl) ?_
  refine lv_iconst (v := 1) hx hb (show decode code 413 = .ok (.iconst 1, 1) by decide +kernel) (by decide) ?_
  refine lv_iadd hx hb (show decode code 414 = .ok (.iadd, 1) by decide +kernel) ?_
  refine va_sld hx hb hX hbl hbA hI1.2.2.2 (by unfold vp_in; decide) (show decode code 415 = .ok (.iaload, 1) by decide +kernel) ?_
  refine lx_callV (As := [.int (xs 1)]) (rest := [.int v]) (M' := xm_83) hx hb hml hown hts hG hcl rfl (rfl : vwCl[12]? = some (RX12, TX12, 125)) (show decode code 416 = .ok (.invokevirtual 65, 3) by decide +kernel) xn_83 (xT_c9 181 rfl rfl) (xT_c9 182 rfl rfl) (xT_c9 180 rfl rfl) hI1 hq r2 rfl hl.1 (by simp [Value.category]) ⟨hcs, hss⟩ (fun H2 locs2 hI2 => ?_)
  refine W.eq (g2 := F0 m 419 ls [.int v, .int v]) rfl ?_
  refine lv_icmp_eq (tgt := 424) hx hb (show decode code 419 = .ok (.if_icmp .eq 5, 3) by decide +kernel) (by decide) (fun _ => ?_) (fun hne => absurd rfl hne)
  exact lx_fin C0 hI2.2.2.2 hcs hss (lv_sub hl [0, 3] rfl)
end LY
