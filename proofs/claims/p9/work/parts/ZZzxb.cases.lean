/-! ===== the law's cases ===== -/
/-- the script's places ahead -/
def lx_in (x : Int32) (L : Nat) : Prop := vp_in (x + 1) L ∧ vp_in (x + 2) L ∧ vp_in (x + 3) L ∧ vp_in (x + 4) L ∧ vp_in (x + 5) L ∧ vp_in (x + 6) L
section LY
variable {p : Program} {l : Launch} {e : Jvm.Env} {s : State} {m : MethodId} {below : List Frame} {meth : Method} {c : Code} {H : Heap} {locs : List Loc} {cells slots : Nat} {b L : Nat} {aS : Nat → Nat} {xs : Nat → Int32} {D : va_G} {cT : Nat → ClassId} {ls : Array Slot} {h : xH} {sg : yS}
theorem lx_feed {x3 : Int32} {Q : State → Prop} (C0 : lw_At p s m meth c b L xs) (hG : xG s.heap.size aS D cT s) (hcl : xCallsOK xsg l s.heap.size aS D cT 1514 (yex 1514)) (hv : lx_in x3 L) (hI : xI s.heap.size aS D cT s H locs h) (hS : LSr h sg) (hl : lv_has ls 4 [(0, .ref b), (1, .ref (s.heap.size + 0)), (2, .ref (s.heap.size + 213)), (3, .int x3)]) (kk : ∀ (H1 : Heap) (locs1 : List Loc) (h1 : xH) (sg1 : yS), xI s.heap.size aS D cT s H1 locs1 h1 → LSr h1 sg1 → W p l e room_1 s m #[Value.ref b] below meth c H1 locs1 h1.length (667766 + Sh h1) Q (F0 m 424 ls [])) : W p l e room_1 s m #[Value.ref b] below meth c H locs h.length (667766 + Sh h) Q (F0 m 96 ls []) := by
  obtain ⟨hx, hb, hr, hml, hown, hts0, hX, hbl, hlocks, hgv⟩ := id C0
  have hts : ∀ w ∈ xT, w.before #[Value.ref b] s = true := fun w hw => hts0 w (List.mem_filter.mp hw).1
  have hbA : ¬ xA s.heap.size b := Nat.not_le.mpr hbl
  obtain ⟨fs0, h0⟩ := LSr_0 hS
  obtain ⟨la, ela⟩ : ∃ y : Int64, y = ((xs (x3 + 1).toNatClampNeg).toInt64 <<< ((32 : Int32).toInt64 &&& 63)) ||| ((xs (x3 + 2).toNatClampNeg).toInt64 &&& 4294967295) := ⟨_, rfl⟩
  obtain ⟨lb, elb⟩ : ∃ y : Int64, y = ((xs (x3 + 3).toNatClampNeg).toInt64 <<< ((32 : Int32).toInt64 &&& 63)) ||| ((xs (x3 + 4).toNatClampNeg).toInt64 &&& 4294967295) := ⟨_, rfl⟩
  obtain ⟨lc, elc⟩ : ∃ y : Int64, y = ((xs (x3 + 5).toNatClampNeg).toInt64 <<< ((32 : Int32).toInt64 &&& 63)) ||| ((xs (x3 + 6).toNatClampNeg).toInt64 &&& 4294967295) := ⟨_, rfl⟩
  obtain ⟨v, v', h1, h2, cs, sl, s', fs, r1, hq, r2, hS2, l2, w2, hvv⟩ := Y_feed hS la lb lc
  have hrm := LSr_rm hS2
  refine lv_aload_n hx hb (show decode code 96 = .ok (.aload_n 1, 1) by decide +kernel) rfl (lv_at hl 1 rfl) ?_
  refine lv_aload_n hx hb (show decode code 97 = .ok (.aload_n 0, 1) by decide +kernel) rfl (lv_at hl 0 rfl) ?_
  refine lv_iload_n hx hb (show decode code 98 = .ok (.iload_n 3, 1) by decide +kernel) rfl (lv_at hl 3 rfl) ?_
  refine lv_iconst (v := 1) hx hb (show decode code 99 = .ok (.iconst 1, 1) by decide +kernel) (by decide) ?_
  refine lv_iadd hx hb (show decode code 100 = .ok (.iadd, 1) by decide +kernel) ?_
  refine va_sld (i := x3 + 1) hx hb hX hbl hbA hI.2.2.2 hv.1 (show decode code 101 = .ok (.iaload, 1) by decide +kernel) ?_
  refine lv_i2l hx hb (show decode code 102 = .ok (.i2l, 1) by decide +kernel) rfl ?_
  refine lv_bipush (v := 32) hx hb (show decode code 103 = .ok (.bipush 32, 2) by decide +kernel) (by decide) ?_
  refine lv_lshl hx hb (show decode code 105 = .ok (.lshl, 1) by decide +kernel) rfl ?_
  refine lv_aload_n hx hb (show decode code 106 = .ok (.aload_n 0, 1) by decide +kernel) rfl (lv_at hl 0 rfl) ?_
  refine lv_iload_n hx hb (show decode code 107 = .ok (.iload_n 3, 1) by decide +kernel) rfl (lv_at hl 3 rfl) ?_
  refine lv_iconst (v := 2) hx hb (show decode code 108 = .ok (.iconst 2, 1) by decide +kernel) (by decide) ?_
  refine lv_iadd hx hb (show decode code 109 = .ok (.iadd, 1) by decide +kernel) ?_
  refine va_sld (i := x3 + 2) hx hb hX hbl hbA hI.2.2.2 hv.2.1 (show decode code 110 = .ok (.iaload, 1) by decide +kernel) ?_
  refine lv_i2l hx hb (show decode code 111 = .ok (.i2l, 1) by decide +kernel) rfl ?_
  refine lv_ldc2 (v := 4294967295) hx hb hown (hts (.constantLong R_law 13 4294967295) (xT_c9 184 rfl rfl)) (show decode code 112 = .ok (.ldc2_w 13, 3) by decide +kernel) ?_
  refine lv_land hx hb (show decode code 115 = .ok (.land, 1) by decide +kernel) ?_
  refine lv_lor hx hb (show decode code 116 = .ok (.lor, 1) by decide +kernel) ?_
  refine W.eq (g2 := F0 m 117 ls (.long la :: [.ref (s.heap.size + 0)])) (by rw [ela]) ?_
  refine lv_aload_n hx hb (show decode code 117 = .ok (.aload_n 0, 1) by decide +kernel) rfl (lv_at hl 0 rfl) ?_
  refine lv_iload_n hx hb (show decode code 118 = .ok (.iload_n 3, 1) by decide +kernel) rfl (lv_at hl 3 rfl) ?_
  refine lv_iconst (v := 3) hx hb (show decode code 119 = .ok (.iconst 3, 1) by decide +kernel) (by decide) ?_
  refine lv_iadd hx hb (show decode code 120 = .ok (.iadd, 1) by decide +kernel) ?_
  refine va_sld (i := x3 + 3) hx hb hX hbl hbA hI.2.2.2 hv.2.2.1 (show decode code 121 = .ok (.iaload, 1) by decide +kernel) ?_
  refine lv_i2l hx hb (show decode code 122 = .ok (.i2l, 1) by decide +kernel) rfl ?_
  refine lv_bipush (v := 32) hx hb (show decode code 123 = .ok (.bipush 32, 2) by decide +kernel) (by decide) ?_
  refine lv_lshl hx hb (show decode code 125 = .ok (.lshl, 1) by decide +kernel) rfl ?_
  refine lv_aload_n hx hb (show decode code 126 = .ok (.aload_n 0, 1) by decide +kernel) rfl (lv_at hl 0 rfl) ?_
  refine lv_iload_n hx hb (show decode code 127 = .ok (.iload_n 3, 1) by decide +kernel) rfl (lv_at hl 3 rfl) ?_
  refine lv_iconst (v := 4) hx hb (show decode code 128 = .ok (.iconst 4, 1) by decide +kernel) (by decide) ?_
  refine lv_iadd hx hb (show decode code 129 = .ok (.iadd, 1) by decide +kernel) ?_
  refine va_sld (i := x3 + 4) hx hb hX hbl hbA hI.2.2.2 hv.2.2.2.1 (show decode code 130 = .ok (.iaload, 1) by decide +kernel) ?_
  refine lv_i2l hx hb (show decode code 131 = .ok (.i2l, 1) by decide +kernel) rfl ?_
  refine lv_ldc2 (v := 4294967295) hx hb hown (hts (.constantLong R_law 13 4294967295) (xT_c9 184 rfl rfl)) (show decode code 132 = .ok (.ldc2_w 13, 3) by decide +kernel) ?_
  refine lv_land hx hb (show decode code 135 = .ok (.land, 1) by decide +kernel) ?_
  refine lv_lor hx hb (show decode code 136 = .ok (.lor, 1) by decide +kernel) ?_
  refine W.eq (g2 := F0 m 137 ls (.long lb :: .long la :: [.ref (s.heap.size + 0)])) (by rw [elb]) ?_
  refine lv_aload_n hx hb (show decode code 137 = .ok (.aload_n 0, 1) by decide +kernel) rfl (lv_at hl 0 rfl) ?_
  refine lv_iload_n hx hb (show decode code 138 = .ok (.iload_n 3, 1) by decide +kernel) rfl (lv_at hl 3 rfl) ?_
  refine lv_iconst (v := 5) hx hb (show decode code 139 = .ok (.iconst 5, 1) by decide +kernel) (by decide) ?_
  refine lv_iadd hx hb (show decode code 140 = .ok (.iadd, 1) by decide +kernel) ?_
  refine va_sld (i := x3 + 5) hx hb hX hbl hbA hI.2.2.2 hv.2.2.2.2.1 (show decode code 141 = .ok (.iaload, 1) by decide +kernel) ?_
  refine lv_i2l hx hb (show decode code 142 = .ok (.i2l, 1) by decide +kernel) rfl ?_
  refine lv_bipush (v := 32) hx hb (show decode code 143 = .ok (.bipush 32, 2) by decide +kernel) (by decide) ?_
  refine lv_lshl hx hb (show decode code 145 = .ok (.lshl, 1) by decide +kernel) rfl ?_
  refine lv_aload_n hx hb (show decode code 146 = .ok (.aload_n 0, 1) by decide +kernel) rfl (lv_at hl 0 rfl) ?_
  refine lv_iload_n hx hb (show decode code 147 = .ok (.iload_n 3, 1) by decide +kernel) rfl (lv_at hl 3 rfl) ?_
  refine lv_bipush (v := 6) hx hb (show decode code 148 = .ok (.bipush 6, 2) by decide +kernel) (by decide) ?_
  refine lv_iadd hx hb (show decode code 150 = .ok (.iadd, 1) by decide +kernel) ?_
  refine va_sld (i := x3 + 6) hx hb hX hbl hbA hI.2.2.2 hv.2.2.2.2.2 (show decode code 151 = .ok (.iaload, 1) by decide +kernel) ?_
  refine lv_i2l hx hb (show decode code 152 = .ok (.i2l, 1) by decide +kernel) rfl ?_
  refine lv_ldc2 (v := 4294967295) hx hb hown (hts (.constantLong R_law 13 4294967295) (xT_c9 184 rfl rfl)) (show decode code 153 = .ok (.ldc2_w 13, 3) by decide +kernel) ?_
  refine lv_land hx hb (show decode code 156 = .ok (.land, 1) by decide +kernel) ?_
  refine lv_lor hx hb (show decode code 157 = .ok (.lor, 1) by decide +kernel) ?_
  refine W.eq (g2 := F0 m 158 ls (.long lc :: .long lb :: .long la :: [.ref (s.heap.size + 0)])) (by rw [elc]) ?_
  refine lx_callV (As := [.long la, .long lb, .long lc]) (rest := []) (M' := xm_139) hx hb hml hown hts hG hcl rfl (rfl : vwCl[11]? = some (RX11, TX11, 13)) (show decode code 158 = .ok (.invokevirtual 15, 3) by decide +kernel) xn_139 (xT_c3 59 rfl rfl) (xT_c3 60 rfl rfl) (xT_c3 58 rfl rfl) hI h0 r1 rfl hl.1 (by simp [Value.category]) ⟨by show h.length + cs ≤ 600000; omega, by show 667766 + Sh h + sl ≤ 7302250; omega⟩ (fun H1 locs1 hI1 => ?_)
  refine W.eq (g2 := F0 m 161 ls [.int v]) rfl ?_
  refine lv_pop hx hb (show decode code 161 = .ok (.pop, 1) by decide +kernel) rfl ?_
  refine lv_aload_n hx hb (show decode code 162 = .ok (.aload_n 2, 1) by decide +kernel) rfl (lv_at hl 2 rfl) ?_
  refine lv_aload_n hx hb (show decode code 163 = .ok (.aload_n 0, 1) by decide +kernel) rfl (lv_at hl 0 rfl) ?_
  refine lv_iload_n hx hb (show decode code 164 = .ok (.iload_n 3, 1) by decide +kernel) rfl (lv_at hl 3 rfl) ?_
  refine lv_iconst (v := 1) hx hb (show decode code 165 = .ok (.iconst 1, 1) by decide +kernel) (by decide) ?_
  refine lv_iadd hx hb (show decode code 166 = .ok (.iadd, 1) by decide +kernel) ?_
  refine va_sld (i := x3 + 1) hx hb hX hbl hbA hI1.2.2.2 hv.1 (show decode code 167 = .ok (.iaload, 1) by decide +kernel) ?_
  refine lv_i2l hx hb (show decode code 168 = .ok (.i2l, 1) by decide +kernel) rfl ?_
  refine lv_bipush (v := 32) hx hb (show decode code 169 = .ok (.bipush 32, 2) by decide +kernel) (by decide) ?_
  refine lv_lshl hx hb (show decode code 171 = .ok (.lshl, 1) by decide +kernel) rfl ?_
  refine lv_aload_n hx hb (show decode code 172 = .ok (.aload_n 0, 1) by decide +kernel) rfl (lv_at hl 0 rfl) ?_
  refine lv_iload_n hx hb (show decode code 173 = .ok (.iload_n 3, 1) by decide +kernel) rfl (lv_at hl 3 rfl) ?_
  refine lv_iconst (v := 2) hx hb (show decode code 174 = .ok (.iconst 2, 1) by decide +kernel) (by decide) ?_
  refine lv_iadd hx hb (show decode code 175 = .ok (.iadd, 1) by decide +kernel) ?_
  refine va_sld (i := x3 + 2) hx hb hX hbl hbA hI1.2.2.2 hv.2.1 (show decode code 176 = .ok (.iaload, 1) by decide +kernel) ?_
  refine lv_i2l hx hb (show decode code 177 = .ok (.i2l, 1) by decide +kernel) rfl ?_
  refine lv_ldc2 (v := 4294967295) hx hb hown (hts (.constantLong R_law 13 4294967295) (xT_c9 184 rfl rfl)) (show decode code 178 = .ok (.ldc2_w 13, 3) by decide +kernel) ?_
  refine lv_land hx hb (show decode code 181 = .ok (.land, 1) by decide +kernel) ?_
  refine lv_lor hx hb (show decode code 182 = .ok (.lor, 1) by decide +kernel) ?_
  refine W.eq (g2 := F0 m 183 ls (.long la :: [.ref (s.heap.size + 213)])) (by rw [ela]) ?_
  refine lv_aload_n hx hb (show decode code 183 = .ok (.aload_n 0, 1) by decide +kernel) rfl (lv_at hl 0 rfl) ?_
  refine lv_iload_n hx hb (show decode code 184 = .ok (.iload_n 3, 1) by decide +kernel) rfl (lv_at hl 3 rfl) ?_
  refine lv_iconst (v := 3) hx hb (show decode code 185 = .ok (.iconst 3, 1) by decide +kernel) (by decide) ?_
  refine lv_iadd hx hb (show decode code 186 = .ok (.iadd, 1) by decide +kernel) ?_
  refine va_sld (i := x3 + 3) hx hb hX hbl hbA hI1.2.2.2 hv.2.2.1 (show decode code 187 = .ok (.iaload, 1) by decide +kernel) ?_
  refine lv_i2l hx hb (show decode code 188 = .ok (.i2l, 1) by decide +kernel) rfl ?_
  refine lv_bipush (v := 32) hx hb (show decode code 189 = .ok (.bipush 32, 2) by decide +kernel) (by decide) ?_
  refine lv_lshl hx hb (show decode code 191 = .ok (.lshl, 1) by decide +kernel) rfl ?_
  refine lv_aload_n hx hb (show decode code 192 = .ok (.aload_n 0, 1) by decide +kernel) rfl (lv_at hl 0 rfl) ?_
  refine lv_iload_n hx hb (show decode code 193 = .ok (.iload_n 3, 1) by decide +kernel) rfl (lv_at hl 3 rfl) ?_
  refine lv_iconst (v := 4) hx hb (show decode code 194 = .ok (.iconst 4, 1) by decide +kernel) (by decide) ?_
  refine lv_iadd hx hb (show decode code 195 = .ok (.iadd, 1) by decide +kernel) ?_
  refine va_sld (i := x3 + 4) hx hb hX hbl hbA hI1.2.2.2 hv.2.2.2.1 (show decode code 196 = .ok (.iaload, 1) by decide +kernel) ?_
  refine lv_i2l hx hb (show decode code 197 = .ok (.i2l, 1) by decide +kernel) rfl ?_
  refine lv_ldc2 (v := 4294967295) hx hb hown (hts (.constantLong R_law 13 4294967295) (xT_c9 184 rfl rfl)) (show decode code 198 = .ok (.ldc2_w 13, 3) by decide +kernel) ?_
  refine lv_land hx hb (show decode code 201 = .ok (.land, 1) by decide +kernel) ?_
  refine lv_lor hx hb (show decode code 202 = .ok (.lor, 1) by decide +kernel) ?_
  refine W.eq (g2 := F0 m 203 ls (.long lb :: .long la :: [.ref (s.heap.size + 213)])) (by rw [elb]) ?_
  refine lv_aload_n hx hb (show decode code 203 = .ok (.aload_n 0, 1) by decide +kernel) rfl (lv_at hl 0 rfl) ?_
  refine lv_iload_n hx hb (show decode code 204 = .ok (.iload_n 3, 1) by decide +kernel) rfl (lv_at hl 3 rfl) ?_
  refine lv_iconst (v := 5) hx hb (show decode code 205 = .ok (.iconst 5, 1) by decide +kernel) (by decide) ?_
  refine lv_iadd hx hb (show decode code 206 = .ok (.iadd, 1) by decide +kernel) ?_
  refine va_sld (i := x3 + 5) hx hb hX hbl hbA hI1.2.2.2 hv.2.2.2.2.1 (show decode code 207 = .ok (.iaload, 1) by decide +kernel) ?_
  refine lv_i2l hx hb (show decode code 208 = .ok (.i2l, 1) by decide +kernel) rfl ?_
  refine lv_bipush (v := 32) hx hb (show decode code 209 = .ok (.bipush 32, 2) by decide +kernel) (by decide) ?_
  refine lv_lshl hx hb (show decode code 211 = .ok (.lshl, 1) by decide +kernel) rfl ?_
  refine lv_aload_n hx hb (show decode code 212 = .ok (.aload_n 0, 1) by decide +kernel) rfl (lv_at hl 0 rfl) ?_
  refine lv_iload_n hx hb (show decode code 213 = .ok (.iload_n 3, 1) by decide +kernel) rfl (lv_at hl 3 rfl) ?_
  refine lv_bipush (v := 6) hx hb (show decode code 214 = .ok (.bipush 6, 2) by decide +kernel) (by decide) ?_
  refine lv_iadd hx hb (show decode code 216 = .ok (.iadd, 1) by decide +kernel) ?_
  refine va_sld (i := x3 + 6) hx hb hX hbl hbA hI1.2.2.2 hv.2.2.2.2.2 (show decode code 217 = .ok (.iaload, 1) by decide +kernel) ?_
  refine lv_i2l hx hb (show decode code 218 = .ok (.i2l, 1) by decide +kernel) rfl ?_
  refine lv_ldc2 (v := 4294967295) hx hb hown (hts (.constantLong R_law 13 4294967295) (xT_c9 184 rfl rfl)) (show decode code 219 = .ok (.ldc2_w 13, 3) by decide +kernel) ?_
  refine lv_land hx hb (show decode code 222 = .ok (.land, 1) by decide +kernel) ?_
  refine lv_lor hx hb (show decode code 223 = .ok (.lor, 1) by decide +kernel) ?_
  refine W.eq (g2 := F0 m 224 ls (.long lc :: .long lb :: .long la :: [.ref (s.heap.size + 213)])) (by rw [elc]) ?_
  refine lx_callV (As := [.long la, .long lb, .long lc]) (rest := []) (M' := xm_154) hx hb hml hown hts hG hcl rfl (rfl : vwCl[12]? = some (RX12, TX12, 125)) (show decode code 224 = .ok (.invokevirtual 19, 3) by decide +kernel) xn_154 (xT_c7 198 rfl rfl) (xT_c7 199 rfl rfl) (xT_c7 197 rfl rfl) hI1 hq r2 rfl hl.1 (by simp [Value.category]) ⟨by show h.length + cs + 0 ≤ 600000; omega, by show 667766 + Sh h + sl + 0 ≤ 7302250; omega⟩ (fun H2 locs2 hI2 => ?_)
  refine W_cs (c1 := h2.length) (s1 := 667766 + Sh h2) (by show h2.length = h.length + cs + 0; omega) (by show 667766 + Sh h2 = 667766 + Sh h + sl + 0; omega) ?_
  refine W.eq (g2 := F0 m 227 ls (.int v' :: [])) rfl ?_
  refine lv_pop hx hb (show decode code 227 = .ok (.pop, 1) by decide +kernel) rfl ?_
  refine lv_goto (tgt := 424) hx hb (show decode code 228 = .ok (.goto 196, 3) by decide +kernel) (by decide) ?_
  exact kk H2 locs2 h2 s' hI2 hS2
theorem lx_program {x3 : Int32} {Q : State → Prop} (C0 : lw_At p s m meth c b L xs) (hG : xG s.heap.size aS D cT s) (hcl : xCallsOK xsg l s.heap.size aS D cT 1514 (yex 1514)) (hv : lx_in x3 L) (hI : xI s.heap.size aS D cT s H locs h) (hS : LSr h sg) (hl : lv_has ls 4 [(0, .ref b), (1, .ref (s.heap.size + 0)), (2, .ref (s.heap.size + 213)), (3, .int x3)]) (kk : ∀ (H1 : Heap) (locs1 : List Loc) (h1 : xH) (sg1 : yS), xI s.heap.size aS D cT s H1 locs1 h1 → LSr h1 sg1 → W p l e room_1 s m #[Value.ref b] below meth c H1 locs1 h1.length (667766 + Sh h1) Q (F0 m 424 ls [])) : W p l e room_1 s m #[Value.ref b] below meth c H locs h.length (667766 + Sh h) Q (F0 m 231 ls []) := by
  obtain ⟨hx, hb, hr, hml, hown, hts0, hX, hbl, hlocks, hgv⟩ := id C0
  have hts : ∀ w ∈ xT, w.before #[Value.ref b] s = true := fun w hw => hts0 w (List.mem_filter.mp hw).1
  have hbA : ¬ xA s.heap.size b := Nat.not_le.mpr hbl
  obtain ⟨fs0, h0⟩ := LSr_0 hS
  obtain ⟨v, v', h1, h2, cs, sl, s', fs, r1, hq, r2, hS2, l2, w2, hvv⟩ := Y_program hS
  have hrm := LSr_rm hS2
  refine lv_aload_n hx hb (show decode code 231 = .ok (.aload_n 1, 1) by decide +kernel) rfl (lv_at hl 1 rfl) ?_
  refine lx_callV (As := []) (rest := []) (M' := xm_140) hx hb hml hown hts hG hcl rfl (rfl : vwCl[11]? = some (RX11, TX11, 13)) (show decode code 232 = .ok (.invokevirtual 20, 3) by decide +kernel) xn_140 (xT_c3 72 rfl rfl) (xT_c3 73 rfl rfl) (xT_c3 71 rfl rfl) hI h0 r1 rfl hl.1 (by simp [Value.category]) ⟨by show h.length + cs ≤ 600000; omega, by show 667766 + Sh h + sl ≤ 7302250; omega⟩ (fun H1 locs1 hI1 => ?_)
  refine W.eq (g2 := F0 m 235 ls [.int v]) rfl ?_
  refine lv_pop hx hb (show decode code 235 = .ok (.pop, 1) by decide +kernel) rfl ?_
  refine lv_aload_n hx hb (show decode code 236 = .ok (.aload_n 2, 1) by decide +kernel) rfl (lv_at hl 2 rfl) ?_
  refine lx_callV (As := []) (rest := []) (M' := xm_230) hx hb hml hown hts hG hcl rfl (rfl : vwCl[12]? = some (RX12, TX12, 125)) (show decode code 237 = .ok (.invokevirtual 24, 3) by decide +kernel) xn_230 (xT_c7 206 rfl rfl) (xT_c7 207 rfl rfl) (xT_c7 205 rfl rfl) hI1 hq r2 rfl hl.1 (by simp [Value.category]) ⟨by show h.length + cs + 0 ≤ 600000; omega, by show 667766 + Sh h + sl + 0 ≤ 7302250; omega⟩ (fun H2 locs2 hI2 => ?_)
  refine W_cs (c1 := h2.length) (s1 := 667766 + Sh h2) (by show h2.length = h.length + cs + 0; omega) (by show 667766 + Sh h2 = 667766 + Sh h + sl + 0; omega) ?_
  refine W.eq (g2 := F0 m 240 ls (.int v' :: [])) rfl ?_
  refine lv_pop hx hb (show decode code 240 = .ok (.pop, 1) by decide +kernel) rfl ?_
  refine lv_goto (tgt := 424) hx hb (show decode code 241 = .ok (.goto 183, 3) by decide +kernel) (by decide) ?_
  exact kk H2 locs2 h2 s' hI2 hS2
theorem lx_implementing {x3 : Int32} {Q : State → Prop} (C0 : lw_At p s m meth c b L xs) (hG : xG s.heap.size aS D cT s) (hcl : xCallsOK xsg l s.heap.size aS D cT 1514 (yex 1514)) (hv : lx_in x3 L) (hI : xI s.heap.size aS D cT s H locs h) (hS : LSr h sg) (hl : lv_has ls 4 [(0, .ref b), (1, .ref (s.heap.size + 0)), (2, .ref (s.heap.size + 213)), (3, .int x3)]) (kk : ∀ (H1 : Heap) (locs1 : List Loc) (h1 : xH) (sg1 : yS), xI s.heap.size aS D cT s H1 locs1 h1 → LSr h1 sg1 → W p l e room_1 s m #[Value.ref b] below meth c H1 locs1 h1.length (667766 + Sh h1) Q (F0 m 424 ls [])) : W p l e room_1 s m #[Value.ref b] below meth c H locs h.length (667766 + Sh h) Q (F0 m 244 ls []) := by
  obtain ⟨hx, hb, hr, hml, hown, hts0, hX, hbl, hlocks, hgv⟩ := id C0
  have hts : ∀ w ∈ xT, w.before #[Value.ref b] s = true := fun w hw => hts0 w (List.mem_filter.mp hw).1
  have hbA : ¬ xA s.heap.size b := Nat.not_le.mpr hbl
  obtain ⟨fs0, h0⟩ := LSr_0 hS
  obtain ⟨v, v', h1, h2, cs, sl, s', fs, r1, hq, r2, hS2, l2, w2, hvv⟩ := Y_implementing hS
  have hrm := LSr_rm hS2
  refine lv_aload_n hx hb (show decode code 244 = .ok (.aload_n 1, 1) by decide +kernel) rfl (lv_at hl 1 rfl) ?_
  refine lx_callV (As := []) (rest := []) (M' := xm_141) hx hb hml hown hts hG hcl rfl (rfl : vwCl[11]? = some (RX11, TX11, 13)) (show decode code 245 = .ok (.invokevirtual 25, 3) by decide +kernel) xn_141 (xT_c5 61 rfl rfl) (xT_c5 62 rfl rfl) (xT_c5 60 rfl rfl) hI h0 r1 rfl hl.1 (by simp [Value.category]) ⟨by show h.length + cs ≤ 600000; omega, by show 667766 + Sh h + sl ≤ 7302250; omega⟩ (fun H1 locs1 hI1 => ?_)
  refine W.eq (g2 := F0 m 248 ls [.int v]) rfl ?_
  refine lv_pop hx hb (show decode code 248 = .ok (.pop, 1) by decide +kernel) rfl ?_
  refine lv_aload_n hx hb (show decode code 249 = .ok (.aload_n 2, 1) by decide +kernel) rfl (lv_at hl 2 rfl) ?_
  refine lx_callV (As := []) (rest := []) (M' := xm_236) hx hb hml hown hts hG hcl rfl (rfl : vwCl[12]? = some (RX12, TX12, 125)) (show decode code 250 = .ok (.invokevirtual 28, 3) by decide +kernel) xn_236 (xT_c9 34 rfl rfl) (xT_c9 35 rfl rfl) (xT_c9 33 rfl rfl) hI1 hq r2 rfl hl.1 (by simp [Value.category]) ⟨by show h.length + cs + 0 ≤ 600000; omega, by show 667766 + Sh h + sl + 0 ≤ 7302250; omega⟩ (fun H2 locs2 hI2 => ?_)
  refine W_cs (c1 := h2.length) (s1 := 667766 + Sh h2) (by show h2.length = h.length + cs + 0; omega) (by show 667766 + Sh h2 = 667766 + Sh h + sl + 0; omega) ?_
  refine W.eq (g2 := F0 m 253 ls (.int v' :: [])) rfl ?_
  refine lv_pop hx hb (show decode code 253 = .ok (.pop, 1) by decide +kernel) rfl ?_
  refine lv_goto (tgt := 424) hx hb (show decode code 254 = .ok (.goto 170, 3) by decide +kernel) (by decide) ?_
  exact kk H2 locs2 h2 s' hI2 hS2
theorem lx_run {x3 : Int32} {Q : State → Prop} (C0 : lw_At p s m meth c b L xs) (hG : xG s.heap.size aS D cT s) (hcl : xCallsOK xsg l s.heap.size aS D cT 1514 (yex 1514)) (hv : lx_in x3 L) (hI : xI s.heap.size aS D cT s H locs h) (hS : LSr h sg) (hl : lv_has ls 4 [(0, .ref b), (1, .ref (s.heap.size + 0)), (2, .ref (s.heap.size + 213)), (3, .int x3)]) (kk : ∀ (H1 : Heap) (locs1 : List Loc) (h1 : xH) (sg1 : yS), xI s.heap.size aS D cT s H1 locs1 h1 → LSr h1 sg1 → W p l e room_1 s m #[Value.ref b] below meth c H1 locs1 h1.length (667766 + Sh h1) Q (F0 m 424 ls [])) : W p l e room_1 s m #[Value.ref b] below meth c H locs h.length (667766 + Sh h) Q (F0 m 257 ls []) := by
  obtain ⟨hx, hb, hr, hml, hown, hts0, hX, hbl, hlocks, hgv⟩ := id C0
  have hts : ∀ w ∈ xT, w.before #[Value.ref b] s = true := fun w hw => hts0 w (List.mem_filter.mp hw).1
  have hbA : ¬ xA s.heap.size b := Nat.not_le.mpr hbl
  obtain ⟨fs0, h0⟩ := LSr_0 hS
  obtain ⟨v, v', h1, h2, cs, sl, s', fs, r1, hq, r2, hS2, l2, w2, hvv⟩ := Y_run hS (xs (x3 + 1).toNatClampNeg)
  have hrm := LSr_rm hS2
  refine lv_aload_n hx hb (show decode code 257 = .ok (.aload_n 1, 1) by decide +kernel) rfl (lv_at hl 1 rfl) ?_
  refine lv_aload_n hx hb (show decode code 258 = .ok (.aload_n 0, 1) by decide +kernel) rfl (lv_at hl 0 rfl) ?_
  refine lv_iload_n hx hb (show decode code 259 = .ok (.iload_n 3, 1) by decide +kernel) rfl (lv_at hl 3 rfl) ?_
  refine lv_iconst (v := 1) hx hb (show decode code 260 = .ok (.iconst 1, 1) by decide +kernel) (by decide) ?_
  refine lv_iadd hx hb (show decode code 261 = .ok (.iadd, 1) by decide +kernel) ?_
  refine va_sld (i := x3 + 1) hx hb hX hbl hbA hI.2.2.2 hv.1 (show decode code 262 = .ok (.iaload, 1) by decide +kernel) ?_
  refine lx_callV (As := [.int (xs (x3 + 1).toNatClampNeg)]) (rest := []) (M' := xm_142) hx hb hml hown hts hG hcl rfl (rfl : vwCl[11]? = some (RX11, TX11, 13)) (show decode code 263 = .ok (.invokevirtual 29, 3) by decide +kernel) xn_142 (xT_c5 89 rfl rfl) (xT_c5 90 rfl rfl) (xT_c5 88 rfl rfl) hI h0 r1 rfl hl.1 (by simp [Value.category]) ⟨by show h.length + cs ≤ 600000; omega, by show 667766 + Sh h + sl ≤ 7302250; omega⟩ (fun H1 locs1 hI1 => ?_)
  refine W.eq (g2 := F0 m 266 ls [.int v]) rfl ?_
  refine lv_pop hx hb (show decode code 266 = .ok (.pop, 1) by decide +kernel) rfl ?_
  refine lv_aload_n hx hb (show decode code 267 = .ok (.aload_n 2, 1) by decide +kernel) rfl (lv_at hl 2 rfl) ?_
  refine lv_aload_n hx hb (show decode code 268 = .ok (.aload_n 0, 1) by decide +kernel) rfl (lv_at hl 0 rfl) ?_
  refine lv_iload_n hx hb (show decode code 269 = .ok (.iload_n 3, 1) by decide +kernel) rfl (lv_at hl 3 rfl) ?_
  refine lv_iconst (v := 1) hx hb (show decode code 270 = .ok (.iconst 1, 1) by decide +kernel) (by decide) ?_
  refine lv_iadd hx hb (show decode code 271 = .ok (.iadd, 1) by decide +kernel) ?_
  refine va_sld (i := x3 + 1) hx hb hX hbl hbA hI1.2.2.2 hv.1 (show decode code 272 = .ok (.iaload, 1) by decide +kernel) ?_
  refine lx_callV (As := [.int (xs (x3 + 1).toNatClampNeg)]) (rest := []) (M' := xm_247) hx hb hml hown hts hG hcl rfl (rfl : vwCl[12]? = some (RX12, TX12, 125)) (show decode code 273 = .ok (.invokevirtual 33, 3) by decide +kernel) xn_247 (xT_c9 50 rfl rfl) (xT_c9 51 rfl rfl) (xT_c9 49 rfl rfl) hI1 hq r2 rfl hl.1 (by simp [Value.category]) ⟨by show h.length + cs + 0 ≤ 600000; omega, by show 667766 + Sh h + sl + 0 ≤ 7302250; omega⟩ (fun H2 locs2 hI2 => ?_)
  refine W_cs (c1 := h2.length) (s1 := 667766 + Sh h2) (by show h2.length = h.length + cs + 0; omega) (by show 667766 + Sh h2 = 667766 + Sh h + sl + 0; omega) ?_
  refine W.eq (g2 := F0 m 276 ls (.int v' :: [])) rfl ?_
  refine lv_pop hx hb (show decode code 276 = .ok (.pop, 1) by decide +kernel) rfl ?_
  refine lv_goto (tgt := 424) hx hb (show decode code 277 = .ok (.goto 147, 3) by decide +kernel) (by decide) ?_
  exact kk H2 locs2 h2 s' hI2 hS2
theorem lx_failed {x3 : Int32} {Q : State → Prop} (C0 : lw_At p s m meth c b L xs) (hG : xG s.heap.size aS D cT s) (hcl : xCallsOK xsg l s.heap.size aS D cT 1514 (yex 1514)) (hv : lx_in x3 L) (hI : xI s.heap.size aS D cT s H locs h) (hS : LSr h sg) (hl : lv_has ls 4 [(0, .ref b), (1, .ref (s.heap.size + 0)), (2, .ref (s.heap.size + 213)), (3, .int x3)]) (kk : ∀ (H1 : Heap) (locs1 : List Loc) (h1 : xH) (sg1 : yS), xI s.heap.size aS D cT s H1 locs1 h1 → LSr h1 sg1 → W p l e room_1 s m #[Value.ref b] below meth c H1 locs1 h1.length (667766 + Sh h1) Q (F0 m 424 ls [])) : W p l e room_1 s m #[Value.ref b] below meth c H locs h.length (667766 + Sh h) Q (F0 m 280 ls []) := by
  obtain ⟨hx, hb, hr, hml, hown, hts0, hX, hbl, hlocks, hgv⟩ := id C0
  have hts : ∀ w ∈ xT, w.before #[Value.ref b] s = true := fun w hw => hts0 w (List.mem_filter.mp hw).1
  have hbA : ¬ xA s.heap.size b := Nat.not_le.mpr hbl
  obtain ⟨fs0, h0⟩ := LSr_0 hS
  obtain ⟨v, v', h1, h2, cs, sl, s', fs, r1, hq, r2, hS2, l2, w2, hvv⟩ := Y_failed hS
  have hrm := LSr_rm hS2
  refine lv_aload_n hx hb (show decode code 280 = .ok (.aload_n 1, 1) by decide +kernel) rfl (lv_at hl 1 rfl) ?_
  refine lx_callV (As := []) (rest := []) (M' := xm_143) hx hb hml hown hts hG hcl rfl (rfl : vwCl[11]? = some (RX11, TX11, 13)) (show decode code 281 = .ok (.invokevirtual 34, 3) by decide +kernel) xn_143 (xT_c5 159 rfl rfl) (xT_c5 160 rfl rfl) (xT_c5 158 rfl rfl) hI h0 r1 rfl hl.1 (by simp [Value.category]) ⟨by show h.length + cs ≤ 600000; omega, by show 667766 + Sh h + sl ≤ 7302250; omega⟩ (fun H1 locs1 hI1 => ?_)
  refine W.eq (g2 := F0 m 284 ls [.int v]) rfl ?_
  refine lv_pop hx hb (show decode code 284 = .ok (.pop, 1) by decide +kernel) rfl ?_
  refine lv_aload_n hx hb (show decode code 285 = .ok (.aload_n 2, 1) by decide +kernel) rfl (lv_at hl 2 rfl) ?_
  refine lx_callV (As := []) (rest := []) (M' := xm_248) hx hb hml hown hts hG hcl rfl (rfl : vwCl[12]? = some (RX12, TX12, 125)) (show decode code 286 = .ok (.invokevirtual 37, 3) by decide +kernel) xn_248 (xT_c9 94 rfl rfl) (xT_c9 95 rfl rfl) (xT_c9 93 rfl rfl) hI1 hq r2 rfl hl.1 (by simp [Value.category]) ⟨by show h.length + cs + 0 ≤ 600000; omega, by show 667766 + Sh h + sl + 0 ≤ 7302250; omega⟩ (fun H2 locs2 hI2 => ?_)
  refine W_cs (c1 := h2.length) (s1 := 667766 + Sh h2) (by show h2.length = h.length + cs + 0; omega) (by show 667766 + Sh h2 = 667766 + Sh h + sl + 0; omega) ?_
  refine W.eq (g2 := F0 m 289 ls (.int v' :: [])) rfl ?_
  refine lv_pop hx hb (show decode code 289 = .ok (.pop, 1) by decide +kernel) rfl ?_
  refine lv_goto (tgt := 424) hx hb (show decode code 290 = .ok (.goto 134, 3) by decide +kernel) (by decide) ?_
  exact kk H2 locs2 h2 s' hI2 hS2
theorem lx_calls {x3 : Int32} {Q : State → Prop} (C0 : lw_At p s m meth c b L xs) (hG : xG s.heap.size aS D cT s) (hcl : xCallsOK xsg l s.heap.size aS D cT 1514 (yex 1514)) (hv : lx_in x3 L) (hI : xI s.heap.size aS D cT s H locs h) (hS : LSr h sg) (hl : lv_has ls 4 [(0, .ref b), (1, .ref (s.heap.size + 0)), (2, .ref (s.heap.size + 213)), (3, .int x3)]) (kk : ∀ (H1 : Heap) (locs1 : List Loc) (h1 : xH) (sg1 : yS), xI s.heap.size aS D cT s H1 locs1 h1 → LSr h1 sg1 → W p l e room_1 s m #[Value.ref b] below meth c H1 locs1 h1.length (667766 + Sh h1) Q (F0 m 424 ls [])) : W p l e room_1 s m #[Value.ref b] below meth c H locs h.length (667766 + Sh h) Q (F0 m 293 ls []) := by
  obtain ⟨hx, hb, hr, hml, hown, hts0, hX, hbl, hlocks, hgv⟩ := id C0
  have hts : ∀ w ∈ xT, w.before #[Value.ref b] s = true := fun w hw => hts0 w (List.mem_filter.mp hw).1
  have hbA : ¬ xA s.heap.size b := Nat.not_le.mpr hbl
  obtain ⟨fs0, h0⟩ := LSr_0 hS
  obtain ⟨v, v', h1, h2, cs, sl, s', fs, r1, hq, r2, hS2, l2, w2, hvv⟩ := Y_calls hS
  have hrm := LSr_rm hS2
  refine lv_aload_n hx hb (show decode code 293 = .ok (.aload_n 1, 1) by decide +kernel) rfl (lv_at hl 1 rfl) ?_
  refine lx_callV (As := []) (rest := []) (M' := xm_144) hx hb hml hown hts hG hcl rfl (rfl : vwCl[11]? = some (RX11, TX11, 13)) (show decode code 294 = .ok (.invokevirtual 38, 3) by decide +kernel) xn_144 (xT_c5 163 rfl rfl) (xT_c5 164 rfl rfl) (xT_c5 162 rfl rfl) hI h0 r1 rfl hl.1 (by simp [Value.category]) ⟨by show h.length + cs ≤ 600000; omega, by show 667766 + Sh h + sl ≤ 7302250; omega⟩ (fun H1 locs1 hI1 => ?_)
  refine W.eq (g2 := F0 m 297 ls [.int v]) rfl ?_
  refine lv_pop hx hb (show decode code 297 = .ok (.pop, 1) by decide +kernel) rfl ?_
  refine lv_aload_n hx hb (show decode code 298 = .ok (.aload_n 2, 1) by decide +kernel) rfl (lv_at hl 2 rfl) ?_
  refine lx_callV (As := []) (rest := []) (M' := xm_249) hx hb hml hown hts hG hcl rfl (rfl : vwCl[12]? = some (RX12, TX12, 125)) (show decode code 299 = .ok (.invokevirtual 41, 3) by decide +kernel) xn_249 (xT_c9 98 rfl rfl) (xT_c9 99 rfl rfl) (xT_c9 97 rfl rfl) hI1 hq r2 rfl hl.1 (by simp [Value.category]) ⟨by show h.length + cs + 0 ≤ 600000; omega, by show 667766 + Sh h + sl + 0 ≤ 7302250; omega⟩ (fun H2 locs2 hI2 => ?_)
  refine W_cs (c1 := h2.length) (s1 := 667766 + Sh h2) (by show h2.length = h.length + cs + 0; omega) (by show 667766 + Sh h2 = 667766 + Sh h + sl + 0; omega) ?_
  refine W.eq (g2 := F0 m 302 ls (.int v' :: [])) rfl ?_
  refine lv_pop hx hb (show decode code 302 = .ok (.pop, 1) by decide +kernel) rfl ?_
  refine lv_goto (tgt := 424) hx hb (show decode code 303 = .ok (.goto 121, 3) by decide +kernel) (by decide) ?_
  exact kk H2 locs2 h2 s' hI2 hS2
theorem lx_instances {x3 : Int32} {Q : State → Prop} (C0 : lw_At p s m meth c b L xs) (hG : xG s.heap.size aS D cT s) (hcl : xCallsOK xsg l s.heap.size aS D cT 1514 (yex 1514)) (hv : lx_in x3 L) (hI : xI s.heap.size aS D cT s H locs h) (hS : LSr h sg) (hl : lv_has ls 4 [(0, .ref b), (1, .ref (s.heap.size + 0)), (2, .ref (s.heap.size + 213)), (3, .int x3)]) (kk : ∀ (H1 : Heap) (locs1 : List Loc) (h1 : xH) (sg1 : yS), xI s.heap.size aS D cT s H1 locs1 h1 → LSr h1 sg1 → W p l e room_1 s m #[Value.ref b] below meth c H1 locs1 h1.length (667766 + Sh h1) Q (F0 m 424 ls [])) : W p l e room_1 s m #[Value.ref b] below meth c H locs h.length (667766 + Sh h) Q (F0 m 306 ls []) := by
  obtain ⟨hx, hb, hr, hml, hown, hts0, hX, hbl, hlocks, hgv⟩ := id C0
  have hts : ∀ w ∈ xT, w.before #[Value.ref b] s = true := fun w hw => hts0 w (List.mem_filter.mp hw).1
  have hbA : ¬ xA s.heap.size b := Nat.not_le.mpr hbl
  obtain ⟨fs0, h0⟩ := LSr_0 hS
  obtain ⟨v, v', h1, h2, cs, sl, s', fs, r1, hq, r2, hS2, l2, w2, hvv⟩ := Y_instances hS
  have hrm := LSr_rm hS2
  refine lv_aload_n hx hb (show decode code 306 = .ok (.aload_n 1, 1) by decide +kernel) rfl (lv_at hl 1 rfl) ?_
  refine lx_callV (As := []) (rest := []) (M' := xm_145) hx hb hml hown hts hG hcl rfl (rfl : vwCl[11]? = some (RX11, TX11, 13)) (show decode code 307 = .ok (.invokevirtual 42, 3) by decide +kernel) xn_145 (xT_c5 167 rfl rfl) (xT_c5 168 rfl rfl) (xT_c5 166 rfl rfl) hI h0 r1 rfl hl.1 (by simp [Value.category]) ⟨by show h.length + cs ≤ 600000; omega, by show 667766 + Sh h + sl ≤ 7302250; omega⟩ (fun H1 locs1 hI1 => ?_)
  refine W.eq (g2 := F0 m 310 ls [.int v]) rfl ?_
  refine lv_pop hx hb (show decode code 310 = .ok (.pop, 1) by decide +kernel) rfl ?_
  refine lv_aload_n hx hb (show decode code 311 = .ok (.aload_n 2, 1) by decide +kernel) rfl (lv_at hl 2 rfl) ?_
  refine lx_callV (As := []) (rest := []) (M' := xm_257) hx hb hml hown hts hG hcl rfl (rfl : vwCl[12]? = some (RX12, TX12, 125)) (show decode code 312 = .ok (.invokevirtual 45, 3) by decide +kernel) xn_257 (xT_c9 102 rfl rfl) (xT_c9 103 rfl rfl) (xT_c9 101 rfl rfl) hI1 hq r2 rfl hl.1 (by simp [Value.category]) ⟨by show h.length + cs + 0 ≤ 600000; omega, by show 667766 + Sh h + sl + 0 ≤ 7302250; omega⟩ (fun H2 locs2 hI2 => ?_)
  refine W_cs (c1 := h2.length) (s1 := 667766 + Sh h2) (by show h2.length = h.length + cs + 0; omega) (by show 667766 + Sh h2 = 667766 + Sh h + sl + 0; omega) ?_
  refine W.eq (g2 := F0 m 315 ls (.int v' :: [])) rfl ?_
  refine lv_pop hx hb (show decode code 315 = .ok (.pop, 1) by decide +kernel) rfl ?_
  refine lv_goto (tgt := 424) hx hb (show decode code 316 = .ok (.goto 108, 3) by decide +kernel) (by decide) ?_
  exact kk H2 locs2 h2 s' hI2 hS2
theorem lx_made {x3 : Int32} {Q : State → Prop} (C0 : lw_At p s m meth c b L xs) (hG : xG s.heap.size aS D cT s) (hcl : xCallsOK xsg l s.heap.size aS D cT 1514 (yex 1514)) (hv : lx_in x3 L) (hI : xI s.heap.size aS D cT s H locs h) (hS : LSr h sg) (hl : lv_has ls 4 [(0, .ref b), (1, .ref (s.heap.size + 0)), (2, .ref (s.heap.size + 213)), (3, .int x3)]) (kk : ∀ (H1 : Heap) (locs1 : List Loc) (h1 : xH) (sg1 : yS), xI s.heap.size aS D cT s H1 locs1 h1 → LSr h1 sg1 → W p l e room_1 s m #[Value.ref b] below meth c H1 locs1 h1.length (667766 + Sh h1) Q (F0 m 424 ls [])) : W p l e room_1 s m #[Value.ref b] below meth c H locs h.length (667766 + Sh h) Q (F0 m 319 ls []) := by
  obtain ⟨hx, hb, hr, hml, hown, hts0, hX, hbl, hlocks, hgv⟩ := id C0
  have hts : ∀ w ∈ xT, w.before #[Value.ref b] s = true := fun w hw => hts0 w (List.mem_filter.mp hw).1
  have hbA : ¬ xA s.heap.size b := Nat.not_le.mpr hbl
  obtain ⟨fs0, h0⟩ := LSr_0 hS
  obtain ⟨v, v', h1, h2, cs, sl, s', fs, r1, hq, r2, hS2, l2, w2, hvv⟩ := Y_made hS (xs (x3 + 1).toNatClampNeg)
  have hrm := LSr_rm hS2
  refine lv_aload_n hx hb (show decode code 319 = .ok (.aload_n 1, 1) by decide +kernel) rfl (lv_at hl 1 rfl) ?_
  refine lv_aload_n hx hb (show decode code 320 = .ok (.aload_n 0, 1) by decide +kernel) rfl (lv_at hl 0 rfl) ?_
  refine lv_iload_n hx hb (show decode code 321 = .ok (.iload_n 3, 1) by decide +kernel) rfl (lv_at hl 3 rfl) ?_
  refine lv_iconst (v := 1) hx hb (show decode code 322 = .ok (.iconst 1, 1) by decide +kernel) (by decide) ?_
  refine lv_iadd hx hb (show decode code 323 = .ok (.iadd, 1) by decide +kernel) ?_
  refine va_sld (i := x3 + 1) hx hb hX hbl hbA hI.2.2.2 hv.1 (show decode code 324 = .ok (.iaload, 1) by decide +kernel) ?_
  refine lx_callV (As := [.int (xs (x3 + 1).toNatClampNeg)]) (rest := []) (M' := xm_146) hx hb hml hown hts hG hcl rfl (rfl : vwCl[11]? = some (RX11, TX11, 13)) (show decode code 325 = .ok (.invokevirtual 46, 3) by decide +kernel) xn_146 (xT_c6 0 rfl rfl) (xT_c6 1 rfl rfl) (xT_c6 5 rfl rfl) hI h0 r1 rfl hl.1 (by simp [Value.category]) ⟨by show h.length + cs ≤ 600000; omega, by show 667766 + Sh h + sl ≤ 7302250; omega⟩ (fun H1 locs1 hI1 => ?_)
  refine W.eq (g2 := F0 m 328 ls [.int v]) rfl ?_
  refine lv_aload_n hx hb (show decode code 328 = .ok (.aload_n 2, 1) by decide +kernel) rfl (lv_at hl 2 rfl) ?_
  refine lv_aload_n hx hb (show decode code 329 = .ok (.aload_n 0, 1) by decide +kernel) rfl (lv_at hl 0 rfl) ?_
  refine lv_iload_n hx hb (show decode code 330 = .ok (.iload_n 3, 1) by decide +kernel) rfl (lv_at hl 3 rfl) ?_
  refine lv_iconst (v := 1) hx hb (show decode code 331 = .ok (.iconst 1, 1) by decide +kernel) (by decide) ?_
  refine lv_iadd hx hb (show decode code 332 = .ok (.iadd, 1) by decide +kernel) ?_
  refine va_sld (i := x3 + 1) hx hb hX hbl hbA hI1.2.2.2 hv.1 (show decode code 333 = .ok (.iaload, 1) by decide +kernel) ?_
  refine lx_callV (As := [.int (xs (x3 + 1).toNatClampNeg)]) (rest := [.int v]) (M' := xm_259) hx hb hml hown hts hG hcl rfl (rfl : vwCl[12]? = some (RX12, TX12, 125)) (show decode code 334 = .ok (.invokevirtual 49, 3) by decide +kernel) xn_259 (xT_c9 138 rfl rfl) (xT_c9 139 rfl rfl) (xT_c9 137 rfl rfl) hI1 hq r2 rfl hl.1 (by simp [Value.category]) ⟨by show h.length + cs + 0 ≤ 600000; omega, by show 667766 + Sh h + sl + 0 ≤ 7302250; omega⟩ (fun H2 locs2 hI2 => ?_)
  refine W_cs (c1 := h2.length) (s1 := 667766 + Sh h2) (by show h2.length = h.length + cs + 0; omega) (by show 667766 + Sh h2 = 667766 + Sh h + sl + 0; omega) ?_
  refine W.eq (g2 := F0 m 337 ls (.int v' :: [.int v])) rfl ?_
  refine lv_icmp_eq (tgt := 424) hx hb (show decode code 337 = .ok (.if_icmp .eq 87, 3) by decide +kernel) (by decide) (fun _ => ?_) (fun hne => absurd (hvv trivial) hne)
  exact kk H2 locs2 h2 s' hI2 hS2
theorem lx_isMade {x3 : Int32} {Q : State → Prop} (C0 : lw_At p s m meth c b L xs) (hG : xG s.heap.size aS D cT s) (hcl : xCallsOK xsg l s.heap.size aS D cT 1514 (yex 1514)) (hv : lx_in x3 L) (hI : xI s.heap.size aS D cT s H locs h) (hS : LSr h sg) (hl : lv_has ls 4 [(0, .ref b), (1, .ref (s.heap.size + 0)), (2, .ref (s.heap.size + 213)), (3, .int x3)]) (kk : ∀ (H1 : Heap) (locs1 : List Loc) (h1 : xH) (sg1 : yS), xI s.heap.size aS D cT s H1 locs1 h1 → LSr h1 sg1 → W p l e room_1 s m #[Value.ref b] below meth c H1 locs1 h1.length (667766 + Sh h1) Q (F0 m 424 ls [])) : W p l e room_1 s m #[Value.ref b] below meth c H locs h.length (667766 + Sh h) Q (F0 m 342 ls []) := by
  obtain ⟨hx, hb, hr, hml, hown, hts0, hX, hbl, hlocks, hgv⟩ := id C0
  have hts : ∀ w ∈ xT, w.before #[Value.ref b] s = true := fun w hw => hts0 w (List.mem_filter.mp hw).1
  have hbA : ¬ xA s.heap.size b := Nat.not_le.mpr hbl
  obtain ⟨fs0, h0⟩ := LSr_0 hS
  obtain ⟨v, v', h1, h2, cs, sl, s', fs, r1, hq, r2, hS2, l2, w2, hvv⟩ := Y_isMade hS
  have hrm := LSr_rm hS2
  refine lv_aload_n hx hb (show decode code 342 = .ok (.aload_n 1, 1) by decide +kernel) rfl (lv_at hl 1 rfl) ?_
  refine lx_callV (As := []) (rest := []) (M' := xm_147) hx hb hml hown hts hG hcl rfl (rfl : vwCl[11]? = some (RX11, TX11, 13)) (show decode code 343 = .ok (.invokevirtual 50, 3) by decide +kernel) xn_147 (xT_c6 7 rfl rfl) (xT_c6 8 rfl rfl) (xT_c6 6 rfl rfl) hI h0 r1 rfl hl.1 (by simp [Value.category]) ⟨by show h.length + cs ≤ 600000; omega, by show 667766 + Sh h + sl ≤ 7302250; omega⟩ (fun H1 locs1 hI1 => ?_)
  refine W.eq (g2 := F0 m 346 ls [.int v]) rfl ?_
  refine lv_pop hx hb (show decode code 346 = .ok (.pop, 1) by decide +kernel) rfl ?_
  refine lv_aload_n hx hb (show decode code 347 = .ok (.aload_n 2, 1) by decide +kernel) rfl (lv_at hl 2 rfl) ?_
  refine lx_callV (As := []) (rest := []) (M' := xm_260) hx hb hml hown hts hG hcl rfl (rfl : vwCl[12]? = some (RX12, TX12, 125)) (show decode code 348 = .ok (.invokevirtual 53, 3) by decide +kernel) xn_260 (xT_c9 142 rfl rfl) (xT_c9 143 rfl rfl) (xT_c9 141 rfl rfl) hI1 hq r2 rfl hl.1 (by simp [Value.category]) ⟨by show h.length + cs + 0 ≤ 600000; omega, by show 667766 + Sh h + sl + 0 ≤ 7302250; omega⟩ (fun H2 locs2 hI2 => ?_)
  refine W_cs (c1 := h2.length) (s1 := 667766 + Sh h2) (by show h2.length = h.length + cs + 0; omega) (by show 667766 + Sh h2 = 667766 + Sh h + sl + 0; omega) ?_
  refine W.eq (g2 := F0 m 351 ls (.int v' :: [])) rfl ?_
  refine lv_pop hx hb (show decode code 351 = .ok (.pop, 1) by decide +kernel) rfl ?_
  refine lv_goto (tgt := 424) hx hb (show decode code 352 = .ok (.goto 72, 3) by decide +kernel) (by decide) ?_
  exact kk H2 locs2 h2 s' hI2 hS2
theorem lx_print {x3 : Int32} {Q : State → Prop} (C0 : lw_At p s m meth c b L xs) (hG : xG s.heap.size aS D cT s) (hcl : xCallsOK xsg l s.heap.size aS D cT 1514 (yex 1514)) (hv : lx_in x3 L) (hI : xI s.heap.size aS D cT s H locs h) (hS : LSr h sg) (hl : lv_has ls 4 [(0, .ref b), (1, .ref (s.heap.size + 0)), (2, .ref (s.heap.size + 213)), (3, .int x3)]) (kk : ∀ (H1 : Heap) (locs1 : List Loc) (h1 : xH) (sg1 : yS), xI s.heap.size aS D cT s H1 locs1 h1 → LSr h1 sg1 → W p l e room_1 s m #[Value.ref b] below meth c H1 locs1 h1.length (667766 + Sh h1) Q (F0 m 424 ls [])) : W p l e room_1 s m #[Value.ref b] below meth c H locs h.length (667766 + Sh h) Q (F0 m 355 ls []) := by
  obtain ⟨hx, hb, hr, hml, hown, hts0, hX, hbl, hlocks, hgv⟩ := id C0
  have hts : ∀ w ∈ xT, w.before #[Value.ref b] s = true := fun w hw => hts0 w (List.mem_filter.mp hw).1
  have hbA : ¬ xA s.heap.size b := Nat.not_le.mpr hbl
  obtain ⟨fs0, h0⟩ := LSr_0 hS
  obtain ⟨v, v', h1, h2, cs, sl, s', fs, r1, hq, r2, hS2, l2, w2, hvv⟩ := Y_print hS (xs (x3 + 1).toNatClampNeg)
  have hrm := LSr_rm hS2
  refine lv_aload_n hx hb (show decode code 355 = .ok (.aload_n 1, 1) by decide +kernel) rfl (lv_at hl 1 rfl) ?_
  refine lv_aload_n hx hb (show decode code 356 = .ok (.aload_n 0, 1) by decide +kernel) rfl (lv_at hl 0 rfl) ?_
  refine lv_iload_n hx hb (show decode code 357 = .ok (.iload_n 3, 1) by decide +kernel) rfl (lv_at hl 3 rfl) ?_
  refine lv_iconst (v := 1) hx hb (show decode code 358 = .ok (.iconst 1, 1) by decide +kernel) (by decide) ?_
  refine lv_iadd hx hb (show decode code 359 = .ok (.iadd, 1) by decide +kernel) ?_
  refine va_sld (i := x3 + 1) hx hb hX hbl hbA hI.2.2.2 hv.1 (show decode code 360 = .ok (.iaload, 1) by decide +kernel) ?_
  refine lx_callV (As := [.int (xs (x3 + 1).toNatClampNeg)]) (rest := []) (M' := xm_148) hx hb hml hown hts hG hcl rfl (rfl : vwCl[11]? = some (RX11, TX11, 13)) (show decode code 361 = .ok (.invokevirtual 54, 3) by decide +kernel) xn_148 (xT_c6 12 rfl rfl) (xT_c6 13 rfl rfl) (xT_c6 11 rfl rfl) hI h0 r1 rfl hl.1 (by simp [Value.category]) ⟨by show h.length + cs ≤ 600000; omega, by show 667766 + Sh h + sl ≤ 7302250; omega⟩ (fun H1 locs1 hI1 => ?_)
  refine W.eq (g2 := F0 m 364 ls [.int v]) rfl ?_
  refine lv_pop hx hb (show decode code 364 = .ok (.pop, 1) by decide +kernel) rfl ?_
  refine lv_aload_n hx hb (show decode code 365 = .ok (.aload_n 2, 1) by decide +kernel) rfl (lv_at hl 2 rfl) ?_
  refine lv_aload_n hx hb (show decode code 366 = .ok (.aload_n 0, 1) by decide +kernel) rfl (lv_at hl 0 rfl) ?_
  refine lv_iload_n hx hb (show decode code 367 = .ok (.iload_n 3, 1) by decide +kernel) rfl (lv_at hl 3 rfl) ?_
  refine lv_iconst (v := 1) hx hb (show decode code 368 = .ok (.iconst 1, 1) by decide +kernel) (by decide) ?_
  refine lv_iadd hx hb (show decode code 369 = .ok (.iadd, 1) by decide +kernel) ?_
  refine va_sld (i := x3 + 1) hx hb hX hbl hbA hI1.2.2.2 hv.1 (show decode code 370 = .ok (.iaload, 1) by decide +kernel) ?_
  refine lx_callV (As := [.int (xs (x3 + 1).toNatClampNeg)]) (rest := []) (M' := xm_268) hx hb hml hown hts hG hcl rfl (rfl : vwCl[12]? = some (RX12, TX12, 125)) (show decode code 371 = .ok (.invokevirtual 57, 3) by decide +kernel) xn_268 (xT_c9 146 rfl rfl) (xT_c9 147 rfl rfl) (xT_c9 145 rfl rfl) hI1 hq r2 rfl hl.1 (by simp [Value.category]) ⟨by show h.length + cs + 0 ≤ 600000; omega, by show 667766 + Sh h + sl + 0 ≤ 7302250; omega⟩ (fun H2 locs2 hI2 => ?_)
  refine W_cs (c1 := h2.length) (s1 := 667766 + Sh h2) (by show h2.length = h.length + cs + 0; omega) (by show 667766 + Sh h2 = 667766 + Sh h + sl + 0; omega) ?_
  refine W.eq (g2 := F0 m 374 ls (.int v' :: [])) rfl ?_
  refine lv_pop hx hb (show decode code 374 = .ok (.pop, 1) by decide +kernel) rfl ?_
  refine lv_goto (tgt := 424) hx hb (show decode code 375 = .ok (.goto 49, 3) by decide +kernel) (by decide) ?_
  exact kk H2 locs2 h2 s' hI2 hS2
theorem lx_out {x3 : Int32} {Q : State → Prop} (C0 : lw_At p s m meth c b L xs) (hG : xG s.heap.size aS D cT s) (hcl : xCallsOK xsg l s.heap.size aS D cT 1514 (yex 1514)) (hv : lx_in x3 L) (hI : xI s.heap.size aS D cT s H locs h) (hS : LSr h sg) (hl : lv_has ls 4 [(0, .ref b), (1, .ref (s.heap.size + 0)), (2, .ref (s.heap.size + 213)), (3, .int x3)]) (kk : ∀ (H1 : Heap) (locs1 : List Loc) (h1 : xH) (sg1 : yS), xI s.heap.size aS D cT s H1 locs1 h1 → LSr h1 sg1 → W p l e room_1 s m #[Value.ref b] below meth c H1 locs1 h1.length (667766 + Sh h1) Q (F0 m 424 ls [])) : W p l e room_1 s m #[Value.ref b] below meth c H locs h.length (667766 + Sh h) Q (F0 m 378 ls []) := by
  obtain ⟨hx, hb, hr, hml, hown, hts0, hX, hbl, hlocks, hgv⟩ := id C0
  have hts : ∀ w ∈ xT, w.before #[Value.ref b] s = true := fun w hw => hts0 w (List.mem_filter.mp hw).1
  have hbA : ¬ xA s.heap.size b := Nat.not_le.mpr hbl
  obtain ⟨fs0, h0⟩ := LSr_0 hS
  obtain ⟨v, v', h1, h2, cs, sl, s', fs, r1, hq, r2, hS2, l2, w2, hvv⟩ := Y_out hS (xs (x3 + 1).toNatClampNeg)
  have hrm := LSr_rm hS2
  refine lv_aload_n hx hb (show decode code 378 = .ok (.aload_n 1, 1) by decide +kernel) rfl (lv_at hl 1 rfl) ?_
  refine lv_aload_n hx hb (show decode code 379 = .ok (.aload_n 0, 1) by decide +kernel) rfl (lv_at hl 0 rfl) ?_
  refine lv_iload_n hx hb (show decode code 380 = .ok (.iload_n 3, 1) by decide +kernel) rfl (lv_at hl 3 rfl) ?_
  refine lv_iconst (v := 1) hx hb (show decode code 381 = .ok (.iconst 1, 1) by decide +kernel) (by decide) ?_
  refine lv_iadd hx hb (show decode code 382 = .ok (.iadd, 1) by decide +kernel) ?_
  refine va_sld (i := x3 + 1) hx hb hX hbl hbA hI.2.2.2 hv.1 (show decode code 383 = .ok (.iaload, 1) by decide +kernel) ?_
  refine lx_callV (As := [.int (xs (x3 + 1).toNatClampNeg)]) (rest := []) (M' := xm_149) hx hb hml hown hts hG hcl rfl (rfl : vwCl[11]? = some (RX11, TX11, 13)) (show decode code 384 = .ok (.invokevirtual 58, 3) by decide +kernel) xn_149 (xT_c6 42 rfl rfl) (xT_c6 43 rfl rfl) (xT_c6 41 rfl rfl) hI h0 r1 rfl hl.1 (by simp [Value.category]) ⟨by show h.length + cs ≤ 600000; omega, by show 667766 + Sh h + sl ≤ 7302250; omega⟩ (fun H1 locs1 hI1 => ?_)
  refine W.eq (g2 := F0 m 387 ls [.int v]) rfl ?_
  refine lv_pop hx hb (show decode code 387 = .ok (.pop, 1) by decide +kernel) rfl ?_
  refine lv_aload_n hx hb (show decode code 388 = .ok (.aload_n 2, 1) by decide +kernel) rfl (lv_at hl 2 rfl) ?_
  refine lv_aload_n hx hb (show decode code 389 = .ok (.aload_n 0, 1) by decide +kernel) rfl (lv_at hl 0 rfl) ?_
  refine lv_iload_n hx hb (show decode code 390 = .ok (.iload_n 3, 1) by decide +kernel) rfl (lv_at hl 3 rfl) ?_
  refine lv_iconst (v := 1) hx hb (show decode code 391 = .ok (.iconst 1, 1) by decide +kernel) (by decide) ?_
  refine lv_iadd hx hb (show decode code 392 = .ok (.iadd, 1) by decide +kernel) ?_
  refine va_sld (i := x3 + 1) hx hb hX hbl hbA hI1.2.2.2 hv.1 (show decode code 393 = .ok (.iaload, 1) by decide +kernel) ?_
  refine lx_callV (As := [.int (xs (x3 + 1).toNatClampNeg)]) (rest := []) (M' := xm_269) hx hb hml hown hts hG hcl rfl (rfl : vwCl[12]? = some (RX12, TX12, 125)) (show decode code 394 = .ok (.invokevirtual 61, 3) by decide +kernel) xn_269 (xT_c9 177 rfl rfl) (xT_c9 178 rfl rfl) (xT_c9 176 rfl rfl) hI1 hq r2 rfl hl.1 (by simp [Value.category]) ⟨by show h.length + cs + 0 ≤ 600000; omega, by show 667766 + Sh h + sl + 0 ≤ 7302250; omega⟩ (fun H2 locs2 hI2 => ?_)
  refine W_cs (c1 := h2.length) (s1 := 667766 + Sh h2) (by show h2.length = h.length + cs + 0; omega) (by show 667766 + Sh h2 = 667766 + Sh h + sl + 0; omega) ?_
  refine W.eq (g2 := F0 m 397 ls (.int v' :: [])) rfl ?_
  refine lv_pop hx hb (show decode code 397 = .ok (.pop, 1) by decide +kernel) rfl ?_
  refine lv_goto (tgt := 424) hx hb (show decode code 398 = .ok (.goto 26, 3) by decide +kernel) (by decide) ?_
  exact kk H2 locs2 h2 s' hI2 hS2
theorem lx_count {x3 : Int32} {Q : State → Prop} (C0 : lw_At p s m meth c b L xs) (hG : xG s.heap.size aS D cT s) (hcl : xCallsOK xsg l s.heap.size aS D cT 1514 (yex 1514)) (hv : lx_in x3 L) (hI : xI s.heap.size aS D cT s H locs h) (hS : LSr h sg) (hl : lv_has ls 4 [(0, .ref b), (1, .ref (s.heap.size + 0)), (2, .ref (s.heap.size + 213)), (3, .int x3)]) (kk : ∀ (H1 : Heap) (locs1 : List Loc) (h1 : xH) (sg1 : yS), xI s.heap.size aS D cT s H1 locs1 h1 → LSr h1 sg1 → W p l e room_1 s m #[Value.ref b] below meth c H1 locs1 h1.length (667766 + Sh h1) Q (F0 m 424 ls [])) : W p l e room_1 s m #[Value.ref b] below meth c H locs h.length (667766 + Sh h) Q (F0 m 401 ls []) := by
  obtain ⟨hx, hb, hr, hml, hown, hts0, hX, hbl, hlocks, hgv⟩ := id C0
  have hts : ∀ w ∈ xT, w.before #[Value.ref b] s = true := fun w hw => hts0 w (List.mem_filter.mp hw).1
  have hbA : ¬ xA s.heap.size b := Nat.not_le.mpr hbl
  obtain ⟨fs0, h0⟩ := LSr_0 hS
  obtain ⟨v, v', h1, h2, cs, sl, s', fs, r1, hq, r2, hS2, l2, w2, hvv⟩ := Y_count hS (xs (x3 + 1).toNatClampNeg)
  have hrm := LSr_rm hS2
  refine lv_aload_n hx hb (show decode code 401 = .ok (.aload_n 1, 1) by decide +kernel) rfl (lv_at hl 1 rfl) ?_
  refine lv_aload_n hx hb (show decode code 402 = .ok (.aload_n 0, 1) by decide +kernel) rfl (lv_at hl 0 rfl) ?_
  refine lv_iload_n hx hb (show decode code 403 = .ok (.iload_n 3, 1) by decide +kernel) rfl (lv_at hl 3 rfl) ?_
  refine lv_iconst (v := 1) hx hb (show decode code 404 = .ok (.iconst 1, 1) by decide +kernel) (by decide) ?_
  refine lv_iadd hx hb (show decode code 405 = .ok (.iadd, 1) by decide +kernel) ?_
  refine va_sld (i := x3 + 1) hx hb hX hbl hbA hI.2.2.2 hv.1 (show decode code 406 = .ok (.iaload, 1) by decide +kernel) ?_
  refine lx_callV (As := [.int (xs (x3 + 1).toNatClampNeg)]) (rest := []) (M' := xm_150) hx hb hml hown hts hG hcl rfl (rfl : vwCl[11]? = some (RX11, TX11, 13)) (show decode code 407 = .ok (.invokevirtual 62, 3) by decide +kernel) xn_150 (xT_c6 47 rfl rfl) (xT_c6 48 rfl rfl) (xT_c6 46 rfl rfl) hI h0 r1 rfl hl.1 (by simp [Value.category]) ⟨by show h.length + cs ≤ 600000; omega, by show 667766 + Sh h + sl ≤ 7302250; omega⟩ (fun H1 locs1 hI1 => ?_)
  refine W.eq (g2 := F0 m 410 ls [.int v]) rfl ?_
  refine lv_pop hx hb (show decode code 410 = .ok (.pop, 1) by decide +kernel) rfl ?_
  refine lv_aload_n hx hb (show decode code 411 = .ok (.aload_n 2, 1) by decide +kernel) rfl (lv_at hl 2 rfl) ?_
  refine lv_aload_n hx hb (show decode code 412 = .ok (.aload_n 0, 1) by decide +kernel) rfl (lv_at hl 0 rfl) ?_
  refine lv_iload_n hx hb (show decode code 413 = .ok (.iload_n 3, 1) by decide +kernel) rfl (lv_at hl 3 rfl) ?_
  refine lv_iconst (v := 1) hx hb (show decode code 414 = .ok (.iconst 1, 1) by decide +kernel) (by decide) ?_
  refine lv_iadd hx hb (show decode code 415 = .ok (.iadd, 1) by decide +kernel) ?_
  refine va_sld (i := x3 + 1) hx hb hX hbl hbA hI1.2.2.2 hv.1 (show decode code 416 = .ok (.iaload, 1) by decide +kernel) ?_
  refine lx_callV (As := [.int (xs (x3 + 1).toNatClampNeg)]) (rest := []) (M' := xm_270) hx hb hml hown hts hG hcl rfl (rfl : vwCl[12]? = some (RX12, TX12, 125)) (show decode code 417 = .ok (.invokevirtual 65, 3) by decide +kernel) xn_270 (xT_c9 181 rfl rfl) (xT_c9 182 rfl rfl) (xT_c9 180 rfl rfl) hI1 hq r2 rfl hl.1 (by simp [Value.category]) ⟨by show h.length + cs + 0 ≤ 600000; omega, by show 667766 + Sh h + sl + 0 ≤ 7302250; omega⟩ (fun H2 locs2 hI2 => ?_)
  refine W_cs (c1 := h2.length) (s1 := 667766 + Sh h2) (by show h2.length = h.length + cs + 0; omega) (by show 667766 + Sh h2 = 667766 + Sh h + sl + 0; omega) ?_
  refine W.eq (g2 := F0 m 420 ls (.int v' :: [])) rfl ?_
  refine lv_pop hx hb (show decode code 420 = .ok (.pop, 1) by decide +kernel) rfl ?_
  refine lv_goto (tgt := 424) hx hb (show decode code 421 = .ok (.goto 3, 3) by decide +kernel) (by decide) ?_
  exact kk H2 locs2 h2 s' hI2 hS2
end LY
