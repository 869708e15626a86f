/-! ===== the law from its entry ===== -/
theorem ln_le {n : Nat} (h : n ≤ 10000) : (nI n).toInt = (n : Int) := nI_toInt (by omega)
theorem lx_in_of {n L : Nat} (h : n + 7 ≤ L) (hL : L ≤ 3584) : lx_in (nI n) L := by
  have key : ∀ (k : Nat) (y : Int32), k ≤ 6 → y.toInt = (k : Int) → vp_in (nI n + y) L := by
    intro k y hk hy
    have e1 := ln_le (n := n) (by omega)
    have e2 : (nI n + y).toInt = (n : Int) + (k : Int) := by
      rw [Int32.toInt_add, e1, hy, i_bm (by omega)]
    unfold vp_in
    rintro (w | w)
    · rw [Int32.lt_iff_toInt_lt] at w
      have : (0 : Int32).toInt = 0 := by decide
      omega
    · have : (nI n + y).toNatClampNeg = n + k := by
        show (nI n + y).toInt.toNat = n + k
        omega
      omega
  exact ⟨key 1 1 (by decide) (by decide), key 2 2 (by decide) (by decide), key 3 3 (by decide) (by decide), key 4 4 (by decide) (by decide), key 5 5 (by decide) (by decide), key 6 6 (by decide) (by decide)⟩
theorem lx_in0 {n L : Nat} (h : n + 7 ≤ L) (hL : L ≤ 3584) : vp_in (nI n) L := by
  have e1 := ln_le (n := n) (by omega)
  unfold vp_in
  rintro (w | w)
  · rw [Int32.lt_iff_toInt_lt] at w
    have : (0 : Int32).toInt = 0 := by decide
    omega
  · have : (nI n).toNatClampNeg = n := by
      show (nI n).toInt.toNat = n
      omega
    omega
theorem lx_cmp {n L : Nat} (hn : n ≤ 10000) (hL : L ≤ 3584) : Int32.ofNat L - 7 < nI n ↔ L < n + 7 := by
  have e1 := ln_le hn
  have e2 : (Int32.ofNat L).toInt = (L : Int) := ln_le (n := L) (by omega)
  have e3 : (Int32.ofNat L - 7).toInt = (L : Int) - 7 := by
    rw [Int32.toInt_sub, e2]
    have : (7 : Int32).toInt = 7 := by decide
    rw [this, i_bm (by omega)]
  rw [Int32.lt_iff_toInt_lt]
  omega
theorem lx_inc {n : Nat} (hn : n ≤ 10000) : nI n + Int32.ofInt 7 = nI (n + 7) := by
  have e1 := ln_le hn
  have e2 : (nI (n + 7)).toInt = ((n + 7 : Nat) : Int) := nI_toInt (by omega)
  have e3 : (Int32.ofInt 7).toInt = 7 := by decide
  apply Int32.toInt_inj.mp
  rw [Int32.toInt_add, e1, e2, e3, i_bm (by omega)]
  omega
section LZ
variable {p : Program} {l : Launch} {e : Jvm.Env} {s : State} {m : MethodId} {below : List Frame} {meth : Method} {c : Code} {H : Heap} {locs : List Loc} {cells slots : Nat} {b L : Nat} {aS : Nat → Nat} {xs : Nat → Int32} {D : va_G} {cT : Nat → ClassId} {ls : Array Slot} {h : xH} {sg : yS}
/-- the loop's end -/
theorem lx_end (C0 : lw_At p s m meth c b L xs) {x3 : Int32} (hx3 : Int32.ofNat L - 7 < x3) (hS : va_S (xA s.heap.size) s.heap H locs) (hcs : cells ≤ 600000) (hss : slots ≤ 7302250) (hl : lv_has ls 4 [(0, .ref b), (3, .int x3)]) : W p l e room_1 s m #[Value.ref b] below meth c H locs cells slots (lw_Z below #[Value.ref b] s) (F0 m 18 ls []) := by
  obtain ⟨hx, hb, hr, hml, hown, hts, hX, hbl, hlocks, hgv⟩ := C0
  have hbA : ¬ xA s.heap.size b := Nat.not_le.mpr hbl
  refine lv_iload_n hx hb (show decode code 18 = .ok (.iload_n 3, 1) by decide +kernel) rfl (lv_at hl 1 rfl) ?_
  refine lv_aload_n hx hb (show decode code 19 = .ok (.aload_n 0, 1) by decide +kernel) rfl (lv_at hl 0 rfl) ?_
  refine va_slen hx hb hX hbl hbA hS (show decode code 20 = .ok (.arraylength, 1) by decide +kernel) ?_
  refine lv_bipush (v := 7) hx hb (show decode code 21 = .ok (.bipush 7, 2) by decide +kernel) (by decide) ?_
  refine lv_isub hx hb (show decode code 23 = .ok (.isub, 1) by decide +kernel) ?_
  refine lv_icmp_gt (tgt := 430) hx hb (show decode code 24 = .ok (.if_icmp .gt 406, 3) by decide +kernel) (by decide) (fun _ => ?_) (fun h => absurd hx3 h)
  refine lv_iconst (v := 1) hx hb (show decode code 430 = .ok (.iconst 1, 1) by decide +kernel) (by decide) ?_
  refine va_forget (fun q hq => hS.2.2 q hq) ?_
  refine W.widen hcs hss ?_
  exact lw_ret hx hb hr hlocks (show decode code 431 = .ok (.ireturn, 1) by decide +kernel)
/-- the loop's head, with both objects made -/
theorem lx_head (hL : L ≤ 3584) (C0 : lw_At p s m meth c b L xs) (hG : xG s.heap.size aS D cT s) (hcl : xCallsOK xsg l s.heap.size aS D cT 1514 (yex 1514)) : ∀ (k n : Nat), n ≤ L → L < n + 7 * k + 7 → ∀ {H : Heap} {locs : List Loc} {h : xH} {sg : yS} {ls : Array Slot}, xI s.heap.size aS D cT s H locs h → LSr h sg → lv_has ls 4 [(0, .ref b), (1, .ref (s.heap.size + 0)), (2, .ref (s.heap.size + 213)), (3, .int (nI n))] → W p l e room_1 s m #[Value.ref b] below meth c H locs h.length (667766 + Sh h) (lw_Z below #[Value.ref b] s) (F0 m 18 ls []) := by
  intro k
  induction k with
  | zero =>
    intro n hn hk H locs h sg ls hI hS hl
    have hrm := LSr_rm hS
    exact lx_end C0 ((lx_cmp (by omega) hL).mpr (by omega)) hI.2.2.2 hrm.1 hrm.2 (lv_sub hl [0, 3] rfl)
  | succ k ih =>
    intro n hn hk H locs h sg ls hI hS hl
    have hrm := LSr_rm hS
    by_cases h7 : L < n + 7
    · exact lx_end C0 ((lx_cmp (by omega) hL).mpr h7) hI.2.2.2 hrm.1 hrm.2 (lv_sub hl [0, 3] rfl)
    · have h7 : n + 7 ≤ L := by omega
      obtain ⟨hx, hb, hr, hml, hown, hts0, hX, hbl, hlocks, hgv⟩ := id C0
      have hbA : ¬ xA s.heap.size b := Nat.not_le.mpr hbl
      have hv := lx_in_of h7 hL
      have fin : ∀ (H1 : Heap) (locs1 : List Loc) (h1 : xH) (sg1 : yS), xI s.heap.size aS D cT s H1 locs1 h1 → LSr h1 sg1 → W p l e room_1 s m #[Value.ref b] below meth c H1 locs1 h1.length (667766 + Sh h1) (lw_Z below #[Value.ref b] s) (F0 m 424 ls []) := fun H1 locs1 h1 sg1 hI1 hS1 => by
        refine lv_iinc (v := nI (n + 7)) (lv' := [(3, .int (nI (n + 7))), (0, .ref b), (1, .ref (s.heap.size + 0)), (2, .ref (s.heap.size + 213))]) hx hb (show decode code 424 = .ok (.iinc 3 7, 3) by decide +kernel) hl (k := 3) rfl (lx_inc (by omega)) (by decide) rfl (fun ls hl => ?_)
        refine lv_goto (tgt := 18) hx hb (show decode code 427 = .ok (.goto (-409), 3) by decide +kernel) (by decide) ?_
        exact ih (n + 7) h7 (by omega) hI1 hS1 (lv_sub hl [1, 2, 3, 0] rfl)
      refine lv_iload_n hx hb (show decode code 18 = .ok (.iload_n 3, 1) by decide +kernel) rfl (lv_at hl 3 rfl) ?_
      refine lv_aload_n hx hb (show decode code 19 = .ok (.aload_n 0, 1) by decide +kernel) rfl (lv_at hl 0 rfl) ?_
      refine va_slen hx hb hX hbl hbA hI.2.2.2 (show decode code 20 = .ok (.arraylength, 1) by decide +kernel) ?_
      refine lv_bipush (v := 7) hx hb (show decode code 21 = .ok (.bipush 7, 2) by decide +kernel) (by decide) ?_
      refine lv_isub hx hb (show decode code 23 = .ok (.isub, 1) by decide +kernel) ?_
      refine lv_icmp_gt (tgt := 430) hx hb (show decode code 24 = .ok (.if_icmp .gt 406, 3) by decide +kernel) (by decide) (fun w => absurd ((lx_cmp (by omega) hL).mp w) (by omega)) (fun _ => ?_)
      refine lv_aload_n hx hb (show decode code 27 = .ok (.aload_n 0, 1) by decide +kernel) rfl (lv_at hl 0 rfl) ?_
      refine lv_iload_n hx hb (show decode code 28 = .ok (.iload_n 3, 1) by decide +kernel) rfl (lv_at hl 3 rfl) ?_
      refine va_sld hx hb hX hbl hbA hI.2.2.2 (lx_in0 h7 hL) (show decode code 29 = .ok (.iaload, 1) by decide +kernel) ?_
      refine lv_bipush (v := 15) hx hb (show decode code 30 = .ok (.bipush 15, 2) by decide +kernel) (by decide) ?_
      refine lv_iand hx hb (show decode code 32 = .ok (.iand, 1) by decide +kernel) ?_
      obtain ⟨j, hj, ej⟩ := pk_andE (xs (nI n).toNatClampNeg) (m := 15) 4 (by decide)
      rw [ej]
      have dT : decode code 33 = .ok (.tableswitch 391 0 11 #[63, 198, 211, 224, 247, 260, 273, 286, 309, 322, 345, 368], 63) := by decide +kernel
      match j, hj with
      | 0, _ => exact lv_tableIn (tgt := 96) hx hb dT (by decide) (by decide) rfl (by decide) (lx_feed C0 hG hcl hv hI hS hl fin)
      | 1, _ => exact lv_tableIn (tgt := 231) hx hb dT (by decide) (by decide) rfl (by decide) (lx_program C0 hG hcl hv hI hS hl fin)
      | 2, _ => exact lv_tableIn (tgt := 244) hx hb dT (by decide) (by decide) rfl (by decide) (lx_implementing C0 hG hcl hv hI hS hl fin)
      | 3, _ => exact lv_tableIn (tgt := 257) hx hb dT (by decide) (by decide) rfl (by decide) (lx_run C0 hG hcl hv hI hS hl fin)
      | 4, _ => exact lv_tableIn (tgt := 280) hx hb dT (by decide) (by decide) rfl (by decide) (lx_failed C0 hG hcl hv hI hS hl fin)
      | 5, _ => exact lv_tableIn (tgt := 293) hx hb dT (by decide) (by decide) rfl (by decide) (lx_calls C0 hG hcl hv hI hS hl fin)
      | 6, _ => exact lv_tableIn (tgt := 306) hx hb dT (by decide) (by decide) rfl (by decide) (lx_instances C0 hG hcl hv hI hS hl fin)
      | 7, _ => exact lv_tableIn (tgt := 319) hx hb dT (by decide) (by decide) rfl (by decide) (lx_made C0 hG hcl hv hI hS hl fin)
      | 8, _ => exact lv_tableIn (tgt := 342) hx hb dT (by decide) (by decide) rfl (by decide) (lx_isMade C0 hG hcl hv hI hS hl fin)
      | 9, _ => exact lv_tableIn (tgt := 355) hx hb dT (by decide) (by decide) rfl (by decide) (lx_print C0 hG hcl hv hI hS hl fin)
      | 10, _ => exact lv_tableIn (tgt := 378) hx hb dT (by decide) (by decide) rfl (by decide) (lx_out C0 hG hcl hv hI hS hl fin)
      | 11, _ => exact lv_tableIn (tgt := 401) hx hb dT (by decide) (by decide) rfl (by decide) (lx_count C0 hG hcl hv hI hS hl fin)
      | 12, _ => exact lv_tableOut (tgt := 424) hx hb dT (by decide) (by decide) (fin H locs h sg hI hS)
      | 13, _ => exact lv_tableOut (tgt := 424) hx hb dT (by decide) (by decide) (fin H locs h sg hI hS)
      | 14, _ => exact lv_tableOut (tgt := 424) hx hb dT (by decide) (by decide) (fin H locs h sg hI hS)
      | 15, _ => exact lv_tableOut (tgt := 424) hx hb dT (by decide) (by decide) (fin H locs h sg hI hS)
      | j + 16, hj => exact absurd hj (by omega)
theorem whole_start {p : Program} {e : Jvm.Env} {s : State} {m : MethodId} {below : List Frame} {meth : Method} {c : Code} (l : Launch) {b L : Nat} {xs : Nat → Int32} (hL : L ≤ 3584) (C0 : lw_At p s m meth c b L xs) : W p l e room_1 s m #[Value.ref b] below meth c s.heap [] 0 0 (lw_Z below #[Value.ref b] s) (entryFrame m ([Value.ref b] : List Value).toArray 4) := by
  obtain ⟨hx, hb, hr, hml, hown, hts0, hX, hbl, hlocks, hgv⟩ := id C0
  have hts : ∀ w ∈ xT, w.before #[Value.ref b] s = true := fun w hw => hts0 w (List.mem_filter.mp hw).1
  obtain ⟨aS, D, cT, hG⟩ := xs_start hts0 hgv
  have hcl := yex_ok l s.heap.size aS D cT 1514
  have hl := lv_entry ([.ref b]) (n := 4) (Nat.le_of_ble_eq_true rfl)
  rw [lg_entry_eq]
  generalize (lg_sl ([.ref b]) ++ List.replicate (4 - (lg_sl ([.ref b])).length) Slot.unset).toArray = ls at hl ⊢
  have hl : lv_has ls 4 [(0, .ref b)] := hl
  have hI0 : xI s.heap.size aS D cT s s.heap [] [] := ⟨Nat.zero_le _, rfl, fun k q h => by simp [xw] at h, va_S.rf⟩
  have e4 := xe_4
  have e6 := xe_6
  have c1 : xr1.2.2.1 = 212 := by rw [e4]
  have s1 : xr1.2.2.2 = 54083 := by rw [e4]
  have c2 : xr2.2.2.1 = 74 := by rw [e6]
  have s2 : xr2.2.2.2 = 613545 := by rw [e6]
  have r1 : yex 1514 138 (.ref 0 :: []) ([] ++ [.inr (11, xdf11)]) = some xr1 := yr_1
  have r2 : yex 1514 153 (.ref 213 :: []) (xr1.2.1 ++ [.inr (12, xdf12)]) = some xr2 := yr_2
  refine lx_new hx hb hown hts hG (show decode code 0 = .ok (.new 7, 3) by decide +kernel) (rfl : vwCl[11]? = some (RX11, TX11, 13)) inX11 tyX11_ok xdf11_ok rfl (xT_c1 21 rfl rfl) (xT_c1 22 rfl rfl) (xT_c1 1 rfl rfl) hI0 (by decide) (by decide) (by decide) (fun H1 hI1 => ?_)
  refine lv_dup hx hb (show decode code 3 = .ok (.dup, 1) by decide +kernel) rfl ?_
  refine lx_callI (a := 0) (As := []) (rest := [.ref (s.heap.size + 0)]) (M' := xm_138) hx hb hml hown hts hG hcl rfl (show decode code 4 = .ok (.invokespecial 9, 3) by decide +kernel) xn_138 rfl (xT_c1 24 rfl rfl) rfl (xT_c1 23 rfl rfl) hI1 (rfl : ([] ++ [.inr (11, xdf11)] : xH)[0]? = some (.inr (11, xdf11))) r1 rfl hl.1 (by simp [Value.category]) ⟨by rw [c1]; decide, by rw [s1]; decide⟩ (fun H2 locs2 hI2 => ?_)
  rw [xe_2]
  refine W.eq (g2 := F0 m 7 ls [.ref (s.heap.size + 0)]) rfl ?_
  refine lv_astore_n (lv' := [(1, .ref (s.heap.size + 0)), (0, .ref b)]) hx hb (show decode code 7 = .ok (.astore_n 1, 1) by decide +kernel) rfl hl (by decide) rfl (fun ls hl => ?_)
  refine lx_new hx hb hown hts hG (show decode code 8 = .ok (.new 10, 3) by decide +kernel) (rfl : vwCl[12]? = some (RX12, TX12, 125)) inX12 tyX12_ok xdf12_ok rfl (xT_c6 52 rfl rfl) (xT_c6 53 rfl rfl) (xT_c1 16 rfl rfl) hI2 (by rw [xe_3]; decide) (by rw [c1]; decide) (by rw [s1]; decide) (fun H3 hI3 => ?_)
  rw [xe_3]
  refine lv_dup hx hb (show decode code 11 = .ok (.dup, 1) by decide +kernel) rfl ?_
  refine lx_callI (a := 213) (As := []) (rest := [.ref (s.heap.size + 213)]) (M' := xm_153) hx hb hml hown hts hG hcl rfl (show decode code 12 = .ok (.invokespecial 12, 3) by decide +kernel) xn_153 rfl (xT_c6 55 rfl rfl) rfl (xT_c6 54 rfl rfl) hI3 (by rw [List.getElem?_append_right (by rw [xe_3]; exact Nat.le_refl _), xe_3]; rfl : (xr1.2.1 ++ [.inr (12, xdf12)])[213]? = some (.inr (12, xdf12))) r2 rfl hl.1 (by simp [Value.category]) ⟨by rw [c1, c2]; decide, by rw [s1, s2]; decide⟩ (fun H4 locs4 hI4 => ?_)
  rw [xe_5]
  refine W.eq (g2 := F0 m 15 ls [.ref (s.heap.size + 213)]) rfl ?_
  refine lv_astore_n (lv' := [(2, .ref (s.heap.size + 213)), (1, .ref (s.heap.size + 0)), (0, .ref b)]) hx hb (show decode code 15 = .ok (.astore_n 2, 1) by decide +kernel) rfl hl (by decide) rfl (fun ls hl => ?_)
  refine lv_iconst (v := 0) hx hb (show decode code 16 = .ok (.iconst 0, 1) by decide +kernel) (by decide) ?_
  refine lv_istore_n (lv' := [(3, .int 0), (2, .ref (s.heap.size + 213)), (1, .ref (s.heap.size + 0)), (0, .ref b)]) hx hb (show decode code 17 = .ok (.istore_n 3, 1) by decide +kernel) rfl hl (by decide) rfl (fun ls hl => ?_)
  have hl0 := hN_len
  have hl1 := xh2_len
  have hl2 := Sh_N
  refine W_cs (c1 := hN.length) (s1 := 667766 + Sh hN) (by omega) (by omega) ?_
  exact lx_head hL C0 hG hcl 512 0 (Nat.zero_le _) (by omega) (xI_N hI4) LSr_N (lv_sub hl [3, 2, 1, 0] rfl)
end LZ
