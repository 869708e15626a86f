/-! ===== the law from its entry ===== -/
theorem xsome {α : Type} {o : Option α} (d : α) (h : o.isSome = true) : o = some (o.getD d) := by
  cases o with
  | none => cases h
  | some a => rfl
section LZ
variable {p : Program} {l : Launch} {e : Env} {s : State} {m : MethodId} {below : List Frame} {meth : Method} {c : Code} {H : Heap} {locs : List Loc} {cells slots : Nat} {b L aS : Nat} {xs : Nat → Int32} {D : va_G} {cT : Nat → ClassId} {ls : Array Slot}
/-- the loop's head, with both objects made -/
theorem lx_head (hL : L ≤ 7) (C0 : lw_At p s m meth c b L xs) (hG : xG s.heap.size aS D cT s) (hcl : xCallsOK xsg l s.heap.size aS D cT 10 (xex xsg xpr 10)) (hI : xI s.heap.size aS D cT s H locs xh2) (hcs : cells ≤ 600000) (hss : slots ≤ 7302250) (hl : lv_has ls 4 [(0, .ref b), (1, .ref (s.heap.size + 0)), (2, .ref (s.heap.size + 213)), (3, .int 0)]) : W p l e room_1 s m #[Value.ref b] below meth c H locs cells slots (lw_Z below #[Value.ref b] s) (F0 m 18 ls []) := by
  by_cases h7 : L < 7
  · refine lx_end C0 ?_ hI.2.2.2 hcs hss (lv_sub hl [0, 3] rfl)
    have key : ∀ L, L < 7 → Int32.ofNat L - 7 < 0 := by decide +kernel
    exact key L h7
  · obtain rfl : L = 7 := by omega
    obtain ⟨hx, hb, hr, hml, hown, hts0, hX, hbl, hlocks, hgv⟩ := id C0
    have hbA : ¬ xA s.heap.size b := Nat.not_le.mpr hbl
    refine lv_iload_n hx hb (show decode code 18 = .ok (.iload_n 3, 1) by decide +kernel) rfl (lv_at hl 3 rfl) ?_
    refine lv_aload_n hx hb (show decode code 19 = .ok (.aload_n 0, 1) by decide +kernel) rfl (lv_at hl 0 rfl) ?_
    refine va_slen hx hb hX hbl hbA hI.2.2.2 (show decode code 20 = .ok (.arraylength, 1) by decide +kernel) ?_
    refine lv_bipush (v := 7) hx hb (show decode code 21 = .ok (.bipush 7, 2) by decide +kernel) (by decide) ?_
    refine lv_isub hx hb (show decode code 23 = .ok (.isub, 1) by decide +kernel) ?_
    refine lv_icmp_gt (tgt := 430) hx hb (show decode code 24 = .ok (.if_icmp .gt 406, 3) by decide +kernel) (by decide) (fun h => absurd h (by decide)) (fun _ => ?_)
    refine lv_aload_n hx hb (show decode code 27 = .ok (.aload_n 0, 1) by decide +kernel) rfl (lv_at hl 0 rfl) ?_
    refine lv_iload_n hx hb (show decode code 28 = .ok (.iload_n 3, 1) by decide +kernel) rfl (lv_at hl 3 rfl) ?_
    refine va_sld hx hb hX hbl hbA hI.2.2.2 (by unfold vp_in; decide) (show decode code 29 = .ok (.iaload, 1) by decide +kernel) ?_
    refine lv_bipush (v := 15) hx hb (show decode code 30 = .ok (.bipush 15, 2) by decide +kernel) (by decide) ?_
    refine lv_iand hx hb (show decode code 32 = .ok (.iand, 1) by decide +kernel) ?_
    obtain ⟨j, hj, ej⟩ := pk_andE (xs (0 : Int32).toNatClampNeg) (m := 15) 4 (by decide)
    rw [ej]
    have dT : decode code 33 = .ok (.tableswitch 391 0 11 #[63, 198, 211, 224, 247, 260, 273, 286, 309, 322, 345, 368], 63) := by decide +kernel
    match j, hj with
    | 0, _ => exact lv_tableIn (tgt := 96) hx hb dT (by decide) (by decide) rfl (by decide) (lx_feed C0 hG hcl hI hcs hss hl)
    | 1, _ => exact lv_tableIn (tgt := 231) hx hb dT (by decide) (by decide) rfl (by decide) (lx_program C0 hG hcl hI hcs hss hl)
    | 2, _ => exact lv_tableIn (tgt := 244) hx hb dT (by decide) (by decide) rfl (by decide) (lx_implementing C0 hG hcl hI hcs hss hl)
    | 3, _ => exact lv_tableIn (tgt := 257) hx hb dT (by decide) (by decide) rfl (by decide) (lx_run C0 hG hcl hI hcs hss hl)
    | 4, _ => exact lv_tableIn (tgt := 280) hx hb dT (by decide) (by decide) rfl (by decide) (lx_failed C0 hG hcl hI hcs hss hl)
    | 5, _ => exact lv_tableIn (tgt := 293) hx hb dT (by decide) (by decide) rfl (by decide) (lx_calls C0 hG hcl hI hcs hss hl)
    | 6, _ => exact lv_tableIn (tgt := 306) hx hb dT (by decide) (by decide) rfl (by decide) (lx_instances C0 hG hcl hI hcs hss hl)
    | 7, _ => exact lv_tableIn (tgt := 319) hx hb dT (by decide) (by decide) rfl (by decide) (lx_made C0 hG hcl hI hcs hss hl)
    | 8, _ => exact lv_tableIn (tgt := 342) hx hb dT (by decide) (by decide) rfl (by decide) (lx_isMade C0 hG hcl hI hcs hss hl)
    | 9, _ => exact lv_tableIn (tgt := 355) hx hb dT (by decide) (by decide) rfl (by decide) (lx_print C0 hG hcl hI hcs hss hl)
    | 10, _ => exact lv_tableIn (tgt := 378) hx hb dT (by decide) (by decide) rfl (by decide) (lx_out C0 hG hcl hI hcs hss hl)
    | 11, _ => exact lv_tableIn (tgt := 401) hx hb dT (by decide) (by decide) rfl (by decide) (lx_count C0 hG hcl hI hcs hss hl)
    | 12, _ => exact lv_tableOut (tgt := 424) hx hb dT (by decide) (by decide) (lx_fin C0 hI.2.2.2 hcs hss (lv_sub hl [0, 3] rfl))
    | 13, _ => exact lv_tableOut (tgt := 424) hx hb dT (by decide) (by decide) (lx_fin C0 hI.2.2.2 hcs hss (lv_sub hl [0, 3] rfl))
    | 14, _ => exact lv_tableOut (tgt := 424) hx hb dT (by decide) (by decide) (lx_fin C0 hI.2.2.2 hcs hss (lv_sub hl [0, 3] rfl))
    | 15, _ => exact lv_tableOut (tgt := 424) hx hb dT (by decide) (by decide) (lx_fin C0 hI.2.2.2 hcs hss (lv_sub hl [0, 3] rfl))
    | j + 16, hj => exact absurd hj (by omega)
theorem lx_start (hpr : ∀ i M F, xsg i = some M → xpr i = some F → xwf xsg M F) (l : Launch) (hL : L ≤ 7) (C0 : lw_At p s m meth c b L xs) : W p l e room_1 s m #[Value.ref b] below meth c s.heap [] 0 0 (lw_Z below #[Value.ref b] s) (entryFrame m ([Value.ref b] : List Value).toArray 4) := by
  obtain ⟨hx, hb, hr, hml, hown, hts0, hX, hbl, hlocks, hgv⟩ := id C0
  have hts : ∀ w ∈ xT, w.before #[Value.ref b] s = true := fun w hw => hts0 w (List.mem_filter.mp hw).1
  obtain ⟨aS, D, cT, hG⟩ := xs_start hts0 hgv
  have hcl := xex_ok hpr l s.heap.size aS D cT 10
  have hl := lv_entry ([.ref b]) (n := 4) (Nat.le_of_ble_eq_true rfl)
  rw [lg_entry_eq]
  generalize (lg_sl ([.ref b]) ++ List.replicate (4 - (lg_sl ([.ref b])).length) Slot.unset).toArray = ls at hl ⊢
  have hl : lv_has ls 4 [(0, .ref b)] := hl
  have hI0 : xI s.heap.size aS D cT s s.heap [] [] := ⟨Nat.zero_le _, rfl, fun k q h => by simp [xw] at h, va_S.rf⟩
  have e4 := xe_4
  have e7 := xe_7
  have c1 : xr1.2.2.1 = 212 := by rw [e4]
  have s1 : xr1.2.2.2 = 54083 := by rw [e4]
  have c2 : xr2.2.2.1 = 74 := by rw [e7]
  have s2 : xr2.2.2.2 = 613545 := by rw [e7]
  have r1 : xex xsg xpr 10 0 (.ref 0 :: []) ([] ++ [.inr (11, xdf11)]) = some xr1 := xsome _ xe_0
  have r2 : xex xsg xpr 10 54 (.ref 213 :: []) (xr1.2.1 ++ [.inr (12, xdf12)]) = some xr2 := xsome _ xe_1
  refine lx_new hx hb hown hts hG (show decode code 0 = .ok (.new 7, 3) by decide +kernel) (rfl : vwCl[11]? = some (RX11, TX11, 13)) inX11 tyX11_ok xdf11_ok rfl (xT_c1 21 rfl rfl) (xT_c1 22 rfl rfl) (xT_c1 1 rfl rfl) hI0 (by decide) (by decide) (by decide) (fun H1 hI1 => ?_)
  refine lv_dup hx hb (show decode code 3 = .ok (.dup, 1) by decide +kernel) rfl ?_
  refine lx_callI (a := 0) (As := []) (rest := [.ref (s.heap.size + 0)]) (M' := xm_0) hx hb hml hown hts hG hcl rfl (show decode code 4 = .ok (.invokespecial 9, 3) by decide +kernel) xn_0 rfl (xT_c1 24 rfl rfl) rfl (xT_c1 23 rfl rfl) hI1 (rfl : ([] ++ [.inr (11, xdf11)] : xH)[0]? = some (.inr (11, xdf11))) r1 rfl hl.1 (by simp [Value.category]) ⟨by rw [c1]; decide, by rw [s1]; decide⟩ (fun H2 locs2 hI2 => ?_)
  rw [xe_2]
  refine W.eq (g2 := F0 m 7 ls [.ref (s.heap.size + 0)]) rfl ?_
  refine lv_astore_n (lv' := [(1, .ref (s.heap.size + 0)), (0, .ref b)]) hx hb (show decode code 7 = .ok (.astore_n 1, 1) by decide +kernel) rfl hl (by decide) rfl (fun ls hl => ?_)
  refine lx_new hx hb hown hts hG (show decode code 8 = .ok (.new 10, 3) by decide +kernel) (rfl : vwCl[12]? = some (RX12, TX12, 125)) inX12 tyX12_ok xdf12_ok rfl (xT_c6 52 rfl rfl) (xT_c6 53 rfl rfl) (xT_c1 16 rfl rfl) hI2 (by rw [xe_3]; decide) (by rw [c1]; decide) (by rw [s1]; decide) (fun H3 hI3 => ?_)
  rw [xe_3]
  refine lv_dup hx hb (show decode code 11 = .ok (.dup, 1) by decide +kernel) rfl ?_
  refine lx_callI (a := 213) (As := []) (rest := [.ref (s.heap.size + 213)]) (M' := xm_54) hx hb hml hown hts hG hcl rfl (show decode code 12 = .ok (.invokespecial 12, 3) by decide +kernel) xn_54 rfl (xT_c6 55 rfl rfl) rfl (xT_c6 54 rfl rfl) hI3 (by rw [List.getElem?_append_right (by rw [xe_3]; exact Nat.le_refl _), xe_3]; rfl : (xr1.2.1 ++ [.inr (12, xdf12)])[213]? = some (.inr (12, xdf12))) r2 rfl hl.1 (by simp [Value.category]) ⟨by rw [c1, c2]; decide, by rw [s1, s2]; decide⟩ (fun H4 locs4 hI4 => ?_)
  rw [xe_5]
  refine W.eq (g2 := F0 m 15 ls [.ref (s.heap.size + 213)]) rfl ?_
  refine lv_astore_n (lv' := [(2, .ref (s.heap.size + 213)), (1, .ref (s.heap.size + 0)), (0, .ref b)]) hx hb (show decode code 15 = .ok (.astore_n 2, 1) by decide +kernel) rfl hl (by decide) rfl (fun ls hl => ?_)
  refine lv_iconst (v := 0) hx hb (show decode code 16 = .ok (.iconst 0, 1) by decide +kernel) (by decide) ?_
  refine lv_istore_n (lv' := [(3, .int 0), (2, .ref (s.heap.size + 213)), (1, .ref (s.heap.size + 0)), (0, .ref b)]) hx hb (show decode code 17 = .ok (.istore_n 3, 1) by decide +kernel) rfl hl (by decide) rfl (fun ls hl => ?_)
  exact lx_head hL C0 hG hcl hI4 (by omega) (by omega) (lv_sub hl [3, 2, 1, 0] rfl)
end LZ
