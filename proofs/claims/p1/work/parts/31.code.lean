/-! FeatherBench.takeSigns(J)V -/
theorem xq_13_27 : xOKs xsg xm_13 xk_13_0 xk_13_27 := trivial
theorem xq_13_26 : xOKs xsg xm_13 xk_13_0 xk_13_26 := ⟨xok_ret0 (by decide +kernel : decode xm_13.2.1 53 = .ok (.return_, 1)) rfl, xq_13_27⟩
theorem xq_13_25 : xOKs xsg xm_13 xk_13_0 xk_13_25 := ⟨xok_br (tgt := 3) (xb_go (by decide +kernel : decode xm_13.2.1 50 = .ok (.goto (-47), 3)) (by decide)) (by decide +kernel) rfl, xq_13_26⟩
theorem xq_13_24 : xOKs xsg xm_13 xk_13_0 xk_13_24 := ⟨xok_inc (by decide +kernel : decode xm_13.2.1 47 = .ok (.iinc 3 (-8), 3)) (by decide) rfl, xq_13_25⟩
theorem xq_13_23 : xOKs xsg xm_13 xk_13_0 xk_13_23 := ⟨xok_callV (M' := xm_39) rfl (rfl : vwCl[6]? = some (RX6, TX6, 3)) (by decide +kernel : decode xm_13.2.1 44 = .ok (.invokevirtual 236, 3)) xn_39 (xT_c3 67 rfl rfl) (xT_c3 68 rfl rfl) (xT_c3 66 rfl rfl) rfl, xq_13_24⟩
theorem xq_13_22 : xOKs xsg xm_13 xk_13_0 xk_13_22 := ⟨xok_ld (xl_iload (by decide +kernel : decode xm_13.2.1 42 = .ok (.iload 4, 2))) rfl, xq_13_23⟩
theorem xq_13_21 : xOKs xsg xm_13 xk_13_0 xk_13_21 := ⟨xok_get (by decide +kernel : decode xm_13.2.1 39 = .ok (.getfield 14, 3)) (rfl : vwCl[11]? = some (RX11, TX11, 13)) inX11 (by decide) (xT_c3 18 rfl rfl) rfl, xq_13_22⟩
theorem xq_13_20 : xOKs xsg xm_13 xk_13_0 xk_13_20 := ⟨xok_ld (xl_aload_n (by decide +kernel : decode xm_13.2.1 38 = .ok (.aload_n 0, 1))) rfl, xq_13_21⟩
theorem xq_13_19 : xOKs xsg xm_13 xk_13_0 xk_13_19 := ⟨xok_br (tgt := 47) (xb_igt (by decide +kernel : decode xm_13.2.1 35 = .ok (.if_icmp .gt 12, 3)) (by decide)) (by decide +kernel) rfl, xq_13_20⟩
theorem xq_13_18 : xOKs xsg xm_13 xk_13_0 xk_13_18 := ⟨xok_p (xp_bipush (v := 126) (by decide +kernel : decode xm_13.2.1 33 = .ok (.bipush 126, 2)) (by decide)) rfl, xq_13_19⟩
theorem xq_13_17 : xOKs xsg xm_13 xk_13_0 xk_13_17 := ⟨xok_ld (xl_iload (by decide +kernel : decode xm_13.2.1 31 = .ok (.iload 4, 2))) rfl, xq_13_18⟩
theorem xq_13_16 : xOKs xsg xm_13 xk_13_0 xk_13_16 := ⟨xok_br (tgt := 47) (xb_ilt (by decide +kernel : decode xm_13.2.1 28 = .ok (.if_icmp .lt 19, 3)) (by decide)) (by decide +kernel) rfl, xq_13_17⟩
theorem xq_13_15 : xOKs xsg xm_13 xk_13_0 xk_13_15 := ⟨xok_p (xp_bipush (v := 32) (by decide +kernel : decode xm_13.2.1 26 = .ok (.bipush 32, 2)) (by decide)) rfl, xq_13_16⟩
theorem xq_13_14 : xOKs xsg xm_13 xk_13_0 xk_13_14 := ⟨xok_ld (xl_iload (by decide +kernel : decode xm_13.2.1 24 = .ok (.iload 4, 2))) rfl, xq_13_15⟩
theorem xq_13_13 : xOKs xsg xm_13 xk_13_0 xk_13_13 := ⟨xok_br (tgt := 38) (xb_ieq (by decide +kernel : decode xm_13.2.1 21 = .ok (.if_icmp .eq 17, 3)) (by decide)) (by decide +kernel) rfl, xq_13_14⟩
theorem xq_13_12 : xOKs xsg xm_13 xk_13_0 xk_13_12 := ⟨xok_p (xp_bipush (v := 10) (by decide +kernel : decode xm_13.2.1 19 = .ok (.bipush 10, 2)) (by decide)) rfl, xq_13_13⟩
theorem xq_13_11 : xOKs xsg xm_13 xk_13_0 xk_13_11 := ⟨xok_ld (xl_iload (by decide +kernel : decode xm_13.2.1 17 = .ok (.iload 4, 2))) rfl, xq_13_12⟩
theorem xq_13_10 : xOKs xsg xm_13 xk_13_0 xk_13_10 := ⟨xok_st (xs_istore (by decide +kernel : decode xm_13.2.1 15 = .ok (.istore 4, 2)) (by decide)) rfl, xq_13_11⟩
theorem xq_13_9 : xOKs xsg xm_13 xk_13_0 xk_13_9 := ⟨xok_p (xp_iand (by decide +kernel : decode xm_13.2.1 14 = .ok (.iand, 1))) rfl, xq_13_10⟩
theorem xq_13_8 : xOKs xsg xm_13 xk_13_0 xk_13_8 := ⟨xok_p (xp_sipush (v := 255) (by decide +kernel : decode xm_13.2.1 11 = .ok (.sipush 255, 3)) (by decide)) rfl, xq_13_9⟩
theorem xq_13_7 : xOKs xsg xm_13 xk_13_0 xk_13_7 := ⟨xok_p (xp_l2i (by decide +kernel : decode xm_13.2.1 10 = .ok (.l2i, 1))) rfl, xq_13_8⟩
theorem xq_13_6 : xOKs xsg xm_13 xk_13_0 xk_13_6 := ⟨xok_p (xp_lushr (by decide +kernel : decode xm_13.2.1 9 = .ok (.lushr, 1))) rfl, xq_13_7⟩
theorem xq_13_5 : xOKs xsg xm_13 xk_13_0 xk_13_5 := ⟨xok_ld (xl_iload_n (by decide +kernel : decode xm_13.2.1 8 = .ok (.iload_n 3, 1))) rfl, xq_13_6⟩
theorem xq_13_4 : xOKs xsg xm_13 xk_13_0 xk_13_4 := ⟨xok_ld (xl_lload_n (by decide +kernel : decode xm_13.2.1 7 = .ok (.lload_n 1, 1))) rfl, xq_13_5⟩
theorem xq_13_3 : xOKs xsg xm_13 xk_13_0 xk_13_3 := ⟨xok_br (tgt := 53) (xb_lt (by decide +kernel : decode xm_13.2.1 4 = .ok (.ifCond .lt 49, 3)) (by decide)) (by decide +kernel) rfl, xq_13_4⟩
theorem xq_13_2 : xOKs xsg xm_13 xk_13_0 xk_13_2 := ⟨xok_ld (xl_iload_n (by decide +kernel : decode xm_13.2.1 3 = .ok (.iload_n 3, 1))) rfl, xq_13_3⟩
theorem xq_13_1 : xOKs xsg xm_13 xk_13_0 xk_13_1 := ⟨xok_st (xs_istore_n (by decide +kernel : decode xm_13.2.1 2 = .ok (.istore_n 3, 1)) (by decide)) rfl, xq_13_2⟩
theorem xq_13_0 : xOKs xsg xm_13 xk_13_0 xk_13_0 := ⟨xok_p (xp_bipush (v := 56) (by decide +kernel : decode xm_13.2.1 0 = .ok (.bipush 56, 2)) (by decide)) rfl, xq_13_1⟩
theorem xz_13 : xwf xsg xm_13 xk_13_0 := ⟨xq_13_0, rfl, by decide⟩
/-! FeatherBench.readTape(I)I -/
theorem xq_14_21 : xOKs xsg xm_14 xk_14_0 xk_14_21 := trivial
theorem xq_14_20 : xOKs xsg xm_14 xk_14_0 xk_14_20 := ⟨xok_retI (by decide +kernel : decode xm_14.2.1 44 = .ok (.ireturn, 1)) rfl, xq_14_21⟩
theorem xq_14_19 : xOKs xsg xm_14 xk_14_0 xk_14_19 := ⟨xok_p (xp_iconst (v := -1) (by decide +kernel : decode xm_14.2.1 43 = .ok (.iconst (-1), 1)) (by decide)) rfl, xq_14_20⟩
theorem xq_14_18 : xOKs xsg xm_14 xk_14_0 xk_14_18 := ⟨xok_none, xq_14_19⟩
theorem xq_14_17 : xOKs xsg xm_14 xk_14_0 xk_14_17 := ⟨xok_none, xq_14_18⟩
theorem xq_14_16 : xOKs xsg xm_14 xk_14_0 xk_14_16 := ⟨xok_none, xq_14_17⟩
theorem xq_14_15 : xOKs xsg xm_14 xk_14_0 xk_14_15 := ⟨xok_none, xq_14_16⟩
theorem xq_14_14 : xOKs xsg xm_14 xk_14_0 xk_14_14 := ⟨xok_none, xq_14_15⟩
theorem xq_14_13 : xOKs xsg xm_14 xk_14_0 xk_14_13 := ⟨xok_none, xq_14_14⟩
theorem xq_14_12 : xOKs xsg xm_14 xk_14_0 xk_14_12 := ⟨xok_none, xq_14_13⟩
theorem xq_14_11 : xOKs xsg xm_14 xk_14_0 xk_14_11 := ⟨xok_br (tgt := 43) (xb_eq (by decide +kernel : decode xm_14.2.1 25 = .ok (.ifCond .eq 18, 3)) (by decide)) (by decide +kernel) rfl, xq_14_12⟩
theorem xq_14_10 : xOKs xsg xm_14 xk_14_0 xk_14_10 := ⟨xok_get (by decide +kernel : decode xm_14.2.1 22 = .ok (.getfield 132, 3)) (rfl : vwCl[11]? = some (RX11, TX11, 13)) inX11 (by decide) (xT_c3 29 rfl rfl) rfl, xq_14_11⟩
theorem xq_14_9 : xOKs xsg xm_14 xk_14_0 xk_14_9 := ⟨xok_ld (xl_aload_n (by decide +kernel : decode xm_14.2.1 21 = .ok (.aload_n 0, 1))) rfl, xq_14_10⟩
theorem xq_14_8 : xOKs xsg xm_14 xk_14_0 xk_14_8 := ⟨xok_callV (M' := xm_40) rfl (rfl : vwCl[6]? = some (RX6, TX6, 3)) (by decide +kernel : decode xm_14.2.1 18 = .ok (.invokevirtual 104, 3)) xn_40 (xT_c3 84 rfl rfl) (xT_c3 85 rfl rfl) (xT_c3 181 rfl rfl) rfl, xq_14_9⟩
theorem xq_14_7 : xOKs xsg xm_14 xk_14_0 xk_14_7 := ⟨xok_get (by decide +kernel : decode xm_14.2.1 15 = .ok (.getfield 14, 3)) (rfl : vwCl[11]? = some (RX11, TX11, 13)) inX11 (by decide) (xT_c3 18 rfl rfl) rfl, xq_14_8⟩
theorem xq_14_6 : xOKs xsg xm_14 xk_14_0 xk_14_6 := ⟨xok_ld (xl_aload_n (by decide +kernel : decode xm_14.2.1 14 = .ok (.aload_n 0, 1))) rfl, xq_14_7⟩
theorem xq_14_5 : xOKs xsg xm_14 xk_14_0 xk_14_5 := ⟨xok_callV (M' := xm_46) rfl (rfl : vwCl[9]? = some (RX9, TX9, 8)) (by decide +kernel : decode xm_14.2.1 11 = .ok (.invokevirtual 243, 3)) xn_46 (xT_c3 80 rfl rfl) (xT_c3 81 rfl rfl) (xT_c5 68 rfl rfl) rfl, xq_14_6⟩
theorem xq_14_4 : xOKs xsg xm_14 xk_14_0 xk_14_4 := ⟨xok_get (by decide +kernel : decode xm_14.2.1 8 = .ok (.getfield 14, 3)) (rfl : vwCl[11]? = some (RX11, TX11, 13)) inX11 (by decide) (xT_c3 18 rfl rfl) rfl, xq_14_5⟩
theorem xq_14_3 : xOKs xsg xm_14 xk_14_0 xk_14_3 := ⟨xok_ld (xl_aload_n (by decide +kernel : decode xm_14.2.1 7 = .ok (.aload_n 0, 1))) rfl, xq_14_4⟩
theorem xq_14_2 : xOKs xsg xm_14 xk_14_0 xk_14_2 := ⟨xok_getN (by decide +kernel : decode xm_14.2.1 4 = .ok (.getfield 239, 3)) (rfl : vwCl[0]? = some (RX0, TX0, 7)) inX0 (by decide) (xN_c2 105 rfl rfl) rfl, xq_14_3⟩
theorem xq_14_1 : xOKs xsg xm_14 xk_14_0 xk_14_1 := ⟨xok_get (by decide +kernel : decode xm_14.2.1 1 = .ok (.getfield 67, 3)) (rfl : vwCl[11]? = some (RX11, TX11, 13)) inX11 (by decide) (xT_c3 23 rfl rfl) rfl, xq_14_2⟩
theorem xq_14_0 : xOKs xsg xm_14 xk_14_0 xk_14_0 := ⟨xok_ld (xl_aload_n (by decide +kernel : decode xm_14.2.1 0 = .ok (.aload_n 0, 1))) rfl, xq_14_1⟩
theorem xz_14 : xwf xsg xm_14 xk_14_0 := ⟨xq_14_0, rfl, by decide⟩
/-! FeatherBench$Asked.<init>(LFeatherBench$Shapes;LFeatherBench$Told;)V -/
theorem xq_15_21 : xOKs xsg xm_15 xk_15_0 xk_15_21 := trivial
theorem xq_15_20 : xOKs xsg xm_15 xk_15_0 xk_15_20 := ⟨xok_ret0 (by decide +kernel : decode xm_15.2.1 41 = .ok (.return_, 1)) rfl, xq_15_21⟩
theorem xq_15_19 : xOKs xsg xm_15 xk_15_0 xk_15_19 := ⟨xok_putF (by decide +kernel : decode xm_15.2.1 38 = .ok (.putfield 31, 3)) (rfl : vwCl[0]? = some (RX0, TX0, 7)) inX0 tyX0_ok nmX0 (k := 3) (by decide) rfl rfl rfl (xT_c2 108 rfl rfl) rfl, xq_15_20⟩
theorem xq_15_18 : xOKs xsg xm_15 xk_15_0 xk_15_18 := ⟨xok_ld (xl_aload_n (by decide +kernel : decode xm_15.2.1 37 = .ok (.aload_n 2, 1))) rfl, xq_15_19⟩
theorem xq_15_17 : xOKs xsg xm_15 xk_15_0 xk_15_17 := ⟨xok_ld (xl_aload_n (by decide +kernel : decode xm_15.2.1 36 = .ok (.aload_n 0, 1))) rfl, xq_15_18⟩
theorem xq_15_16 : xOKs xsg xm_15 xk_15_0 xk_15_16 := ⟨xok_putF (by decide +kernel : decode xm_15.2.1 33 = .ok (.putfield 27, 3)) (rfl : vwCl[0]? = some (RX0, TX0, 7)) inX0 tyX0_ok nmX0 (k := 2) (by decide) rfl rfl rfl (xT_c2 107 rfl rfl) rfl, xq_15_17⟩
theorem xq_15_15 : xOKs xsg xm_15 xk_15_0 xk_15_15 := ⟨xok_ld (xl_aload_n (by decide +kernel : decode xm_15.2.1 32 = .ok (.aload_n 1, 1))) rfl, xq_15_16⟩
theorem xq_15_14 : xOKs xsg xm_15 xk_15_0 xk_15_14 := ⟨xok_ld (xl_aload_n (by decide +kernel : decode xm_15.2.1 31 = .ok (.aload_n 0, 1))) rfl, xq_15_15⟩
theorem xq_15_13 : xOKs xsg xm_15 xk_15_0 xk_15_13 := ⟨xok_putF (by decide +kernel : decode xm_15.2.1 28 = .ok (.putfield 23, 3)) (rfl : vwCl[0]? = some (RX0, TX0, 7)) inX0 tyX0_ok nmX0 (k := 1) (by decide) rfl rfl rfl (xT_c2 106 rfl rfl) rfl, xq_15_14⟩
theorem xq_15_12 : xOKs xsg xm_15 xk_15_0 xk_15_12 := ⟨xok_callI (M' := xm_36) rfl (by decide +kernel : decode xm_15.2.1 25 = .ok (.invokespecial 20, 3)) xn_36 rfl (xT_c1 32 rfl rfl) rfl (xT_c2 103 rfl rfl) rfl, xq_15_13⟩
theorem xq_15_11 : xOKs xsg xm_15 xk_15_0 xk_15_11 := ⟨xok_p (xp_sipush (v := 4000) (by decide +kernel : decode xm_15.2.1 22 = .ok (.sipush 4000, 3)) (by decide)) rfl, xq_15_12⟩
theorem xq_15_10 : xOKs xsg xm_15 xk_15_0 xk_15_10 := ⟨xok_p (xp_bipush (v := 12) (by decide +kernel : decode xm_15.2.1 20 = .ok (.bipush 12, 2)) (by decide)) rfl, xq_15_11⟩
theorem xq_15_9 : xOKs xsg xm_15 xk_15_0 xk_15_9 := ⟨xok_p (xp_dup (by decide +kernel : decode xm_15.2.1 19 = .ok (.dup, 1))) rfl, xq_15_10⟩
theorem xq_15_8 : xOKs xsg xm_15 xk_15_0 xk_15_8 := ⟨xok_new (by decide +kernel : decode xm_15.2.1 16 = .ok (.new 18, 3)) (rfl : vwCl[6]? = some (RX6, TX6, 3)) inX6 tyX6_ok xdf6_ok (fun _ _ => rfl) (xT_c2 102 rfl rfl) (xT_c1 30 rfl rfl) (xT_c1 2 rfl rfl) rfl, xq_15_9⟩
theorem xq_15_7 : xOKs xsg xm_15 xk_15_0 xk_15_7 := ⟨xok_ld (xl_aload_n (by decide +kernel : decode xm_15.2.1 15 = .ok (.aload_n 0, 1))) rfl, xq_15_8⟩
theorem xq_15_6 : xOKs xsg xm_15 xk_15_0 xk_15_6 := ⟨xok_putF (by decide +kernel : decode xm_15.2.1 12 = .ok (.putfield 12, 3)) (rfl : vwCl[0]? = some (RX0, TX0, 7)) inX0 tyX0_ok nmX0 (k := 0) (by decide) rfl rfl rfl (xT_c2 104 rfl rfl) rfl, xq_15_7⟩
theorem xq_15_5 : xOKs xsg xm_15 xk_15_0 xk_15_5 := ⟨xok_callIN (M' := xm_45) rfl (by decide +kernel : decode xm_15.2.1 9 = .ok (.invokespecial 11, 3)) xn_45 rfl (xT_c1 68 rfl rfl) rfl (xN_c2 101 rfl rfl) rfl, xq_15_6⟩
theorem xq_15_4 : xOKs xsg xm_15 xk_15_0 xk_15_4 := ⟨xok_p (xp_dup (by decide +kernel : decode xm_15.2.1 8 = .ok (.dup, 1))) rfl, xq_15_5⟩
theorem xq_15_3 : xOKs xsg xm_15 xk_15_0 xk_15_3 := ⟨xok_new (by decide +kernel : decode xm_15.2.1 5 = .ok (.new 9, 3)) (rfl : vwCl[9]? = some (RX9, TX9, 8)) inX9 tyX9_ok xdf9_ok (fun _ _ => rfl) (xT_c2 100 rfl rfl) (xT_c1 66 rfl rfl) (xT_c1 5 rfl rfl) rfl, xq_15_4⟩
theorem xq_15_2 : xOKs xsg xm_15 xk_15_0 xk_15_2 := ⟨xok_ld (xl_aload_n (by decide +kernel : decode xm_15.2.1 4 = .ok (.aload_n 0, 1))) rfl, xq_15_3⟩
theorem xq_15_1 : xOKs xsg xm_15 xk_15_0 xk_15_1 := ⟨xok_obj (by decide +kernel : decode xm_15.2.1 1 = .ok (.invokespecial 3, 3)) (xT_c2 99 rfl rfl) xw_o2 xw_o3 rfl, xq_15_2⟩
theorem xq_15_0 : xOKs xsg xm_15 xk_15_0 xk_15_0 := ⟨xok_ld (xl_aload_n (by decide +kernel : decode xm_15.2.1 0 = .ok (.aload_n 0, 1))) rfl, xq_15_1⟩
theorem xz_15 : xwf xsg xm_15 xk_15_0 := ⟨xq_15_0, rfl, by decide⟩
/-! FeatherBench$Bodies.<init>(LFeatherBench$Program;LFeatherBench$Shapes;LFeatherBench$Told;)V -/
theorem xq_16_21 : xOKs xsg xm_16 xk_16_0 xk_16_21 := trivial
theorem xq_16_20 : xOKs xsg xm_16 xk_16_0 xk_16_20 := ⟨xok_ret0 (by decide +kernel : decode xm_16.2.1 38 = .ok (.return_, 1)) rfl, xq_16_21⟩
theorem xq_16_19 : xOKs xsg xm_16 xk_16_0 xk_16_19 := ⟨xok_put (by decide +kernel : decode xm_16.2.1 35 = .ok (.putfield 36, 3)) (rfl : vwCl[1]? = some (RX1, TX1, 8)) inX1 tyX1_ok nmX1 (k := 4) (by decide) rfl (xT_c2 73 rfl rfl) rfl, xq_16_20⟩
theorem xq_16_18 : xOKs xsg xm_16 xk_16_0 xk_16_18 := ⟨xok_getN (by decide +kernel : decode xm_16.2.1 32 = .ok (.getfield 30, 3)) (rfl : vwCl[9]? = some (RX9, TX9, 8)) inX9 (by decide) (xN_c1 76 rfl rfl) rfl, xq_16_19⟩
theorem xq_16_17 : xOKs xsg xm_16 xk_16_0 xk_16_17 := ⟨xok_get (by decide +kernel : decode xm_16.2.1 29 = .ok (.getfield 29, 3)) (rfl : vwCl[1]? = some (RX1, TX1, 8)) inX1 (by decide) (xT_c2 72 rfl rfl) rfl, xq_16_18⟩
theorem xq_16_16 : xOKs xsg xm_16 xk_16_0 xk_16_16 := ⟨xok_ld (xl_aload_n (by decide +kernel : decode xm_16.2.1 28 = .ok (.aload_n 0, 1))) rfl, xq_16_17⟩
theorem xq_16_15 : xOKs xsg xm_16 xk_16_0 xk_16_15 := ⟨xok_ld (xl_aload_n (by decide +kernel : decode xm_16.2.1 27 = .ok (.aload_n 0, 1))) rfl, xq_16_16⟩
theorem xq_16_14 : xOKs xsg xm_16 xk_16_0 xk_16_14 := ⟨xok_put (by decide +kernel : decode xm_16.2.1 24 = .ok (.putfield 29, 3)) (rfl : vwCl[1]? = some (RX1, TX1, 8)) inX1 tyX1_ok nmX1 (k := 3) (by decide) rfl (xT_c2 72 rfl rfl) rfl, xq_16_15⟩
theorem xq_16_13 : xOKs xsg xm_16 xk_16_0 xk_16_13 := ⟨xok_getN (by decide +kernel : decode xm_16.2.1 21 = .ok (.getfield 23, 3)) (rfl : vwCl[4]? = some (RX4, TX4, 15)) inX4 (by decide) (xN_c1 140 rfl rfl) rfl, xq_16_14⟩
theorem xq_16_12 : xOKs xsg xm_16 xk_16_0 xk_16_12 := ⟨xok_ld (xl_aload_n (by decide +kernel : decode xm_16.2.1 20 = .ok (.aload_n 1, 1))) rfl, xq_16_13⟩
theorem xq_16_11 : xOKs xsg xm_16 xk_16_0 xk_16_11 := ⟨xok_ld (xl_aload_n (by decide +kernel : decode xm_16.2.1 19 = .ok (.aload_n 0, 1))) rfl, xq_16_12⟩
theorem xq_16_10 : xOKs xsg xm_16 xk_16_0 xk_16_10 := ⟨xok_putF (by decide +kernel : decode xm_16.2.1 16 = .ok (.putfield 19, 3)) (rfl : vwCl[1]? = some (RX1, TX1, 8)) inX1 tyX1_ok nmX1 (k := 1) (by decide) rfl rfl rfl (xT_c2 70 rfl rfl) rfl, xq_16_11⟩
theorem xq_16_9 : xOKs xsg xm_16 xk_16_0 xk_16_9 := ⟨xok_ld (xl_aload_n (by decide +kernel : decode xm_16.2.1 15 = .ok (.aload_n 3, 1))) rfl, xq_16_10⟩
theorem xq_16_8 : xOKs xsg xm_16 xk_16_0 xk_16_8 := ⟨xok_ld (xl_aload_n (by decide +kernel : decode xm_16.2.1 14 = .ok (.aload_n 0, 1))) rfl, xq_16_9⟩
theorem xq_16_7 : xOKs xsg xm_16 xk_16_0 xk_16_7 := ⟨xok_putF (by decide +kernel : decode xm_16.2.1 11 = .ok (.putfield 15, 3)) (rfl : vwCl[1]? = some (RX1, TX1, 8)) inX1 tyX1_ok nmX1 (k := 0) (by decide) rfl rfl rfl (xT_c2 69 rfl rfl) rfl, xq_16_8⟩
theorem xq_16_6 : xOKs xsg xm_16 xk_16_0 xk_16_6 := ⟨xok_ld (xl_aload_n (by decide +kernel : decode xm_16.2.1 10 = .ok (.aload_n 2, 1))) rfl, xq_16_7⟩
theorem xq_16_5 : xOKs xsg xm_16 xk_16_0 xk_16_5 := ⟨xok_ld (xl_aload_n (by decide +kernel : decode xm_16.2.1 9 = .ok (.aload_n 0, 1))) rfl, xq_16_6⟩
theorem xq_16_4 : xOKs xsg xm_16 xk_16_0 xk_16_4 := ⟨xok_put (by decide +kernel : decode xm_16.2.1 6 = .ok (.putfield 9, 3)) (rfl : vwCl[1]? = some (RX1, TX1, 8)) inX1 tyX1_ok nmX1 (k := 2) (by decide) rfl (xT_c2 71 rfl rfl) rfl, xq_16_5⟩
theorem xq_16_3 : xOKs xsg xm_16 xk_16_0 xk_16_3 := ⟨xok_ld (xl_aload_n (by decide +kernel : decode xm_16.2.1 5 = .ok (.aload_n 1, 1))) rfl, xq_16_4⟩
theorem xq_16_2 : xOKs xsg xm_16 xk_16_0 xk_16_2 := ⟨xok_ld (xl_aload_n (by decide +kernel : decode xm_16.2.1 4 = .ok (.aload_n 0, 1))) rfl, xq_16_3⟩
theorem xq_16_1 : xOKs xsg xm_16 xk_16_0 xk_16_1 := ⟨xok_obj (by decide +kernel : decode xm_16.2.1 1 = .ok (.invokespecial 3, 3)) (xT_c2 68 rfl rfl) xw_o2 xw_o3 rfl, xq_16_2⟩
theorem xq_16_0 : xOKs xsg xm_16 xk_16_0 xk_16_0 := ⟨xok_ld (xl_aload_n (by decide +kernel : decode xm_16.2.1 0 = .ok (.aload_n 0, 1))) rfl, xq_16_1⟩
theorem xz_16 : xwf xsg xm_16 xk_16_0 := ⟨xq_16_0, rfl, by decide⟩
/-! FeatherBench$Bodies.check(LFeatherBench$Program;)V -/
theorem xq_17_101 : xOKs xsg xm_17 xk_17_0 xk_17_101 := trivial
theorem xq_17_100 : xOKs xsg xm_17 xk_17_0 xk_17_100 := ⟨xok_none, xq_17_101⟩
theorem xq_17_99 : xOKs xsg xm_17 xk_17_0 xk_17_99 := ⟨xok_ret0 (by decide +kernel : decode xm_17.2.1 201 = .ok (.return_, 1)) rfl, xq_17_100⟩
theorem xq_17_98 : xOKs xsg xm_17 xk_17_0 xk_17_98 := ⟨xok_br (tgt := 202) (xb_eq (by decide +kernel : decode xm_17.2.1 198 = .ok (.ifCond .eq 4, 3)) (by decide)) (by decide +kernel) rfl, xq_17_99⟩
theorem xq_17_97 : xOKs xsg xm_17 xk_17_0 xk_17_97 := ⟨xok_getN (by decide +kernel : decode xm_17.2.1 195 = .ok (.getfield 47, 3)) (rfl : vwCl[4]? = some (RX4, TX4, 15)) inX4 (by decide) (xN_c1 184 rfl rfl) rfl, xq_17_98⟩
theorem xq_17_96 : xOKs xsg xm_17 xk_17_0 xk_17_96 := ⟨xok_get (by decide +kernel : decode xm_17.2.1 192 = .ok (.getfield 9, 3)) (rfl : vwCl[1]? = some (RX1, TX1, 8)) inX1 (by decide) (xT_c2 71 rfl rfl) rfl, xq_17_97⟩
theorem xq_17_95 : xOKs xsg xm_17 xk_17_0 xk_17_95 := ⟨xok_ld (xl_aload_n (by decide +kernel : decode xm_17.2.1 191 = .ok (.aload_n 0, 1))) rfl, xq_17_96⟩
theorem xq_17_94 : xOKs xsg xm_17 xk_17_0 xk_17_94 := ⟨xok_none, xq_17_95⟩
theorem xq_17_93 : xOKs xsg xm_17 xk_17_0 xk_17_93 := ⟨xok_none, xq_17_94⟩
theorem xq_17_92 : xOKs xsg xm_17 xk_17_0 xk_17_92 := ⟨xok_none, xq_17_93⟩
theorem xq_17_91 : xOKs xsg xm_17 xk_17_0 xk_17_91 := ⟨xok_none, xq_17_92⟩
theorem xq_17_90 : xOKs xsg xm_17 xk_17_0 xk_17_90 := ⟨xok_none, xq_17_91⟩
theorem xq_17_89 : xOKs xsg xm_17 xk_17_0 xk_17_89 := ⟨xok_none, xq_17_90⟩
theorem xq_17_88 : xOKs xsg xm_17 xk_17_0 xk_17_88 := ⟨xok_none, xq_17_89⟩
theorem xq_17_87 : xOKs xsg xm_17 xk_17_0 xk_17_87 := ⟨xok_none, xq_17_88⟩
theorem xq_17_86 : xOKs xsg xm_17 xk_17_0 xk_17_86 := ⟨xok_none, xq_17_87⟩
theorem xq_17_85 : xOKs xsg xm_17 xk_17_0 xk_17_85 := ⟨xok_none, xq_17_86⟩
theorem xq_17_84 : xOKs xsg xm_17 xk_17_0 xk_17_84 := ⟨xok_none, xq_17_85⟩
theorem xq_17_83 : xOKs xsg xm_17 xk_17_0 xk_17_83 := ⟨xok_none, xq_17_84⟩
theorem xq_17_82 : xOKs xsg xm_17 xk_17_0 xk_17_82 := ⟨xok_none, xq_17_83⟩
theorem xq_17_81 : xOKs xsg xm_17 xk_17_0 xk_17_81 := ⟨xok_none, xq_17_82⟩
theorem xq_17_80 : xOKs xsg xm_17 xk_17_0 xk_17_80 := ⟨xok_none, xq_17_81⟩
theorem xq_17_79 : xOKs xsg xm_17 xk_17_0 xk_17_79 := ⟨xok_none, xq_17_80⟩
theorem xq_17_78 : xOKs xsg xm_17 xk_17_0 xk_17_78 := ⟨xok_none, xq_17_79⟩
theorem xq_17_77 : xOKs xsg xm_17 xk_17_0 xk_17_77 := ⟨xok_none, xq_17_78⟩
theorem xq_17_76 : xOKs xsg xm_17 xk_17_0 xk_17_76 := ⟨xok_none, xq_17_77⟩
theorem xq_17_75 : xOKs xsg xm_17 xk_17_0 xk_17_75 := ⟨xok_none, xq_17_76⟩
theorem xq_17_74 : xOKs xsg xm_17 xk_17_0 xk_17_74 := ⟨xok_none, xq_17_75⟩
theorem xq_17_73 : xOKs xsg xm_17 xk_17_0 xk_17_73 := ⟨xok_none, xq_17_74⟩
theorem xq_17_72 : xOKs xsg xm_17 xk_17_0 xk_17_72 := ⟨xok_none, xq_17_73⟩
theorem xq_17_71 : xOKs xsg xm_17 xk_17_0 xk_17_71 := ⟨xok_none, xq_17_72⟩
theorem xq_17_70 : xOKs xsg xm_17 xk_17_0 xk_17_70 := ⟨xok_none, xq_17_71⟩
theorem xq_17_69 : xOKs xsg xm_17 xk_17_0 xk_17_69 := ⟨xok_none, xq_17_70⟩
theorem xq_17_68 : xOKs xsg xm_17 xk_17_0 xk_17_68 := ⟨xok_none, xq_17_69⟩
theorem xq_17_67 : xOKs xsg xm_17 xk_17_0 xk_17_67 := ⟨xok_none, xq_17_68⟩
theorem xq_17_66 : xOKs xsg xm_17 xk_17_0 xk_17_66 := ⟨xok_none, xq_17_67⟩
theorem xq_17_65 : xOKs xsg xm_17 xk_17_0 xk_17_65 := ⟨xok_none, xq_17_66⟩
theorem xq_17_64 : xOKs xsg xm_17 xk_17_0 xk_17_64 := ⟨xok_none, xq_17_65⟩
theorem xq_17_63 : xOKs xsg xm_17 xk_17_0 xk_17_63 := ⟨xok_none, xq_17_64⟩
theorem xq_17_62 : xOKs xsg xm_17 xk_17_0 xk_17_62 := ⟨xok_none, xq_17_63⟩
theorem xq_17_61 : xOKs xsg xm_17 xk_17_0 xk_17_61 := ⟨xok_none, xq_17_62⟩
theorem xq_17_60 : xOKs xsg xm_17 xk_17_0 xk_17_60 := ⟨xok_none, xq_17_61⟩
theorem xq_17_59 : xOKs xsg xm_17 xk_17_0 xk_17_59 := ⟨xok_none, xq_17_60⟩
theorem xq_17_58 : xOKs xsg xm_17 xk_17_0 xk_17_58 := ⟨xok_none, xq_17_59⟩
theorem xq_17_57 : xOKs xsg xm_17 xk_17_0 xk_17_57 := ⟨xok_none, xq_17_58⟩
theorem xq_17_56 : xOKs xsg xm_17 xk_17_0 xk_17_56 := ⟨xok_none, xq_17_57⟩
theorem xq_17_55 : xOKs xsg xm_17 xk_17_0 xk_17_55 := ⟨xok_none, xq_17_56⟩
theorem xq_17_54 : xOKs xsg xm_17 xk_17_0 xk_17_54 := ⟨xok_none, xq_17_55⟩
theorem xq_17_53 : xOKs xsg xm_17 xk_17_0 xk_17_53 := ⟨xok_none, xq_17_54⟩
theorem xq_17_52 : xOKs xsg xm_17 xk_17_0 xk_17_52 := ⟨xok_none, xq_17_53⟩
theorem xq_17_51 : xOKs xsg xm_17 xk_17_0 xk_17_51 := ⟨xok_none, xq_17_52⟩
theorem xq_17_50 : xOKs xsg xm_17 xk_17_0 xk_17_50 := ⟨xok_none, xq_17_51⟩
theorem xq_17_49 : xOKs xsg xm_17 xk_17_0 xk_17_49 := ⟨xok_none, xq_17_50⟩
theorem xq_17_48 : xOKs xsg xm_17 xk_17_0 xk_17_48 := ⟨xok_none, xq_17_49⟩
theorem xq_17_47 : xOKs xsg xm_17 xk_17_0 xk_17_47 := ⟨xok_none, xq_17_48⟩
theorem xq_17_46 : xOKs xsg xm_17 xk_17_0 xk_17_46 := ⟨xok_none, xq_17_47⟩
theorem xq_17_45 : xOKs xsg xm_17 xk_17_0 xk_17_45 := ⟨xok_none, xq_17_46⟩
theorem xq_17_44 : xOKs xsg xm_17 xk_17_0 xk_17_44 := ⟨xok_none, xq_17_45⟩
theorem xq_17_43 : xOKs xsg xm_17 xk_17_0 xk_17_43 := ⟨xok_none, xq_17_44⟩
theorem xq_17_42 : xOKs xsg xm_17 xk_17_0 xk_17_42 := ⟨xok_none, xq_17_43⟩
theorem xq_17_41 : xOKs xsg xm_17 xk_17_0 xk_17_41 := ⟨xok_none, xq_17_42⟩
theorem xq_17_40 : xOKs xsg xm_17 xk_17_0 xk_17_40 := ⟨xok_none, xq_17_41⟩
theorem xq_17_39 : xOKs xsg xm_17 xk_17_0 xk_17_39 := ⟨xok_none, xq_17_40⟩
theorem xq_17_38 : xOKs xsg xm_17 xk_17_0 xk_17_38 := ⟨xok_none, xq_17_39⟩
theorem xq_17_37 : xOKs xsg xm_17 xk_17_0 xk_17_37 := ⟨xok_none, xq_17_38⟩
theorem xq_17_36 : xOKs xsg xm_17 xk_17_0 xk_17_36 := ⟨xok_none, xq_17_37⟩
theorem xq_17_35 : xOKs xsg xm_17 xk_17_0 xk_17_35 := ⟨xok_none, xq_17_36⟩
theorem xq_17_34 : xOKs xsg xm_17 xk_17_0 xk_17_34 := ⟨xok_none, xq_17_35⟩
theorem xq_17_33 : xOKs xsg xm_17 xk_17_0 xk_17_33 := ⟨xok_none, xq_17_34⟩
theorem xq_17_32 : xOKs xsg xm_17 xk_17_0 xk_17_32 := ⟨xok_none, xq_17_33⟩
theorem xq_17_31 : xOKs xsg xm_17 xk_17_0 xk_17_31 := ⟨xok_none, xq_17_32⟩
theorem xq_17_30 : xOKs xsg xm_17 xk_17_0 xk_17_30 := ⟨xok_none, xq_17_31⟩
theorem xq_17_29 : xOKs xsg xm_17 xk_17_0 xk_17_29 := ⟨xok_none, xq_17_30⟩
theorem xq_17_28 : xOKs xsg xm_17 xk_17_0 xk_17_28 := ⟨xok_none, xq_17_29⟩
theorem xq_17_27 : xOKs xsg xm_17 xk_17_0 xk_17_27 := ⟨xok_none, xq_17_28⟩
theorem xq_17_26 : xOKs xsg xm_17 xk_17_0 xk_17_26 := ⟨xok_br (tgt := 191) (xb_ige (by decide +kernel : decode xm_17.2.1 52 = .ok (.if_icmp .ge 139, 3)) (by decide)) (by decide +kernel) rfl, xq_17_27⟩
theorem xq_17_25 : xOKs xsg xm_17 xk_17_0 xk_17_25 := ⟨xok_callV (M' := xm_23) rfl (rfl : vwCl[4]? = some (RX4, TX4, 15)) (by decide +kernel : decode xm_17.2.1 49 = .ok (.invokevirtual 43, 3)) xn_23 (xT_c3 200 rfl rfl) (xT_c3 201 rfl rfl) (xT_c4 221 rfl rfl) rfl, xq_17_26⟩
theorem xq_17_24 : xOKs xsg xm_17 xk_17_0 xk_17_24 := ⟨xok_get (by decide +kernel : decode xm_17.2.1 46 = .ok (.getfield 9, 3)) (rfl : vwCl[1]? = some (RX1, TX1, 8)) inX1 (by decide) (xT_c2 71 rfl rfl) rfl, xq_17_25⟩
theorem xq_17_23 : xOKs xsg xm_17 xk_17_0 xk_17_23 := ⟨xok_ld (xl_aload_n (by decide +kernel : decode xm_17.2.1 45 = .ok (.aload_n 0, 1))) rfl, xq_17_24⟩
theorem xq_17_22 : xOKs xsg xm_17 xk_17_0 xk_17_22 := ⟨xok_ld (xl_iload_n (by decide +kernel : decode xm_17.2.1 44 = .ok (.iload_n 2, 1))) rfl, xq_17_23⟩
theorem xq_17_21 : xOKs xsg xm_17 xk_17_0 xk_17_21 := ⟨xok_st (xs_istore_n (by decide +kernel : decode xm_17.2.1 43 = .ok (.istore_n 2, 1)) (by decide)) rfl, xq_17_22⟩
theorem xq_17_20 : xOKs xsg xm_17 xk_17_0 xk_17_20 := ⟨xok_p (xp_iconst (v := 0) (by decide +kernel : decode xm_17.2.1 42 = .ok (.iconst 0, 1)) (by decide)) rfl, xq_17_21⟩
theorem xq_17_19 : xOKs xsg xm_17 xk_17_0 xk_17_19 := ⟨xok_callV (M' := xm_49) rfl (rfl : vwCl[10]? = some (RX10, TX10, 3)) (by decide +kernel : decode xm_17.2.1 39 = .ok (.invokevirtual 37, 3)) xn_49 (xT_c4 62 rfl rfl) (xT_c4 63 rfl rfl) (xT_c4 220 rfl rfl) rfl, xq_17_20⟩
theorem xq_17_18 : xOKs xsg xm_17 xk_17_0 xk_17_18 := ⟨xok_get (by decide +kernel : decode xm_17.2.1 36 = .ok (.getfield 29, 3)) (rfl : vwCl[1]? = some (RX1, TX1, 8)) inX1 (by decide) (xT_c2 72 rfl rfl) rfl, xq_17_19⟩
theorem xq_17_17 : xOKs xsg xm_17 xk_17_0 xk_17_17 := ⟨xok_ld (xl_aload_n (by decide +kernel : decode xm_17.2.1 35 = .ok (.aload_n 0, 1))) rfl, xq_17_18⟩
theorem xq_17_16 : xOKs xsg xm_17 xk_17_0 xk_17_16 := ⟨xok_get (by decide +kernel : decode xm_17.2.1 32 = .ok (.getfield 9, 3)) (rfl : vwCl[1]? = some (RX1, TX1, 8)) inX1 (by decide) (xT_c2 71 rfl rfl) rfl, xq_17_17⟩
theorem xq_17_15 : xOKs xsg xm_17 xk_17_0 xk_17_15 := ⟨xok_ld (xl_aload_n (by decide +kernel : decode xm_17.2.1 31 = .ok (.aload_n 0, 1))) rfl, xq_17_16⟩
theorem xq_17_14 : xOKs xsg xm_17 xk_17_0 xk_17_14 := ⟨xok_get (by decide +kernel : decode xm_17.2.1 28 = .ok (.getfield 19, 3)) (rfl : vwCl[1]? = some (RX1, TX1, 8)) inX1 (by decide) (xT_c2 70 rfl rfl) rfl, xq_17_15⟩
theorem xq_17_13 : xOKs xsg xm_17 xk_17_0 xk_17_13 := ⟨xok_ld (xl_aload_n (by decide +kernel : decode xm_17.2.1 27 = .ok (.aload_n 0, 1))) rfl, xq_17_14⟩
theorem xq_17_12 : xOKs xsg xm_17 xk_17_0 xk_17_12 := ⟨xok_put (by decide +kernel : decode xm_17.2.1 24 = .ok (.putfield 36, 3)) (rfl : vwCl[1]? = some (RX1, TX1, 8)) inX1 tyX1_ok nmX1 (k := 4) (by decide) rfl (xT_c2 73 rfl rfl) rfl, xq_17_13⟩
theorem xq_17_11 : xOKs xsg xm_17 xk_17_0 xk_17_11 := ⟨xok_getN (by decide +kernel : decode xm_17.2.1 21 = .ok (.getfield 30, 3)) (rfl : vwCl[9]? = some (RX9, TX9, 8)) inX9 (by decide) (xN_c1 76 rfl rfl) rfl, xq_17_12⟩
theorem xq_17_10 : xOKs xsg xm_17 xk_17_0 xk_17_10 := ⟨xok_get (by decide +kernel : decode xm_17.2.1 18 = .ok (.getfield 29, 3)) (rfl : vwCl[1]? = some (RX1, TX1, 8)) inX1 (by decide) (xT_c2 72 rfl rfl) rfl, xq_17_11⟩
theorem xq_17_9 : xOKs xsg xm_17 xk_17_0 xk_17_9 := ⟨xok_ld (xl_aload_n (by decide +kernel : decode xm_17.2.1 17 = .ok (.aload_n 0, 1))) rfl, xq_17_10⟩
theorem xq_17_8 : xOKs xsg xm_17 xk_17_0 xk_17_8 := ⟨xok_ld (xl_aload_n (by decide +kernel : decode xm_17.2.1 16 = .ok (.aload_n 0, 1))) rfl, xq_17_9⟩
theorem xq_17_7 : xOKs xsg xm_17 xk_17_0 xk_17_7 := ⟨xok_put (by decide +kernel : decode xm_17.2.1 13 = .ok (.putfield 29, 3)) (rfl : vwCl[1]? = some (RX1, TX1, 8)) inX1 tyX1_ok nmX1 (k := 3) (by decide) rfl (xT_c2 72 rfl rfl) rfl, xq_17_8⟩
theorem xq_17_6 : xOKs xsg xm_17 xk_17_0 xk_17_6 := ⟨xok_getN (by decide +kernel : decode xm_17.2.1 10 = .ok (.getfield 23, 3)) (rfl : vwCl[4]? = some (RX4, TX4, 15)) inX4 (by decide) (xN_c1 140 rfl rfl) rfl, xq_17_7⟩
theorem xq_17_5 : xOKs xsg xm_17 xk_17_0 xk_17_5 := ⟨xok_get (by decide +kernel : decode xm_17.2.1 7 = .ok (.getfield 9, 3)) (rfl : vwCl[1]? = some (RX1, TX1, 8)) inX1 (by decide) (xT_c2 71 rfl rfl) rfl, xq_17_6⟩
theorem xq_17_4 : xOKs xsg xm_17 xk_17_0 xk_17_4 := ⟨xok_ld (xl_aload_n (by decide +kernel : decode xm_17.2.1 6 = .ok (.aload_n 0, 1))) rfl, xq_17_5⟩
theorem xq_17_3 : xOKs xsg xm_17 xk_17_0 xk_17_3 := ⟨xok_ld (xl_aload_n (by decide +kernel : decode xm_17.2.1 5 = .ok (.aload_n 0, 1))) rfl, xq_17_4⟩
theorem xq_17_2 : xOKs xsg xm_17 xk_17_0 xk_17_2 := ⟨xok_put (by decide +kernel : decode xm_17.2.1 2 = .ok (.putfield 9, 3)) (rfl : vwCl[1]? = some (RX1, TX1, 8)) inX1 tyX1_ok nmX1 (k := 2) (by decide) rfl (xT_c2 71 rfl rfl) rfl, xq_17_3⟩
theorem xq_17_1 : xOKs xsg xm_17 xk_17_0 xk_17_1 := ⟨xok_ld (xl_aload_n (by decide +kernel : decode xm_17.2.1 1 = .ok (.aload_n 1, 1))) rfl, xq_17_2⟩
theorem xq_17_0 : xOKs xsg xm_17 xk_17_0 xk_17_0 := ⟨xok_ld (xl_aload_n (by decide +kernel : decode xm_17.2.1 0 = .ok (.aload_n 0, 1))) rfl, xq_17_1⟩
theorem xz_17 : xwf xsg xm_17 xk_17_0 := ⟨xq_17_0, rfl, by decide⟩
/-! FeatherBench$Machine.<init>(LFeatherBench$Program;LFeatherBench$Shapes;)V -/
theorem xq_18_55 : xOKs xsg xm_18 xk_18_0 xk_18_55 := trivial
theorem xq_18_54 : xOKs xsg xm_18 xk_18_0 xk_18_54 := ⟨xok_ret0 (by decide +kernel : decode xm_18.2.1 110 = .ok (.return_, 1)) rfl, xq_18_55⟩
theorem xq_18_53 : xOKs xsg xm_18 xk_18_0 xk_18_53 := ⟨xok_put (by decide +kernel : decode xm_18.2.1 107 = .ok (.putfield 39, 3)) (rfl : vwCl[2]? = some (RX2, TX2, 15)) inX2 tyX2_ok nmX2 (k := 13) (by decide) rfl (xT_c2 156 rfl rfl) rfl, xq_18_54⟩
theorem xq_18_52 : xOKs xsg xm_18 xk_18_0 xk_18_52 := ⟨xok_p (xp_iconst (v := 5) (by decide +kernel : decode xm_18.2.1 106 = .ok (.iconst 5, 1)) (by decide)) rfl, xq_18_53⟩
theorem xq_18_51 : xOKs xsg xm_18 xk_18_0 xk_18_51 := ⟨xok_ld (xl_aload_n (by decide +kernel : decode xm_18.2.1 105 = .ok (.aload_n 0, 1))) rfl, xq_18_52⟩
theorem xq_18_50 : xOKs xsg xm_18 xk_18_0 xk_18_50 := ⟨xok_br (tgt := 73) (xb_go (by decide +kernel : decode xm_18.2.1 102 = .ok (.goto (-29), 3)) (by decide)) (by decide +kernel) rfl, xq_18_51⟩
theorem xq_18_49 : xOKs xsg xm_18 xk_18_0 xk_18_49 := ⟨xok_inc (by decide +kernel : decode xm_18.2.1 99 = .ok (.iinc 3 1, 3)) (by decide) rfl, xq_18_50⟩
theorem xq_18_48 : xOKs xsg xm_18 xk_18_0 xk_18_48 := ⟨xok_aas (by decide +kernel : decode xm_18.2.1 98 = .ok (.aastore, 1)) rfl, xq_18_49⟩
theorem xq_18_47 : xOKs xsg xm_18 xk_18_0 xk_18_47 := ⟨xok_callI (M' := xm_36) rfl (by decide +kernel : decode xm_18.2.1 95 = .ok (.invokespecial 11, 3)) xn_36 rfl (xT_c1 32 rfl rfl) rfl (xT_c2 136 rfl rfl) rfl, xq_18_48⟩
theorem xq_18_46 : xOKs xsg xm_18 xk_18_0 xk_18_46 := ⟨xok_p (xp_bipush (v := 24) (by decide +kernel : decode xm_18.2.1 93 = .ok (.bipush 24, 2)) (by decide)) rfl, xq_18_47⟩
theorem xq_18_45 : xOKs xsg xm_18 xk_18_0 xk_18_45 := ⟨xok_p (xp_bipush (v := 24) (by decide +kernel : decode xm_18.2.1 91 = .ok (.bipush 24, 2)) (by decide)) rfl, xq_18_46⟩
theorem xq_18_44 : xOKs xsg xm_18 xk_18_0 xk_18_44 := ⟨xok_p (xp_dup (by decide +kernel : decode xm_18.2.1 90 = .ok (.dup, 1))) rfl, xq_18_45⟩
theorem xq_18_43 : xOKs xsg xm_18 xk_18_0 xk_18_43 := ⟨xok_new (by decide +kernel : decode xm_18.2.1 87 = .ok (.new 9, 3)) (rfl : vwCl[6]? = some (RX6, TX6, 3)) inX6 tyX6_ok xdf6_ok (fun _ _ => rfl) (xT_c2 135 rfl rfl) (xT_c1 30 rfl rfl) (xT_c1 2 rfl rfl) rfl, xq_18_44⟩
theorem xq_18_42 : xOKs xsg xm_18 xk_18_0 xk_18_42 := ⟨xok_ld (xl_iload_n (by decide +kernel : decode xm_18.2.1 86 = .ok (.iload_n 3, 1))) rfl, xq_18_43⟩
theorem xq_18_41 : xOKs xsg xm_18 xk_18_0 xk_18_41 := ⟨xok_get (by decide +kernel : decode xm_18.2.1 83 = .ok (.getfield 23, 3)) (rfl : vwCl[2]? = some (RX2, TX2, 15)) inX2 (by decide) (xT_c2 142 rfl rfl) rfl, xq_18_42⟩
theorem xq_18_40 : xOKs xsg xm_18 xk_18_0 xk_18_40 := ⟨xok_ld (xl_aload_n (by decide +kernel : decode xm_18.2.1 82 = .ok (.aload_n 0, 1))) rfl, xq_18_41⟩
theorem xq_18_39 : xOKs xsg xm_18 xk_18_0 xk_18_39 := ⟨xok_br (tgt := 105) (xb_ige (by decide +kernel : decode xm_18.2.1 79 = .ok (.if_icmp .ge 26, 3)) (by decide)) (by decide +kernel) rfl, xq_18_40⟩
theorem xq_18_38 : xOKs xsg xm_18 xk_18_0 xk_18_38 := ⟨xok_len (by decide +kernel : decode xm_18.2.1 78 = .ok (.arraylength, 1)) rfl, xq_18_39⟩
theorem xq_18_37 : xOKs xsg xm_18 xk_18_0 xk_18_37 := ⟨xok_get (by decide +kernel : decode xm_18.2.1 75 = .ok (.getfield 23, 3)) (rfl : vwCl[2]? = some (RX2, TX2, 15)) inX2 (by decide) (xT_c2 142 rfl rfl) rfl, xq_18_38⟩
theorem xq_18_36 : xOKs xsg xm_18 xk_18_0 xk_18_36 := ⟨xok_ld (xl_aload_n (by decide +kernel : decode xm_18.2.1 74 = .ok (.aload_n 0, 1))) rfl, xq_18_37⟩
theorem xq_18_35 : xOKs xsg xm_18 xk_18_0 xk_18_35 := ⟨xok_ld (xl_iload_n (by decide +kernel : decode xm_18.2.1 73 = .ok (.iload_n 3, 1))) rfl, xq_18_36⟩
theorem xq_18_34 : xOKs xsg xm_18 xk_18_0 xk_18_34 := ⟨xok_st (xs_istore_n (by decide +kernel : decode xm_18.2.1 72 = .ok (.istore_n 3, 1)) (by decide)) rfl, xq_18_35⟩
theorem xq_18_33 : xOKs xsg xm_18 xk_18_0 xk_18_33 := ⟨xok_p (xp_iconst (v := 0) (by decide +kernel : decode xm_18.2.1 71 = .ok (.iconst 0, 1)) (by decide)) rfl, xq_18_34⟩
theorem xq_18_32 : xOKs xsg xm_18 xk_18_0 xk_18_32 := ⟨xok_putF (by decide +kernel : decode xm_18.2.1 68 = .ok (.putfield 35, 3)) (rfl : vwCl[2]? = some (RX2, TX2, 15)) inX2 tyX2_ok nmX2 (k := 0) (by decide) rfl rfl rfl (xT_c2 139 rfl rfl) rfl, xq_18_33⟩
theorem xq_18_31 : xOKs xsg xm_18 xk_18_0 xk_18_31 := ⟨xok_ld (xl_aload_n (by decide +kernel : decode xm_18.2.1 67 = .ok (.aload_n 2, 1))) rfl, xq_18_32⟩
theorem xq_18_30 : xOKs xsg xm_18 xk_18_0 xk_18_30 := ⟨xok_ld (xl_aload_n (by decide +kernel : decode xm_18.2.1 66 = .ok (.aload_n 0, 1))) rfl, xq_18_31⟩
theorem xq_18_29 : xOKs xsg xm_18 xk_18_0 xk_18_29 := ⟨xok_put (by decide +kernel : decode xm_18.2.1 63 = .ok (.putfield 31, 3)) (rfl : vwCl[2]? = some (RX2, TX2, 15)) inX2 tyX2_ok nmX2 (k := 5) (by decide) rfl (xT_c2 145 rfl rfl) rfl, xq_18_30⟩
theorem xq_18_28 : xOKs xsg xm_18 xk_18_0 xk_18_28 := ⟨xok_ld (xl_aload_n (by decide +kernel : decode xm_18.2.1 62 = .ok (.aload_n 1, 1))) rfl, xq_18_29⟩
theorem xq_18_27 : xOKs xsg xm_18 xk_18_0 xk_18_27 := ⟨xok_ld (xl_aload_n (by decide +kernel : decode xm_18.2.1 61 = .ok (.aload_n 0, 1))) rfl, xq_18_28⟩
theorem xq_18_26 : xOKs xsg xm_18 xk_18_0 xk_18_26 := ⟨xok_putF (by decide +kernel : decode xm_18.2.1 58 = .ok (.putfield 28, 3)) (rfl : vwCl[2]? = some (RX2, TX2, 15)) inX2 tyX2_ok nmX2 (k := 4) (by decide) rfl rfl rfl (xT_c2 143 rfl rfl) rfl, xq_18_27⟩
theorem xq_18_25 : xOKs xsg xm_18 xk_18_0 xk_18_25 := ⟨xok_callI (M' := xm_36) rfl (by decide +kernel : decode xm_18.2.1 55 = .ok (.invokespecial 11, 3)) xn_36 rfl (xT_c1 32 rfl rfl) rfl (xT_c2 136 rfl rfl) rfl, xq_18_26⟩
theorem xq_18_24 : xOKs xsg xm_18 xk_18_0 xk_18_24 := ⟨xok_p (xp_ldc (v := 35000) (by decide +kernel : decode xm_18.2.1 53 = .ok (.ldc 27, 2)) (xT_c2 138 rfl rfl)) rfl, xq_18_25⟩
theorem xq_18_23 : xOKs xsg xm_18 xk_18_0 xk_18_23 := ⟨xok_p (xp_sipush (v := 300) (by decide +kernel : decode xm_18.2.1 50 = .ok (.sipush 300, 3)) (by decide)) rfl, xq_18_24⟩
theorem xq_18_22 : xOKs xsg xm_18 xk_18_0 xk_18_22 := ⟨xok_p (xp_dup (by decide +kernel : decode xm_18.2.1 49 = .ok (.dup, 1))) rfl, xq_18_23⟩
theorem xq_18_21 : xOKs xsg xm_18 xk_18_0 xk_18_21 := ⟨xok_new (by decide +kernel : decode xm_18.2.1 46 = .ok (.new 9, 3)) (rfl : vwCl[6]? = some (RX6, TX6, 3)) inX6 tyX6_ok xdf6_ok (fun _ _ => rfl) (xT_c2 135 rfl rfl) (xT_c1 30 rfl rfl) (xT_c1 2 rfl rfl) rfl, xq_18_22⟩
theorem xq_18_20 : xOKs xsg xm_18 xk_18_0 xk_18_20 := ⟨xok_ld (xl_aload_n (by decide +kernel : decode xm_18.2.1 45 = .ok (.aload_n 0, 1))) rfl, xq_18_21⟩
theorem xq_18_19 : xOKs xsg xm_18 xk_18_0 xk_18_19 := ⟨xok_putF (by decide +kernel : decode xm_18.2.1 42 = .ok (.putfield 23, 3)) (rfl : vwCl[2]? = some (RX2, TX2, 15)) inX2 tyX2_ok nmX2 (k := 3) (by decide) rfl rfl rfl (xT_c2 142 rfl rfl) rfl, xq_18_20⟩
theorem xq_18_18 : xOKs xsg xm_18 xk_18_0 xk_18_18 := ⟨xok_newq (by decide +kernel : decode xm_18.2.1 39 = .ok (.anewarray 9, 3)) (xT_c2 135 rfl rfl) rfl, xq_18_19⟩
theorem xq_18_17 : xOKs xsg xm_18 xk_18_0 xk_18_17 := ⟨xok_p (xp_bipush (v := 42) (by decide +kernel : decode xm_18.2.1 37 = .ok (.bipush 42, 2)) (by decide)) rfl, xq_18_18⟩
theorem xq_18_16 : xOKs xsg xm_18 xk_18_0 xk_18_16 := ⟨xok_ld (xl_aload_n (by decide +kernel : decode xm_18.2.1 36 = .ok (.aload_n 0, 1))) rfl, xq_18_17⟩
theorem xq_18_15 : xOKs xsg xm_18 xk_18_0 xk_18_15 := ⟨xok_putF (by decide +kernel : decode xm_18.2.1 33 = .ok (.putfield 20, 3)) (rfl : vwCl[2]? = some (RX2, TX2, 15)) inX2 tyX2_ok nmX2 (k := 2) (by decide) rfl rfl rfl (xT_c2 141 rfl rfl) rfl, xq_18_16⟩
theorem xq_18_14 : xOKs xsg xm_18 xk_18_0 xk_18_14 := ⟨xok_callI (M' := xm_36) rfl (by decide +kernel : decode xm_18.2.1 30 = .ok (.invokespecial 11, 3)) xn_36 rfl (xT_c1 32 rfl rfl) rfl (xT_c2 136 rfl rfl) rfl, xq_18_15⟩
theorem xq_18_13 : xOKs xsg xm_18 xk_18_0 xk_18_13 := ⟨xok_p (xp_bipush (v := 82) (by decide +kernel : decode xm_18.2.1 28 = .ok (.bipush 82, 2)) (by decide)) rfl, xq_18_14⟩
theorem xq_18_12 : xOKs xsg xm_18 xk_18_0 xk_18_12 := ⟨xok_p (xp_bipush (v := 82) (by decide +kernel : decode xm_18.2.1 26 = .ok (.bipush 82, 2)) (by decide)) rfl, xq_18_13⟩
theorem xq_18_11 : xOKs xsg xm_18 xk_18_0 xk_18_11 := ⟨xok_p (xp_dup (by decide +kernel : decode xm_18.2.1 25 = .ok (.dup, 1))) rfl, xq_18_12⟩
theorem xq_18_10 : xOKs xsg xm_18 xk_18_0 xk_18_10 := ⟨xok_new (by decide +kernel : decode xm_18.2.1 22 = .ok (.new 9, 3)) (rfl : vwCl[6]? = some (RX6, TX6, 3)) inX6 tyX6_ok xdf6_ok (fun _ _ => rfl) (xT_c2 135 rfl rfl) (xT_c1 30 rfl rfl) (xT_c1 2 rfl rfl) rfl, xq_18_11⟩
theorem xq_18_9 : xOKs xsg xm_18 xk_18_0 xk_18_9 := ⟨xok_ld (xl_aload_n (by decide +kernel : decode xm_18.2.1 21 = .ok (.aload_n 0, 1))) rfl, xq_18_10⟩
theorem xq_18_8 : xOKs xsg xm_18 xk_18_0 xk_18_8 := ⟨xok_putF (by decide +kernel : decode xm_18.2.1 18 = .ok (.putfield 14, 3)) (rfl : vwCl[2]? = some (RX2, TX2, 15)) inX2 tyX2_ok nmX2 (k := 1) (by decide) rfl rfl rfl (xT_c2 140 rfl rfl) rfl, xq_18_9⟩
theorem xq_18_7 : xOKs xsg xm_18 xk_18_0 xk_18_7 := ⟨xok_callI (M' := xm_36) rfl (by decide +kernel : decode xm_18.2.1 15 = .ok (.invokespecial 11, 3)) xn_36 rfl (xT_c1 32 rfl rfl) rfl (xT_c2 136 rfl rfl) rfl, xq_18_8⟩
theorem xq_18_6 : xOKs xsg xm_18 xk_18_0 xk_18_6 := ⟨xok_p (xp_sipush (v := 4000) (by decide +kernel : decode xm_18.2.1 12 = .ok (.sipush 4000, 3)) (by decide)) rfl, xq_18_7⟩
theorem xq_18_5 : xOKs xsg xm_18 xk_18_0 xk_18_5 := ⟨xok_p (xp_sipush (v := 300) (by decide +kernel : decode xm_18.2.1 9 = .ok (.sipush 300, 3)) (by decide)) rfl, xq_18_6⟩
theorem xq_18_4 : xOKs xsg xm_18 xk_18_0 xk_18_4 := ⟨xok_p (xp_dup (by decide +kernel : decode xm_18.2.1 8 = .ok (.dup, 1))) rfl, xq_18_5⟩
theorem xq_18_3 : xOKs xsg xm_18 xk_18_0 xk_18_3 := ⟨xok_new (by decide +kernel : decode xm_18.2.1 5 = .ok (.new 9, 3)) (rfl : vwCl[6]? = some (RX6, TX6, 3)) inX6 tyX6_ok xdf6_ok (fun _ _ => rfl) (xT_c2 135 rfl rfl) (xT_c1 30 rfl rfl) (xT_c1 2 rfl rfl) rfl, xq_18_4⟩
theorem xq_18_2 : xOKs xsg xm_18 xk_18_0 xk_18_2 := ⟨xok_ld (xl_aload_n (by decide +kernel : decode xm_18.2.1 4 = .ok (.aload_n 0, 1))) rfl, xq_18_3⟩
theorem xq_18_1 : xOKs xsg xm_18 xk_18_0 xk_18_1 := ⟨xok_obj (by decide +kernel : decode xm_18.2.1 1 = .ok (.invokespecial 3, 3)) (xT_c2 134 rfl rfl) xw_o2 xw_o3 rfl, xq_18_2⟩
theorem xq_18_0 : xOKs xsg xm_18 xk_18_0 xk_18_0 := ⟨xok_ld (xl_aload_n (by decide +kernel : decode xm_18.2.1 0 = .ok (.aload_n 0, 1))) rfl, xq_18_1⟩
theorem xz_18 : xwf xsg xm_18 xk_18_0 := ⟨xq_18_0, rfl, by decide⟩
/-! FeatherBench$Press.<init>(LFeatherBench$Program;)V -/
theorem xq_19_27 : xOKs xsg xm_19 xk_19_0 xk_19_27 := trivial
theorem xq_19_26 : xOKs xsg xm_19 xk_19_0 xk_19_26 := ⟨xok_ret0 (by decide +kernel : decode xm_19.2.1 57 = .ok (.return_, 1)) rfl, xq_19_27⟩
theorem xq_19_25 : xOKs xsg xm_19 xk_19_0 xk_19_25 := ⟨xok_put (by decide +kernel : decode xm_19.2.1 54 = .ok (.putfield 26, 3)) (rfl : vwCl[3]? = some (RX3, TX3, 4)) inX3 tyX3_ok nmX3 (k := 3) (by decide) rfl (xT_c3 8 rfl rfl) rfl, xq_19_26⟩
theorem xq_19_24 : xOKs xsg xm_19 xk_19_0 xk_19_24 := ⟨xok_ld (xl_aload_n (by decide +kernel : decode xm_19.2.1 53 = .ok (.aload_n 1, 1))) rfl, xq_19_25⟩
theorem xq_19_23 : xOKs xsg xm_19 xk_19_0 xk_19_23 := ⟨xok_ld (xl_aload_n (by decide +kernel : decode xm_19.2.1 52 = .ok (.aload_n 0, 1))) rfl, xq_19_24⟩
theorem xq_19_22 : xOKs xsg xm_19 xk_19_0 xk_19_22 := ⟨xok_putF (by decide +kernel : decode xm_19.2.1 49 = .ok (.putfield 23, 3)) (rfl : vwCl[3]? = some (RX3, TX3, 4)) inX3 tyX3_ok nmX3 (k := 2) (by decide) rfl rfl rfl (xT_c3 7 rfl rfl) rfl, xq_19_23⟩
theorem xq_19_21 : xOKs xsg xm_19 xk_19_0 xk_19_21 := ⟨xok_callI (M' := xm_36) rfl (by decide +kernel : decode xm_19.2.1 46 = .ok (.invokespecial 11, 3)) xn_36 rfl (xT_c1 32 rfl rfl) rfl (xT_c3 3 rfl rfl) rfl, xq_19_22⟩
theorem xq_19_20 : xOKs xsg xm_19 xk_19_0 xk_19_20 := ⟨xok_p (xp_bipush (v := 61) (by decide +kernel : decode xm_19.2.1 44 = .ok (.bipush 61, 2)) (by decide)) rfl, xq_19_21⟩
theorem xq_19_19 : xOKs xsg xm_19 xk_19_0 xk_19_19 := ⟨xok_p (xp_bipush (v := 61) (by decide +kernel : decode xm_19.2.1 42 = .ok (.bipush 61, 2)) (by decide)) rfl, xq_19_20⟩
theorem xq_19_18 : xOKs xsg xm_19 xk_19_0 xk_19_18 := ⟨xok_p (xp_dup (by decide +kernel : decode xm_19.2.1 41 = .ok (.dup, 1))) rfl, xq_19_19⟩
theorem xq_19_17 : xOKs xsg xm_19 xk_19_0 xk_19_17 := ⟨xok_new (by decide +kernel : decode xm_19.2.1 38 = .ok (.new 9, 3)) (rfl : vwCl[6]? = some (RX6, TX6, 3)) inX6 tyX6_ok xdf6_ok (fun _ _ => rfl) (xT_c3 2 rfl rfl) (xT_c1 30 rfl rfl) (xT_c1 2 rfl rfl) rfl, xq_19_18⟩
theorem xq_19_16 : xOKs xsg xm_19 xk_19_0 xk_19_16 := ⟨xok_ld (xl_aload_n (by decide +kernel : decode xm_19.2.1 37 = .ok (.aload_n 0, 1))) rfl, xq_19_17⟩
theorem xq_19_15 : xOKs xsg xm_19 xk_19_0 xk_19_15 := ⟨xok_putF (by decide +kernel : decode xm_19.2.1 34 = .ok (.putfield 20, 3)) (rfl : vwCl[3]? = some (RX3, TX3, 4)) inX3 tyX3_ok nmX3 (k := 1) (by decide) rfl rfl rfl (xT_c3 6 rfl rfl) rfl, xq_19_16⟩
theorem xq_19_14 : xOKs xsg xm_19 xk_19_0 xk_19_14 := ⟨xok_callI (M' := xm_36) rfl (by decide +kernel : decode xm_19.2.1 31 = .ok (.invokespecial 11, 3)) xn_36 rfl (xT_c1 32 rfl rfl) rfl (xT_c3 3 rfl rfl) rfl, xq_19_15⟩
theorem xq_19_13 : xOKs xsg xm_19 xk_19_0 xk_19_13 := ⟨xok_p (xp_sipush (v := 4000) (by decide +kernel : decode xm_19.2.1 28 = .ok (.sipush 4000, 3)) (by decide)) rfl, xq_19_14⟩
theorem xq_19_12 : xOKs xsg xm_19 xk_19_0 xk_19_12 := ⟨xok_p (xp_bipush (v := 100) (by decide +kernel : decode xm_19.2.1 26 = .ok (.bipush 100, 2)) (by decide)) rfl, xq_19_13⟩
theorem xq_19_11 : xOKs xsg xm_19 xk_19_0 xk_19_11 := ⟨xok_p (xp_dup (by decide +kernel : decode xm_19.2.1 25 = .ok (.dup, 1))) rfl, xq_19_12⟩
theorem xq_19_10 : xOKs xsg xm_19 xk_19_0 xk_19_10 := ⟨xok_new (by decide +kernel : decode xm_19.2.1 22 = .ok (.new 9, 3)) (rfl : vwCl[6]? = some (RX6, TX6, 3)) inX6 tyX6_ok xdf6_ok (fun _ _ => rfl) (xT_c3 2 rfl rfl) (xT_c1 30 rfl rfl) (xT_c1 2 rfl rfl) rfl, xq_19_11⟩
theorem xq_19_9 : xOKs xsg xm_19 xk_19_0 xk_19_9 := ⟨xok_ld (xl_aload_n (by decide +kernel : decode xm_19.2.1 21 = .ok (.aload_n 0, 1))) rfl, xq_19_10⟩
theorem xq_19_8 : xOKs xsg xm_19 xk_19_0 xk_19_8 := ⟨xok_putF (by decide +kernel : decode xm_19.2.1 18 = .ok (.putfield 14, 3)) (rfl : vwCl[3]? = some (RX3, TX3, 4)) inX3 tyX3_ok nmX3 (k := 0) (by decide) rfl rfl rfl (xT_c3 4 rfl rfl) rfl, xq_19_9⟩
theorem xq_19_7 : xOKs xsg xm_19 xk_19_0 xk_19_7 := ⟨xok_callI (M' := xm_36) rfl (by decide +kernel : decode xm_19.2.1 15 = .ok (.invokespecial 11, 3)) xn_36 rfl (xT_c1 32 rfl rfl) rfl (xT_c3 3 rfl rfl) rfl, xq_19_8⟩
theorem xq_19_6 : xOKs xsg xm_19 xk_19_0 xk_19_6 := ⟨xok_p (xp_sipush (v := 2000) (by decide +kernel : decode xm_19.2.1 12 = .ok (.sipush 2000, 3)) (by decide)) rfl, xq_19_7⟩
theorem xq_19_5 : xOKs xsg xm_19 xk_19_0 xk_19_5 := ⟨xok_p (xp_sipush (v := 300) (by decide +kernel : decode xm_19.2.1 9 = .ok (.sipush 300, 3)) (by decide)) rfl, xq_19_6⟩
theorem xq_19_4 : xOKs xsg xm_19 xk_19_0 xk_19_4 := ⟨xok_p (xp_dup (by decide +kernel : decode xm_19.2.1 8 = .ok (.dup, 1))) rfl, xq_19_5⟩
theorem xq_19_3 : xOKs xsg xm_19 xk_19_0 xk_19_3 := ⟨xok_new (by decide +kernel : decode xm_19.2.1 5 = .ok (.new 9, 3)) (rfl : vwCl[6]? = some (RX6, TX6, 3)) inX6 tyX6_ok xdf6_ok (fun _ _ => rfl) (xT_c3 2 rfl rfl) (xT_c1 30 rfl rfl) (xT_c1 2 rfl rfl) rfl, xq_19_4⟩
theorem xq_19_2 : xOKs xsg xm_19 xk_19_0 xk_19_2 := ⟨xok_ld (xl_aload_n (by decide +kernel : decode xm_19.2.1 4 = .ok (.aload_n 0, 1))) rfl, xq_19_3⟩
theorem xq_19_1 : xOKs xsg xm_19 xk_19_0 xk_19_1 := ⟨xok_obj (by decide +kernel : decode xm_19.2.1 1 = .ok (.invokespecial 3, 3)) (xT_c3 1 rfl rfl) xw_o2 xw_o3 rfl, xq_19_2⟩
theorem xq_19_0 : xOKs xsg xm_19 xk_19_0 xk_19_0 := ⟨xok_ld (xl_aload_n (by decide +kernel : decode xm_19.2.1 0 = .ok (.aload_n 0, 1))) rfl, xq_19_1⟩
theorem xz_19 : xwf xsg xm_19 xk_19_0 := ⟨xq_19_0, rfl, by decide⟩
/-! FeatherBench$Program.<init>()V -/
theorem xq_20_85 : xOKs xsg xm_20 xk_20_0 xk_20_85 := trivial
theorem xq_20_84 : xOKs xsg xm_20 xk_20_0 xk_20_84 := ⟨xok_ret0 (by decide +kernel : decode xm_20.2.1 187 = .ok (.return_, 1)) rfl, xq_20_85⟩
theorem xq_20_83 : xOKs xsg xm_20 xk_20_0 xk_20_83 := ⟨xok_br (tgt := 163) (xb_go (by decide +kernel : decode xm_20.2.1 184 = .ok (.goto (-21), 3)) (by decide)) (by decide +kernel) rfl, xq_20_84⟩
theorem xq_20_82 : xOKs xsg xm_20 xk_20_0 xk_20_82 := ⟨xok_inc (by decide +kernel : decode xm_20.2.1 181 = .ok (.iinc 1 1, 3)) (by decide) rfl, xq_20_83⟩
theorem xq_20_81 : xOKs xsg xm_20 xk_20_0 xk_20_81 := ⟨xok_callV (M' := xm_38) rfl (rfl : vwCl[6]? = some (RX6, TX6, 3)) (by decide +kernel : decode xm_20.2.1 178 = .ok (.invokevirtual 53, 3)) xn_38 (xT_c1 120 rfl rfl) (xT_c1 121 rfl rfl) (xT_c1 119 rfl rfl) rfl, xq_20_82⟩
theorem xq_20_80 : xOKs xsg xm_20 xk_20_0 xk_20_80 := ⟨xok_p (xp_iadd (by decide +kernel : decode xm_20.2.1 177 = .ok (.iadd, 1))) rfl, xq_20_81⟩
theorem xq_20_79 : xOKs xsg xm_20 xk_20_0 xk_20_79 := ⟨xok_ld (xl_iload_n (by decide +kernel : decode xm_20.2.1 176 = .ok (.iload_n 1, 1))) rfl, xq_20_80⟩
theorem xq_20_78 : xOKs xsg xm_20 xk_20_0 xk_20_78 := ⟨xok_p (xp_bipush (v := 24) (by decide +kernel : decode xm_20.2.1 174 = .ok (.bipush 24, 2)) (by decide)) rfl, xq_20_79⟩
theorem xq_20_77 : xOKs xsg xm_20 xk_20_0 xk_20_77 := ⟨xok_ld (xl_iload_n (by decide +kernel : decode xm_20.2.1 173 = .ok (.iload_n 1, 1))) rfl, xq_20_78⟩
theorem xq_20_76 : xOKs xsg xm_20 xk_20_0 xk_20_76 := ⟨xok_get (by decide +kernel : decode xm_20.2.1 170 = .ok (.getfield 24, 3)) (rfl : vwCl[4]? = some (RX4, TX4, 15)) inX4 (by decide) (xT_c1 142 rfl rfl) rfl, xq_20_77⟩
theorem xq_20_75 : xOKs xsg xm_20 xk_20_0 xk_20_75 := ⟨xok_ld (xl_aload_n (by decide +kernel : decode xm_20.2.1 169 = .ok (.aload_n 0, 1))) rfl, xq_20_76⟩
theorem xq_20_74 : xOKs xsg xm_20 xk_20_0 xk_20_74 := ⟨xok_br (tgt := 187) (xb_ige (by decide +kernel : decode xm_20.2.1 166 = .ok (.if_icmp .ge 21, 3)) (by decide)) (by decide +kernel) rfl, xq_20_75⟩
theorem xq_20_73 : xOKs xsg xm_20 xk_20_0 xk_20_73 := ⟨xok_p (xp_bipush (v := 18) (by decide +kernel : decode xm_20.2.1 164 = .ok (.bipush 18, 2)) (by decide)) rfl, xq_20_74⟩
theorem xq_20_72 : xOKs xsg xm_20 xk_20_0 xk_20_72 := ⟨xok_ld (xl_iload_n (by decide +kernel : decode xm_20.2.1 163 = .ok (.iload_n 1, 1))) rfl, xq_20_73⟩
theorem xq_20_71 : xOKs xsg xm_20 xk_20_0 xk_20_71 := ⟨xok_st (xs_istore_n (by decide +kernel : decode xm_20.2.1 162 = .ok (.istore_n 1, 1)) (by decide)) rfl, xq_20_72⟩
theorem xq_20_70 : xOKs xsg xm_20 xk_20_0 xk_20_70 := ⟨xok_p (xp_iconst (v := 0) (by decide +kernel : decode xm_20.2.1 161 = .ok (.iconst 0, 1)) (by decide)) rfl, xq_20_71⟩
theorem xq_20_69 : xOKs xsg xm_20 xk_20_0 xk_20_69 := ⟨xok_putF (by decide +kernel : decode xm_20.2.1 158 = .ok (.putfield 50, 3)) (rfl : vwCl[4]? = some (RX4, TX4, 15)) inX4 tyX4_ok nmX4 (k := 9) (by decide) rfl rfl rfl (xT_c1 166 rfl rfl) rfl, xq_20_70⟩
theorem xq_20_68 : xOKs xsg xm_20 xk_20_0 xk_20_68 := ⟨xok_callI (M' := xm_36) rfl (by decide +kernel : decode xm_20.2.1 155 = .ok (.invokespecial 21, 3)) xn_36 rfl (xT_c1 32 rfl rfl) rfl (xT_c1 117 rfl rfl) rfl, xq_20_69⟩
theorem xq_20_67 : xOKs xsg xm_20 xk_20_0 xk_20_67 := ⟨xok_p (xp_sipush (v := 24000) (by decide +kernel : decode xm_20.2.1 152 = .ok (.sipush 24000, 3)) (by decide)) rfl, xq_20_68⟩
theorem xq_20_66 : xOKs xsg xm_20 xk_20_0 xk_20_66 := ⟨xok_p (xp_sipush (v := 600) (by decide +kernel : decode xm_20.2.1 149 = .ok (.sipush 600, 3)) (by decide)) rfl, xq_20_67⟩
theorem xq_20_65 : xOKs xsg xm_20 xk_20_0 xk_20_65 := ⟨xok_p (xp_dup (by decide +kernel : decode xm_20.2.1 148 = .ok (.dup, 1))) rfl, xq_20_66⟩
theorem xq_20_64 : xOKs xsg xm_20 xk_20_0 xk_20_64 := ⟨xok_new (by decide +kernel : decode xm_20.2.1 145 = .ok (.new 18, 3)) (rfl : vwCl[6]? = some (RX6, TX6, 3)) inX6 tyX6_ok xdf6_ok (fun _ _ => rfl) (xT_c1 115 rfl rfl) (xT_c1 30 rfl rfl) (xT_c1 2 rfl rfl) rfl, xq_20_65⟩
theorem xq_20_63 : xOKs xsg xm_20 xk_20_0 xk_20_63 := ⟨xok_ld (xl_aload_n (by decide +kernel : decode xm_20.2.1 144 = .ok (.aload_n 0, 1))) rfl, xq_20_64⟩
theorem xq_20_62 : xOKs xsg xm_20 xk_20_0 xk_20_62 := ⟨xok_putF (by decide +kernel : decode xm_20.2.1 141 = .ok (.putfield 47, 3)) (rfl : vwCl[4]? = some (RX4, TX4, 15)) inX4 tyX4_ok nmX4 (k := 8) (by decide) rfl rfl rfl (xT_c1 165 rfl rfl) rfl, xq_20_63⟩
theorem xq_20_61 : xOKs xsg xm_20 xk_20_0 xk_20_61 := ⟨xok_callI (M' := xm_36) rfl (by decide +kernel : decode xm_20.2.1 138 = .ok (.invokespecial 21, 3)) xn_36 rfl (xT_c1 32 rfl rfl) rfl (xT_c1 117 rfl rfl) rfl, xq_20_62⟩
theorem xq_20_60 : xOKs xsg xm_20 xk_20_0 xk_20_60 := ⟨xok_p (xp_sipush (v := 252) (by decide +kernel : decode xm_20.2.1 135 = .ok (.sipush 252, 3)) (by decide)) rfl, xq_20_61⟩
theorem xq_20_59 : xOKs xsg xm_20 xk_20_0 xk_20_59 := ⟨xok_p (xp_bipush (v := 90) (by decide +kernel : decode xm_20.2.1 133 = .ok (.bipush 90, 2)) (by decide)) rfl, xq_20_60⟩
theorem xq_20_58 : xOKs xsg xm_20 xk_20_0 xk_20_58 := ⟨xok_p (xp_dup (by decide +kernel : decode xm_20.2.1 132 = .ok (.dup, 1))) rfl, xq_20_59⟩
theorem xq_20_57 : xOKs xsg xm_20 xk_20_0 xk_20_57 := ⟨xok_new (by decide +kernel : decode xm_20.2.1 129 = .ok (.new 18, 3)) (rfl : vwCl[6]? = some (RX6, TX6, 3)) inX6 tyX6_ok xdf6_ok (fun _ _ => rfl) (xT_c1 115 rfl rfl) (xT_c1 30 rfl rfl) (xT_c1 2 rfl rfl) rfl, xq_20_58⟩
theorem xq_20_56 : xOKs xsg xm_20 xk_20_0 xk_20_56 := ⟨xok_ld (xl_aload_n (by decide +kernel : decode xm_20.2.1 128 = .ok (.aload_n 0, 1))) rfl, xq_20_57⟩
theorem xq_20_55 : xOKs xsg xm_20 xk_20_0 xk_20_55 := ⟨xok_putF (by decide +kernel : decode xm_20.2.1 125 = .ok (.putfield 44, 3)) (rfl : vwCl[4]? = some (RX4, TX4, 15)) inX4 tyX4_ok nmX4 (k := 7) (by decide) rfl rfl rfl (xT_c1 163 rfl rfl) rfl, xq_20_56⟩
theorem xq_20_54 : xOKs xsg xm_20 xk_20_0 xk_20_54 := ⟨xok_callI (M' := xm_36) rfl (by decide +kernel : decode xm_20.2.1 122 = .ok (.invokespecial 21, 3)) xn_36 rfl (xT_c1 32 rfl rfl) rfl (xT_c1 117 rfl rfl) rfl, xq_20_55⟩
theorem xq_20_53 : xOKs xsg xm_20 xk_20_0 xk_20_53 := ⟨xok_p (xp_sipush (v := 20000) (by decide +kernel : decode xm_20.2.1 119 = .ok (.sipush 20000, 3)) (by decide)) rfl, xq_20_54⟩
theorem xq_20_52 : xOKs xsg xm_20 xk_20_0 xk_20_52 := ⟨xok_p (xp_sipush (v := 400) (by decide +kernel : decode xm_20.2.1 116 = .ok (.sipush 400, 3)) (by decide)) rfl, xq_20_53⟩
theorem xq_20_51 : xOKs xsg xm_20 xk_20_0 xk_20_51 := ⟨xok_p (xp_dup (by decide +kernel : decode xm_20.2.1 115 = .ok (.dup, 1))) rfl, xq_20_52⟩
theorem xq_20_50 : xOKs xsg xm_20 xk_20_0 xk_20_50 := ⟨xok_new (by decide +kernel : decode xm_20.2.1 112 = .ok (.new 18, 3)) (rfl : vwCl[6]? = some (RX6, TX6, 3)) inX6 tyX6_ok xdf6_ok (fun _ _ => rfl) (xT_c1 115 rfl rfl) (xT_c1 30 rfl rfl) (xT_c1 2 rfl rfl) rfl, xq_20_51⟩
theorem xq_20_49 : xOKs xsg xm_20 xk_20_0 xk_20_49 := ⟨xok_ld (xl_aload_n (by decide +kernel : decode xm_20.2.1 111 = .ok (.aload_n 0, 1))) rfl, xq_20_50⟩
theorem xq_20_48 : xOKs xsg xm_20 xk_20_0 xk_20_48 := ⟨xok_putF (by decide +kernel : decode xm_20.2.1 108 = .ok (.putfield 41, 3)) (rfl : vwCl[4]? = some (RX4, TX4, 15)) inX4 tyX4_ok nmX4 (k := 6) (by decide) rfl rfl rfl (xT_c1 162 rfl rfl) rfl, xq_20_49⟩
theorem xq_20_47 : xOKs xsg xm_20 xk_20_0 xk_20_47 := ⟨xok_callI (M' := xm_36) rfl (by decide +kernel : decode xm_20.2.1 105 = .ok (.invokespecial 21, 3)) xn_36 rfl (xT_c1 32 rfl rfl) rfl (xT_c1 117 rfl rfl) rfl, xq_20_48⟩
theorem xq_20_46 : xOKs xsg xm_20 xk_20_0 xk_20_46 := ⟨xok_p (xp_sipush (v := 20000) (by decide +kernel : decode xm_20.2.1 102 = .ok (.sipush 20000, 3)) (by decide)) rfl, xq_20_47⟩
theorem xq_20_45 : xOKs xsg xm_20 xk_20_0 xk_20_45 := ⟨xok_p (xp_bipush (v := 100) (by decide +kernel : decode xm_20.2.1 100 = .ok (.bipush 100, 2)) (by decide)) rfl, xq_20_46⟩
theorem xq_20_44 : xOKs xsg xm_20 xk_20_0 xk_20_44 := ⟨xok_p (xp_dup (by decide +kernel : decode xm_20.2.1 99 = .ok (.dup, 1))) rfl, xq_20_45⟩
theorem xq_20_43 : xOKs xsg xm_20 xk_20_0 xk_20_43 := ⟨xok_new (by decide +kernel : decode xm_20.2.1 96 = .ok (.new 18, 3)) (rfl : vwCl[6]? = some (RX6, TX6, 3)) inX6 tyX6_ok xdf6_ok (fun _ _ => rfl) (xT_c1 115 rfl rfl) (xT_c1 30 rfl rfl) (xT_c1 2 rfl rfl) rfl, xq_20_44⟩
theorem xq_20_42 : xOKs xsg xm_20 xk_20_0 xk_20_42 := ⟨xok_ld (xl_aload_n (by decide +kernel : decode xm_20.2.1 95 = .ok (.aload_n 0, 1))) rfl, xq_20_43⟩
theorem xq_20_41 : xOKs xsg xm_20 xk_20_0 xk_20_41 := ⟨xok_putF (by decide +kernel : decode xm_20.2.1 92 = .ok (.putfield 38, 3)) (rfl : vwCl[4]? = some (RX4, TX4, 15)) inX4 tyX4_ok nmX4 (k := 5) (by decide) rfl rfl rfl (xT_c1 159 rfl rfl) rfl, xq_20_42⟩
theorem xq_20_40 : xOKs xsg xm_20 xk_20_0 xk_20_40 := ⟨xok_callI (M' := xm_36) rfl (by decide +kernel : decode xm_20.2.1 89 = .ok (.invokespecial 21, 3)) xn_36 rfl (xT_c1 32 rfl rfl) rfl (xT_c1 117 rfl rfl) rfl, xq_20_41⟩
theorem xq_20_39 : xOKs xsg xm_20 xk_20_0 xk_20_39 := ⟨xok_p (xp_sipush (v := 600) (by decide +kernel : decode xm_20.2.1 86 = .ok (.sipush 600, 3)) (by decide)) rfl, xq_20_40⟩
theorem xq_20_38 : xOKs xsg xm_20 xk_20_0 xk_20_38 := ⟨xok_p (xp_bipush (v := 100) (by decide +kernel : decode xm_20.2.1 84 = .ok (.bipush 100, 2)) (by decide)) rfl, xq_20_39⟩
theorem xq_20_37 : xOKs xsg xm_20 xk_20_0 xk_20_37 := ⟨xok_p (xp_dup (by decide +kernel : decode xm_20.2.1 83 = .ok (.dup, 1))) rfl, xq_20_38⟩
theorem xq_20_36 : xOKs xsg xm_20 xk_20_0 xk_20_36 := ⟨xok_new (by decide +kernel : decode xm_20.2.1 80 = .ok (.new 18, 3)) (rfl : vwCl[6]? = some (RX6, TX6, 3)) inX6 tyX6_ok xdf6_ok (fun _ _ => rfl) (xT_c1 115 rfl rfl) (xT_c1 30 rfl rfl) (xT_c1 2 rfl rfl) rfl, xq_20_37⟩
theorem xq_20_35 : xOKs xsg xm_20 xk_20_0 xk_20_35 := ⟨xok_ld (xl_aload_n (by decide +kernel : decode xm_20.2.1 79 = .ok (.aload_n 0, 1))) rfl, xq_20_36⟩
theorem xq_20_34 : xOKs xsg xm_20 xk_20_0 xk_20_34 := ⟨xok_putF (by decide +kernel : decode xm_20.2.1 76 = .ok (.putfield 35, 3)) (rfl : vwCl[4]? = some (RX4, TX4, 15)) inX4 tyX4_ok nmX4 (k := 4) (by decide) rfl rfl rfl (xT_c1 157 rfl rfl) rfl, xq_20_35⟩
theorem xq_20_33 : xOKs xsg xm_20 xk_20_0 xk_20_33 := ⟨xok_callI (M' := xm_36) rfl (by decide +kernel : decode xm_20.2.1 73 = .ok (.invokespecial 21, 3)) xn_36 rfl (xT_c1 32 rfl rfl) rfl (xT_c1 117 rfl rfl) rfl, xq_20_34⟩
theorem xq_20_32 : xOKs xsg xm_20 xk_20_0 xk_20_32 := ⟨xok_p (xp_sipush (v := 144) (by decide +kernel : decode xm_20.2.1 70 = .ok (.sipush 144, 3)) (by decide)) rfl, xq_20_33⟩
theorem xq_20_31 : xOKs xsg xm_20 xk_20_0 xk_20_31 := ⟨xok_p (xp_sipush (v := 144) (by decide +kernel : decode xm_20.2.1 67 = .ok (.sipush 144, 3)) (by decide)) rfl, xq_20_32⟩
theorem xq_20_30 : xOKs xsg xm_20 xk_20_0 xk_20_30 := ⟨xok_p (xp_dup (by decide +kernel : decode xm_20.2.1 66 = .ok (.dup, 1))) rfl, xq_20_31⟩
theorem xq_20_29 : xOKs xsg xm_20 xk_20_0 xk_20_29 := ⟨xok_new (by decide +kernel : decode xm_20.2.1 63 = .ok (.new 18, 3)) (rfl : vwCl[6]? = some (RX6, TX6, 3)) inX6 tyX6_ok xdf6_ok (fun _ _ => rfl) (xT_c1 115 rfl rfl) (xT_c1 30 rfl rfl) (xT_c1 2 rfl rfl) rfl, xq_20_30⟩
theorem xq_20_28 : xOKs xsg xm_20 xk_20_0 xk_20_28 := ⟨xok_ld (xl_aload_n (by decide +kernel : decode xm_20.2.1 62 = .ok (.aload_n 0, 1))) rfl, xq_20_29⟩
theorem xq_20_27 : xOKs xsg xm_20 xk_20_0 xk_20_27 := ⟨xok_putF (by decide +kernel : decode xm_20.2.1 59 = .ok (.putfield 32, 3)) (rfl : vwCl[4]? = some (RX4, TX4, 15)) inX4 tyX4_ok nmX4 (k := 3) (by decide) rfl rfl rfl (xT_c1 152 rfl rfl) rfl, xq_20_28⟩
theorem xq_20_26 : xOKs xsg xm_20 xk_20_0 xk_20_26 := ⟨xok_callI (M' := xm_36) rfl (by decide +kernel : decode xm_20.2.1 56 = .ok (.invokespecial 21, 3)) xn_36 rfl (xT_c1 32 rfl rfl) rfl (xT_c1 117 rfl rfl) rfl, xq_20_27⟩
theorem xq_20_25 : xOKs xsg xm_20 xk_20_0 xk_20_25 := ⟨xok_p (xp_bipush (v := 24) (by decide +kernel : decode xm_20.2.1 54 = .ok (.bipush 24, 2)) (by decide)) rfl, xq_20_26⟩
theorem xq_20_24 : xOKs xsg xm_20 xk_20_0 xk_20_24 := ⟨xok_p (xp_bipush (v := 24) (by decide +kernel : decode xm_20.2.1 52 = .ok (.bipush 24, 2)) (by decide)) rfl, xq_20_25⟩
theorem xq_20_23 : xOKs xsg xm_20 xk_20_0 xk_20_23 := ⟨xok_p (xp_dup (by decide +kernel : decode xm_20.2.1 51 = .ok (.dup, 1))) rfl, xq_20_24⟩
theorem xq_20_22 : xOKs xsg xm_20 xk_20_0 xk_20_22 := ⟨xok_new (by decide +kernel : decode xm_20.2.1 48 = .ok (.new 18, 3)) (rfl : vwCl[6]? = some (RX6, TX6, 3)) inX6 tyX6_ok xdf6_ok (fun _ _ => rfl) (xT_c1 115 rfl rfl) (xT_c1 30 rfl rfl) (xT_c1 2 rfl rfl) rfl, xq_20_23⟩
theorem xq_20_21 : xOKs xsg xm_20 xk_20_0 xk_20_21 := ⟨xok_ld (xl_aload_n (by decide +kernel : decode xm_20.2.1 47 = .ok (.aload_n 0, 1))) rfl, xq_20_22⟩
theorem xq_20_20 : xOKs xsg xm_20 xk_20_0 xk_20_20 := ⟨xok_putF (by decide +kernel : decode xm_20.2.1 44 = .ok (.putfield 29, 3)) (rfl : vwCl[4]? = some (RX4, TX4, 15)) inX4 tyX4_ok nmX4 (k := 2) (by decide) rfl rfl rfl (xT_c1 149 rfl rfl) rfl, xq_20_21⟩
theorem xq_20_19 : xOKs xsg xm_20 xk_20_0 xk_20_19 := ⟨xok_callI (M' := xm_36) rfl (by decide +kernel : decode xm_20.2.1 41 = .ok (.invokespecial 21, 3)) xn_36 rfl (xT_c1 32 rfl rfl) rfl (xT_c1 117 rfl rfl) rfl, xq_20_20⟩
theorem xq_20_18 : xOKs xsg xm_20 xk_20_0 xk_20_18 := ⟨xok_p (xp_ldc (v := 64200) (by decide +kernel : decode xm_20.2.1 39 = .ok (.ldc 28, 2)) (xT_c1 118 rfl rfl)) rfl, xq_20_19⟩
theorem xq_20_17 : xOKs xsg xm_20 xk_20_0 xk_20_17 := ⟨xok_p (xp_sipush (v := 300) (by decide +kernel : decode xm_20.2.1 36 = .ok (.sipush 300, 3)) (by decide)) rfl, xq_20_18⟩
theorem xq_20_16 : xOKs xsg xm_20 xk_20_0 xk_20_16 := ⟨xok_p (xp_dup (by decide +kernel : decode xm_20.2.1 35 = .ok (.dup, 1))) rfl, xq_20_17⟩
theorem xq_20_15 : xOKs xsg xm_20 xk_20_0 xk_20_15 := ⟨xok_new (by decide +kernel : decode xm_20.2.1 32 = .ok (.new 18, 3)) (rfl : vwCl[6]? = some (RX6, TX6, 3)) inX6 tyX6_ok xdf6_ok (fun _ _ => rfl) (xT_c1 115 rfl rfl) (xT_c1 30 rfl rfl) (xT_c1 2 rfl rfl) rfl, xq_20_16⟩
theorem xq_20_14 : xOKs xsg xm_20 xk_20_0 xk_20_14 := ⟨xok_ld (xl_aload_n (by decide +kernel : decode xm_20.2.1 31 = .ok (.aload_n 0, 1))) rfl, xq_20_15⟩
theorem xq_20_13 : xOKs xsg xm_20 xk_20_0 xk_20_13 := ⟨xok_putF (by decide +kernel : decode xm_20.2.1 28 = .ok (.putfield 24, 3)) (rfl : vwCl[4]? = some (RX4, TX4, 15)) inX4 tyX4_ok nmX4 (k := 1) (by decide) rfl rfl rfl (xT_c1 142 rfl rfl) rfl, xq_20_14⟩
theorem xq_20_12 : xOKs xsg xm_20 xk_20_0 xk_20_12 := ⟨xok_callI (M' := xm_36) rfl (by decide +kernel : decode xm_20.2.1 25 = .ok (.invokespecial 21, 3)) xn_36 rfl (xT_c1 32 rfl rfl) rfl (xT_c1 117 rfl rfl) rfl, xq_20_13⟩
theorem xq_20_11 : xOKs xsg xm_20 xk_20_0 xk_20_11 := ⟨xok_p (xp_ldc (v := 82938) (by decide +kernel : decode xm_20.2.1 23 = .ok (.ldc 20, 2)) (xT_c1 116 rfl rfl)) rfl, xq_20_12⟩
theorem xq_20_10 : xOKs xsg xm_20 xk_20_0 xk_20_10 := ⟨xok_p (xp_sipush (v := 19738) (by decide +kernel : decode xm_20.2.1 20 = .ok (.sipush 19738, 3)) (by decide)) rfl, xq_20_11⟩
theorem xq_20_9 : xOKs xsg xm_20 xk_20_0 xk_20_9 := ⟨xok_p (xp_dup (by decide +kernel : decode xm_20.2.1 19 = .ok (.dup, 1))) rfl, xq_20_10⟩
theorem xq_20_8 : xOKs xsg xm_20 xk_20_0 xk_20_8 := ⟨xok_new (by decide +kernel : decode xm_20.2.1 16 = .ok (.new 18, 3)) (rfl : vwCl[6]? = some (RX6, TX6, 3)) inX6 tyX6_ok xdf6_ok (fun _ _ => rfl) (xT_c1 115 rfl rfl) (xT_c1 30 rfl rfl) (xT_c1 2 rfl rfl) rfl, xq_20_9⟩
theorem xq_20_7 : xOKs xsg xm_20 xk_20_0 xk_20_7 := ⟨xok_ld (xl_aload_n (by decide +kernel : decode xm_20.2.1 15 = .ok (.aload_n 0, 1))) rfl, xq_20_8⟩
theorem xq_20_6 : xOKs xsg xm_20 xk_20_0 xk_20_6 := ⟨xok_putF (by decide +kernel : decode xm_20.2.1 12 = .ok (.putfield 12, 3)) (rfl : vwCl[4]? = some (RX4, TX4, 15)) inX4 tyX4_ok nmX4 (k := 0) (by decide) rfl rfl rfl (xT_c1 138 rfl rfl) rfl, xq_20_7⟩
theorem xq_20_5 : xOKs xsg xm_20 xk_20_0 xk_20_5 := ⟨xok_callIN (M' := xm_45) rfl (by decide +kernel : decode xm_20.2.1 9 = .ok (.invokespecial 11, 3)) xn_45 rfl (xT_c1 68 rfl rfl) rfl (xN_c1 67 rfl rfl) rfl, xq_20_6⟩
theorem xq_20_4 : xOKs xsg xm_20 xk_20_0 xk_20_4 := ⟨xok_p (xp_dup (by decide +kernel : decode xm_20.2.1 8 = .ok (.dup, 1))) rfl, xq_20_5⟩
theorem xq_20_3 : xOKs xsg xm_20 xk_20_0 xk_20_3 := ⟨xok_new (by decide +kernel : decode xm_20.2.1 5 = .ok (.new 9, 3)) (rfl : vwCl[9]? = some (RX9, TX9, 8)) inX9 tyX9_ok xdf9_ok (fun _ _ => rfl) (xT_c1 65 rfl rfl) (xT_c1 66 rfl rfl) (xT_c1 5 rfl rfl) rfl, xq_20_4⟩
theorem xq_20_2 : xOKs xsg xm_20 xk_20_0 xk_20_2 := ⟨xok_ld (xl_aload_n (by decide +kernel : decode xm_20.2.1 4 = .ok (.aload_n 0, 1))) rfl, xq_20_3⟩
theorem xq_20_1 : xOKs xsg xm_20 xk_20_0 xk_20_1 := ⟨xok_obj (by decide +kernel : decode xm_20.2.1 1 = .ok (.invokespecial 3, 3)) (xT_c1 64 rfl rfl) xw_o2 xw_o3 rfl, xq_20_2⟩
theorem xq_20_0 : xOKs xsg xm_20 xk_20_0 xk_20_0 := ⟨xok_ld (xl_aload_n (by decide +kernel : decode xm_20.2.1 0 = .ok (.aload_n 0, 1))) rfl, xq_20_1⟩
theorem xz_20 : xwf xsg xm_20 xk_20_0 := ⟨xq_20_0, rfl, by decide⟩
