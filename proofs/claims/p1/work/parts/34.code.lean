/-! FeatherBench$Row.clear()V -/
theorem xq_40_4 : xOKs xsg xm_40 xk_40_0 xk_40_4 := trivial
theorem xq_40_3 : xOKs xsg xm_40 xk_40_0 xk_40_3 := ⟨xok_ret0 (by decide +kernel : decode xm_40.2.1 5 = .ok (.return_, 1)) rfl, xq_40_4⟩
theorem xq_40_2 : xOKs xsg xm_40 xk_40_0 xk_40_2 := ⟨xok_put (by decide +kernel : decode xm_40.2.1 2 = .ok (.putfield 32, 3)) (rfl : vwCl[6]? = some (RX6, TX6, 3)) inX6 tyX6_ok nmX6 (k := 2) (by decide) rfl (xT_c1 47 rfl rfl) rfl, xq_40_3⟩
theorem xq_40_1 : xOKs xsg xm_40 xk_40_0 xk_40_1 := ⟨xok_p (xp_iconst (v := 0) (by decide +kernel : decode xm_40.2.1 1 = .ok (.iconst 0, 1)) (by decide)) rfl, xq_40_2⟩
theorem xq_40_0 : xOKs xsg xm_40 xk_40_0 xk_40_0 := ⟨xok_ld (xl_aload_n (by decide +kernel : decode xm_40.2.1 0 = .ok (.aload_n 0, 1))) rfl, xq_40_1⟩
theorem xz_40 : xwf xsg xm_40 xk_40_0 := ⟨xq_40_0, rfl, by decide⟩
/-! FeatherBench$Shapes.<init>(LFeatherBench$Program;)V -/
theorem xq_41_35 : xOKs xsg xm_41 xk_41_0 xk_41_35 := trivial
theorem xq_41_34 : xOKs xsg xm_41 xk_41_0 xk_41_34 := ⟨xok_ret0 (by decide +kernel : decode xm_41.2.1 70 = .ok (.return_, 1)) rfl, xq_41_35⟩
theorem xq_41_33 : xOKs xsg xm_41 xk_41_0 xk_41_33 := ⟨xok_put (by decide +kernel : decode xm_41.2.1 67 = .ok (.putfield 39, 3)) (rfl : vwCl[7]? = some (RX7, TX7, 10)) inX7 tyX7_ok nmX7 (k := 2) (by decide) rfl (xT_c1 229 rfl rfl) rfl, xq_41_34⟩
theorem xq_41_32 : xOKs xsg xm_41 xk_41_0 xk_41_32 := ⟨xok_getN (by decide +kernel : decode xm_41.2.1 64 = .ok (.getfield 36, 3)) (rfl : vwCl[4]? = some (RX4, TX4, 15)) inX4 (by decide) (xN_c1 153 rfl rfl) rfl, xq_41_33⟩
theorem xq_41_31 : xOKs xsg xm_41 xk_41_0 xk_41_31 := ⟨xok_ld (xl_aload_n (by decide +kernel : decode xm_41.2.1 63 = .ok (.aload_n 1, 1))) rfl, xq_41_32⟩
theorem xq_41_30 : xOKs xsg xm_41 xk_41_0 xk_41_30 := ⟨xok_ld (xl_aload_n (by decide +kernel : decode xm_41.2.1 62 = .ok (.aload_n 0, 1))) rfl, xq_41_31⟩
theorem xq_41_29 : xOKs xsg xm_41 xk_41_0 xk_41_29 := ⟨xok_put (by decide +kernel : decode xm_41.2.1 59 = .ok (.putfield 35, 3)) (rfl : vwCl[7]? = some (RX7, TX7, 10)) inX7 tyX7_ok nmX7 (k := 1) (by decide) rfl (xT_c1 228 rfl rfl) rfl, xq_41_30⟩
theorem xq_41_28 : xOKs xsg xm_41 xk_41_0 xk_41_28 := ⟨xok_getN (by decide +kernel : decode xm_41.2.1 56 = .ok (.getfield 30, 3)) (rfl : vwCl[4]? = some (RX4, TX4, 15)) inX4 (by decide) (xN_c1 143 rfl rfl) rfl, xq_41_29⟩
theorem xq_41_27 : xOKs xsg xm_41 xk_41_0 xk_41_27 := ⟨xok_ld (xl_aload_n (by decide +kernel : decode xm_41.2.1 55 = .ok (.aload_n 1, 1))) rfl, xq_41_28⟩
theorem xq_41_26 : xOKs xsg xm_41 xk_41_0 xk_41_26 := ⟨xok_ld (xl_aload_n (by decide +kernel : decode xm_41.2.1 54 = .ok (.aload_n 0, 1))) rfl, xq_41_27⟩
theorem xq_41_25 : xOKs xsg xm_41 xk_41_0 xk_41_25 := ⟨xok_put (by decide +kernel : decode xm_41.2.1 51 = .ok (.putfield 26, 3)) (rfl : vwCl[7]? = some (RX7, TX7, 10)) inX7 tyX7_ok nmX7 (k := 0) (by decide) rfl (xT_c1 227 rfl rfl) rfl, xq_41_26⟩
theorem xq_41_24 : xOKs xsg xm_41 xk_41_0 xk_41_24 := ⟨xok_ld (xl_aload_n (by decide +kernel : decode xm_41.2.1 50 = .ok (.aload_n 1, 1))) rfl, xq_41_25⟩
theorem xq_41_23 : xOKs xsg xm_41 xk_41_0 xk_41_23 := ⟨xok_ld (xl_aload_n (by decide +kernel : decode xm_41.2.1 49 = .ok (.aload_n 0, 1))) rfl, xq_41_24⟩
theorem xq_41_22 : xOKs xsg xm_41 xk_41_0 xk_41_22 := ⟨xok_putF (by decide +kernel : decode xm_41.2.1 46 = .ok (.putfield 23, 3)) (rfl : vwCl[7]? = some (RX7, TX7, 10)) inX7 tyX7_ok nmX7 (k := 9) (by decide) rfl rfl rfl (xT_c2 6 rfl rfl) rfl, xq_41_23⟩
theorem xq_41_21 : xOKs xsg xm_41 xk_41_0 xk_41_21 := ⟨xok_callI (M' := xm_36) rfl (by decide +kernel : decode xm_41.2.1 43 = .ok (.invokespecial 11, 3)) xn_36 rfl (xT_c1 32 rfl rfl) rfl (xT_c1 226 rfl rfl) rfl, xq_41_22⟩
theorem xq_41_20 : xOKs xsg xm_41 xk_41_0 xk_41_20 := ⟨xok_p (xp_bipush (v := 24) (by decide +kernel : decode xm_41.2.1 41 = .ok (.bipush 24, 2)) (by decide)) rfl, xq_41_21⟩
theorem xq_41_19 : xOKs xsg xm_41 xk_41_0 xk_41_19 := ⟨xok_p (xp_bipush (v := 24) (by decide +kernel : decode xm_41.2.1 39 = .ok (.bipush 24, 2)) (by decide)) rfl, xq_41_20⟩
theorem xq_41_18 : xOKs xsg xm_41 xk_41_0 xk_41_18 := ⟨xok_p (xp_dup (by decide +kernel : decode xm_41.2.1 38 = .ok (.dup, 1))) rfl, xq_41_19⟩
theorem xq_41_17 : xOKs xsg xm_41 xk_41_0 xk_41_17 := ⟨xok_new (by decide +kernel : decode xm_41.2.1 35 = .ok (.new 9, 3)) (rfl : vwCl[6]? = some (RX6, TX6, 3)) inX6 tyX6_ok xdf6_ok (fun _ _ => rfl) (xT_c1 225 rfl rfl) (xT_c1 30 rfl rfl) (xT_c1 2 rfl rfl) rfl, xq_41_18⟩
theorem xq_41_16 : xOKs xsg xm_41 xk_41_0 xk_41_16 := ⟨xok_ld (xl_aload_n (by decide +kernel : decode xm_41.2.1 34 = .ok (.aload_n 0, 1))) rfl, xq_41_17⟩
theorem xq_41_15 : xOKs xsg xm_41 xk_41_0 xk_41_15 := ⟨xok_putF (by decide +kernel : decode xm_41.2.1 31 = .ok (.putfield 20, 3)) (rfl : vwCl[7]? = some (RX7, TX7, 10)) inX7 tyX7_ok nmX7 (k := 8) (by decide) rfl rfl rfl (xT_c2 5 rfl rfl) rfl, xq_41_16⟩
theorem xq_41_14 : xOKs xsg xm_41 xk_41_0 xk_41_14 := ⟨xok_callI (M' := xm_36) rfl (by decide +kernel : decode xm_41.2.1 28 = .ok (.invokespecial 11, 3)) xn_36 rfl (xT_c1 32 rfl rfl) rfl (xT_c1 226 rfl rfl) rfl, xq_41_15⟩
theorem xq_41_13 : xOKs xsg xm_41 xk_41_0 xk_41_13 := ⟨xok_p (xp_bipush (v := 24) (by decide +kernel : decode xm_41.2.1 26 = .ok (.bipush 24, 2)) (by decide)) rfl, xq_41_14⟩
theorem xq_41_12 : xOKs xsg xm_41 xk_41_0 xk_41_12 := ⟨xok_p (xp_bipush (v := 24) (by decide +kernel : decode xm_41.2.1 24 = .ok (.bipush 24, 2)) (by decide)) rfl, xq_41_13⟩
theorem xq_41_11 : xOKs xsg xm_41 xk_41_0 xk_41_11 := ⟨xok_p (xp_dup (by decide +kernel : decode xm_41.2.1 23 = .ok (.dup, 1))) rfl, xq_41_12⟩
theorem xq_41_10 : xOKs xsg xm_41 xk_41_0 xk_41_10 := ⟨xok_new (by decide +kernel : decode xm_41.2.1 20 = .ok (.new 9, 3)) (rfl : vwCl[6]? = some (RX6, TX6, 3)) inX6 tyX6_ok xdf6_ok (fun _ _ => rfl) (xT_c1 225 rfl rfl) (xT_c1 30 rfl rfl) (xT_c1 2 rfl rfl) rfl, xq_41_11⟩
theorem xq_41_9 : xOKs xsg xm_41 xk_41_0 xk_41_9 := ⟨xok_ld (xl_aload_n (by decide +kernel : decode xm_41.2.1 19 = .ok (.aload_n 0, 1))) rfl, xq_41_10⟩
theorem xq_41_8 : xOKs xsg xm_41 xk_41_0 xk_41_8 := ⟨xok_putF (by decide +kernel : decode xm_41.2.1 16 = .ok (.putfield 14, 3)) (rfl : vwCl[7]? = some (RX7, TX7, 10)) inX7 tyX7_ok nmX7 (k := 7) (by decide) rfl rfl rfl (xT_c2 1 rfl rfl) rfl, xq_41_9⟩
theorem xq_41_7 : xOKs xsg xm_41 xk_41_0 xk_41_7 := ⟨xok_callI (M' := xm_36) rfl (by decide +kernel : decode xm_41.2.1 13 = .ok (.invokespecial 11, 3)) xn_36 rfl (xT_c1 32 rfl rfl) rfl (xT_c1 226 rfl rfl) rfl, xq_41_8⟩
theorem xq_41_6 : xOKs xsg xm_41 xk_41_0 xk_41_6 := ⟨xok_p (xp_bipush (v := 24) (by decide +kernel : decode xm_41.2.1 11 = .ok (.bipush 24, 2)) (by decide)) rfl, xq_41_7⟩
theorem xq_41_5 : xOKs xsg xm_41 xk_41_0 xk_41_5 := ⟨xok_p (xp_bipush (v := 24) (by decide +kernel : decode xm_41.2.1 9 = .ok (.bipush 24, 2)) (by decide)) rfl, xq_41_6⟩
theorem xq_41_4 : xOKs xsg xm_41 xk_41_0 xk_41_4 := ⟨xok_p (xp_dup (by decide +kernel : decode xm_41.2.1 8 = .ok (.dup, 1))) rfl, xq_41_5⟩
theorem xq_41_3 : xOKs xsg xm_41 xk_41_0 xk_41_3 := ⟨xok_new (by decide +kernel : decode xm_41.2.1 5 = .ok (.new 9, 3)) (rfl : vwCl[6]? = some (RX6, TX6, 3)) inX6 tyX6_ok xdf6_ok (fun _ _ => rfl) (xT_c1 225 rfl rfl) (xT_c1 30 rfl rfl) (xT_c1 2 rfl rfl) rfl, xq_41_4⟩
theorem xq_41_2 : xOKs xsg xm_41 xk_41_0 xk_41_2 := ⟨xok_ld (xl_aload_n (by decide +kernel : decode xm_41.2.1 4 = .ok (.aload_n 0, 1))) rfl, xq_41_3⟩
theorem xq_41_1 : xOKs xsg xm_41 xk_41_0 xk_41_1 := ⟨xok_obj (by decide +kernel : decode xm_41.2.1 1 = .ok (.invokespecial 3, 3)) (xT_c1 224 rfl rfl) xw_o2 xw_o3 rfl, xq_41_2⟩
theorem xq_41_0 : xOKs xsg xm_41 xk_41_0 xk_41_0 := ⟨xok_ld (xl_aload_n (by decide +kernel : decode xm_41.2.1 0 = .ok (.aload_n 0, 1))) rfl, xq_41_1⟩
theorem xz_41 : xwf xsg xm_41 xk_41_0 := ⟨xq_41_0, rfl, by decide⟩
/-! FeatherBench$Shapes.use(LFeatherBench$Program;I)V -/
theorem xq_42_22 : xOKs xsg xm_42 xk_42_0 xk_42_22 := trivial
theorem xq_42_21 : xOKs xsg xm_42 xk_42_0 xk_42_21 := ⟨xok_ret0 (by decide +kernel : decode xm_42.2.1 39 = .ok (.return_, 1)) rfl, xq_42_22⟩
theorem xq_42_20 : xOKs xsg xm_42 xk_42_0 xk_42_20 := ⟨xok_callV (M' := xm_43) rfl (rfl : vwCl[7]? = some (RX7, TX7, 10)) (by decide +kernel : decode xm_42.2.1 36 = .ok (.invokevirtual 44, 3)) xn_43 (xT_c3 187 rfl rfl) (xT_c3 188 rfl rfl) (xT_c3 186 rfl rfl) rfl, xq_42_21⟩
theorem xq_42_19 : xOKs xsg xm_42 xk_42_0 xk_42_19 := ⟨xok_p (xp_iconst (v := -1) (by decide +kernel : decode xm_42.2.1 35 = .ok (.iconst (-1), 1)) (by decide)) rfl, xq_42_20⟩
theorem xq_42_18 : xOKs xsg xm_42 xk_42_0 xk_42_18 := ⟨xok_p (xp_iconst (v := -1) (by decide +kernel : decode xm_42.2.1 34 = .ok (.iconst (-1), 1)) (by decide)) rfl, xq_42_19⟩
theorem xq_42_17 : xOKs xsg xm_42 xk_42_0 xk_42_17 := ⟨xok_p (xp_iconst (v := -1) (by decide +kernel : decode xm_42.2.1 33 = .ok (.iconst (-1), 1)) (by decide)) rfl, xq_42_18⟩
theorem xq_42_16 : xOKs xsg xm_42 xk_42_0 xk_42_16 := ⟨xok_ld (xl_aload_n (by decide +kernel : decode xm_42.2.1 32 = .ok (.aload_n 0, 1))) rfl, xq_42_17⟩
theorem xq_42_15 : xOKs xsg xm_42 xk_42_0 xk_42_15 := ⟨xok_put (by decide +kernel : decode xm_42.2.1 29 = .ok (.putfield 40, 3)) (rfl : vwCl[7]? = some (RX7, TX7, 10)) inX7 tyX7_ok nmX7 (k := 3) (by decide) rfl (xT_c1 230 rfl rfl) rfl, xq_42_16⟩
theorem xq_42_14 : xOKs xsg xm_42 xk_42_0 xk_42_14 := ⟨xok_ld (xl_iload_n (by decide +kernel : decode xm_42.2.1 28 = .ok (.iload_n 2, 1))) rfl, xq_42_15⟩
theorem xq_42_13 : xOKs xsg xm_42 xk_42_0 xk_42_13 := ⟨xok_ld (xl_aload_n (by decide +kernel : decode xm_42.2.1 27 = .ok (.aload_n 0, 1))) rfl, xq_42_14⟩
theorem xq_42_12 : xOKs xsg xm_42 xk_42_0 xk_42_12 := ⟨xok_put (by decide +kernel : decode xm_42.2.1 24 = .ok (.putfield 39, 3)) (rfl : vwCl[7]? = some (RX7, TX7, 10)) inX7 tyX7_ok nmX7 (k := 2) (by decide) rfl (xT_c1 229 rfl rfl) rfl, xq_42_13⟩
theorem xq_42_11 : xOKs xsg xm_42 xk_42_0 xk_42_11 := ⟨xok_getN (by decide +kernel : decode xm_42.2.1 21 = .ok (.getfield 36, 3)) (rfl : vwCl[4]? = some (RX4, TX4, 15)) inX4 (by decide) (xN_c1 153 rfl rfl) rfl, xq_42_12⟩
theorem xq_42_10 : xOKs xsg xm_42 xk_42_0 xk_42_10 := ⟨xok_get (by decide +kernel : decode xm_42.2.1 18 = .ok (.getfield 26, 3)) (rfl : vwCl[7]? = some (RX7, TX7, 10)) inX7 (by decide) (xT_c1 227 rfl rfl) rfl, xq_42_11⟩
theorem xq_42_9 : xOKs xsg xm_42 xk_42_0 xk_42_9 := ⟨xok_ld (xl_aload_n (by decide +kernel : decode xm_42.2.1 17 = .ok (.aload_n 0, 1))) rfl, xq_42_10⟩
theorem xq_42_8 : xOKs xsg xm_42 xk_42_0 xk_42_8 := ⟨xok_ld (xl_aload_n (by decide +kernel : decode xm_42.2.1 16 = .ok (.aload_n 0, 1))) rfl, xq_42_9⟩
theorem xq_42_7 : xOKs xsg xm_42 xk_42_0 xk_42_7 := ⟨xok_put (by decide +kernel : decode xm_42.2.1 13 = .ok (.putfield 35, 3)) (rfl : vwCl[7]? = some (RX7, TX7, 10)) inX7 tyX7_ok nmX7 (k := 1) (by decide) rfl (xT_c1 228 rfl rfl) rfl, xq_42_8⟩
theorem xq_42_6 : xOKs xsg xm_42 xk_42_0 xk_42_6 := ⟨xok_getN (by decide +kernel : decode xm_42.2.1 10 = .ok (.getfield 30, 3)) (rfl : vwCl[4]? = some (RX4, TX4, 15)) inX4 (by decide) (xN_c1 143 rfl rfl) rfl, xq_42_7⟩
theorem xq_42_5 : xOKs xsg xm_42 xk_42_0 xk_42_5 := ⟨xok_get (by decide +kernel : decode xm_42.2.1 7 = .ok (.getfield 26, 3)) (rfl : vwCl[7]? = some (RX7, TX7, 10)) inX7 (by decide) (xT_c1 227 rfl rfl) rfl, xq_42_6⟩
theorem xq_42_4 : xOKs xsg xm_42 xk_42_0 xk_42_4 := ⟨xok_ld (xl_aload_n (by decide +kernel : decode xm_42.2.1 6 = .ok (.aload_n 0, 1))) rfl, xq_42_5⟩
theorem xq_42_3 : xOKs xsg xm_42 xk_42_0 xk_42_3 := ⟨xok_ld (xl_aload_n (by decide +kernel : decode xm_42.2.1 5 = .ok (.aload_n 0, 1))) rfl, xq_42_4⟩
theorem xq_42_2 : xOKs xsg xm_42 xk_42_0 xk_42_2 := ⟨xok_put (by decide +kernel : decode xm_42.2.1 2 = .ok (.putfield 26, 3)) (rfl : vwCl[7]? = some (RX7, TX7, 10)) inX7 tyX7_ok nmX7 (k := 0) (by decide) rfl (xT_c1 227 rfl rfl) rfl, xq_42_3⟩
theorem xq_42_1 : xOKs xsg xm_42 xk_42_0 xk_42_1 := ⟨xok_ld (xl_aload_n (by decide +kernel : decode xm_42.2.1 1 = .ok (.aload_n 1, 1))) rfl, xq_42_2⟩
theorem xq_42_0 : xOKs xsg xm_42 xk_42_0 xk_42_0 := ⟨xok_ld (xl_aload_n (by decide +kernel : decode xm_42.2.1 0 = .ok (.aload_n 0, 1))) rfl, xq_42_1⟩
theorem xz_42 : xwf xsg xm_42 xk_42_0 := ⟨xq_42_0, rfl, by decide⟩
/-! FeatherBench$Shapes.enter(III)V -/
theorem xq_43_10 : xOKs xsg xm_43 xk_43_0 xk_43_10 := trivial
theorem xq_43_9 : xOKs xsg xm_43 xk_43_0 xk_43_9 := ⟨xok_ret0 (by decide +kernel : decode xm_43.2.1 15 = .ok (.return_, 1)) rfl, xq_43_10⟩
theorem xq_43_8 : xOKs xsg xm_43 xk_43_0 xk_43_8 := ⟨xok_put (by decide +kernel : decode xm_43.2.1 12 = .ok (.putfield 54, 3)) (rfl : vwCl[7]? = some (RX7, TX7, 10)) inX7 tyX7_ok nmX7 (k := 6) (by decide) rfl (xT_c1 239 rfl rfl) rfl, xq_43_9⟩
theorem xq_43_7 : xOKs xsg xm_43 xk_43_0 xk_43_7 := ⟨xok_ld (xl_iload_n (by decide +kernel : decode xm_43.2.1 11 = .ok (.iload_n 3, 1))) rfl, xq_43_8⟩
theorem xq_43_6 : xOKs xsg xm_43 xk_43_0 xk_43_6 := ⟨xok_ld (xl_aload_n (by decide +kernel : decode xm_43.2.1 10 = .ok (.aload_n 0, 1))) rfl, xq_43_7⟩
theorem xq_43_5 : xOKs xsg xm_43 xk_43_0 xk_43_5 := ⟨xok_put (by decide +kernel : decode xm_43.2.1 7 = .ok (.putfield 51, 3)) (rfl : vwCl[7]? = some (RX7, TX7, 10)) inX7 tyX7_ok nmX7 (k := 5) (by decide) rfl (xT_c1 236 rfl rfl) rfl, xq_43_6⟩
theorem xq_43_4 : xOKs xsg xm_43 xk_43_0 xk_43_4 := ⟨xok_ld (xl_iload_n (by decide +kernel : decode xm_43.2.1 6 = .ok (.iload_n 2, 1))) rfl, xq_43_5⟩
theorem xq_43_3 : xOKs xsg xm_43 xk_43_0 xk_43_3 := ⟨xok_ld (xl_aload_n (by decide +kernel : decode xm_43.2.1 5 = .ok (.aload_n 0, 1))) rfl, xq_43_4⟩
theorem xq_43_2 : xOKs xsg xm_43 xk_43_0 xk_43_2 := ⟨xok_put (by decide +kernel : decode xm_43.2.1 2 = .ok (.putfield 48, 3)) (rfl : vwCl[7]? = some (RX7, TX7, 10)) inX7 tyX7_ok nmX7 (k := 4) (by decide) rfl (xT_c1 234 rfl rfl) rfl, xq_43_3⟩
theorem xq_43_1 : xOKs xsg xm_43 xk_43_0 xk_43_1 := ⟨xok_ld (xl_iload_n (by decide +kernel : decode xm_43.2.1 1 = .ok (.iload_n 1, 1))) rfl, xq_43_2⟩
theorem xq_43_0 : xOKs xsg xm_43 xk_43_0 xk_43_0 := ⟨xok_ld (xl_aload_n (by decide +kernel : decode xm_43.2.1 0 = .ok (.aload_n 0, 1))) rfl, xq_43_1⟩
theorem xz_43 : xwf xsg xm_43 xk_43_0 := ⟨xq_43_0, rfl, by decide⟩
/-! FeatherBench$Stock.<init>(LFeatherBench$Program;LFeatherBench$Shapes;)V -/
theorem xq_44_41 : xOKs xsg xm_44 xk_44_0 xk_44_41 := trivial
theorem xq_44_40 : xOKs xsg xm_44 xk_44_0 xk_44_40 := ⟨xok_ret0 (by decide +kernel : decode xm_44.2.1 87 = .ok (.return_, 1)) rfl, xq_44_41⟩
theorem xq_44_39 : xOKs xsg xm_44 xk_44_0 xk_44_39 := ⟨xok_put (by decide +kernel : decode xm_44.2.1 84 = .ok (.putfield 42, 3)) (rfl : vwCl[8]? = some (RX8, TX8, 11)) inX8 tyX8_ok nmX8 (k := 6) (by decide) rfl (xT_c2 206 rfl rfl) rfl, xq_44_40⟩
theorem xq_44_38 : xOKs xsg xm_44 xk_44_0 xk_44_38 := ⟨xok_getN (by decide +kernel : decode xm_44.2.1 81 = .ok (.getfield 37, 3)) (rfl : vwCl[4]? = some (RX4, TX4, 15)) inX4 (by decide) (xN_c1 144 rfl rfl) rfl, xq_44_39⟩
theorem xq_44_37 : xOKs xsg xm_44 xk_44_0 xk_44_37 := ⟨xok_ld (xl_aload_n (by decide +kernel : decode xm_44.2.1 80 = .ok (.aload_n 1, 1))) rfl, xq_44_38⟩
theorem xq_44_36 : xOKs xsg xm_44 xk_44_0 xk_44_36 := ⟨xok_ld (xl_aload_n (by decide +kernel : decode xm_44.2.1 79 = .ok (.aload_n 0, 1))) rfl, xq_44_37⟩
theorem xq_44_35 : xOKs xsg xm_44 xk_44_0 xk_44_35 := ⟨xok_putF (by decide +kernel : decode xm_44.2.1 76 = .ok (.putfield 33, 3)) (rfl : vwCl[8]? = some (RX8, TX8, 11)) inX8 tyX8_ok nmX8 (k := 0) (by decide) rfl rfl rfl (xT_c2 199 rfl rfl) rfl, xq_44_36⟩
theorem xq_44_34 : xOKs xsg xm_44 xk_44_0 xk_44_34 := ⟨xok_ld (xl_aload_n (by decide +kernel : decode xm_44.2.1 75 = .ok (.aload_n 2, 1))) rfl, xq_44_35⟩
theorem xq_44_33 : xOKs xsg xm_44 xk_44_0 xk_44_33 := ⟨xok_ld (xl_aload_n (by decide +kernel : decode xm_44.2.1 74 = .ok (.aload_n 0, 1))) rfl, xq_44_34⟩
theorem xq_44_32 : xOKs xsg xm_44 xk_44_0 xk_44_32 := ⟨xok_put (by decide +kernel : decode xm_44.2.1 71 = .ok (.putfield 29, 3)) (rfl : vwCl[8]? = some (RX8, TX8, 11)) inX8 tyX8_ok nmX8 (k := 5) (by decide) rfl (xT_c2 205 rfl rfl) rfl, xq_44_33⟩
theorem xq_44_31 : xOKs xsg xm_44 xk_44_0 xk_44_31 := ⟨xok_ld (xl_aload_n (by decide +kernel : decode xm_44.2.1 70 = .ok (.aload_n 1, 1))) rfl, xq_44_32⟩
theorem xq_44_30 : xOKs xsg xm_44 xk_44_0 xk_44_30 := ⟨xok_ld (xl_aload_n (by decide +kernel : decode xm_44.2.1 69 = .ok (.aload_n 0, 1))) rfl, xq_44_31⟩
theorem xq_44_29 : xOKs xsg xm_44 xk_44_0 xk_44_29 := ⟨xok_putF (by decide +kernel : decode xm_44.2.1 66 = .ok (.putfield 26, 3)) (rfl : vwCl[8]? = some (RX8, TX8, 11)) inX8 tyX8_ok nmX8 (k := 4) (by decide) rfl rfl rfl (xT_c2 204 rfl rfl) rfl, xq_44_30⟩
theorem xq_44_28 : xOKs xsg xm_44 xk_44_0 xk_44_28 := ⟨xok_callI (M' := xm_36) rfl (by decide +kernel : decode xm_44.2.1 63 = .ok (.invokespecial 13, 3)) xn_36 rfl (xT_c1 32 rfl rfl) rfl (xT_c2 198 rfl rfl) rfl, xq_44_29⟩
theorem xq_44_27 : xOKs xsg xm_44 xk_44_0 xk_44_27 := ⟨xok_p (xp_bipush (v := 9) (by decide +kernel : decode xm_44.2.1 61 = .ok (.bipush 9, 2)) (by decide)) rfl, xq_44_28⟩
theorem xq_44_26 : xOKs xsg xm_44 xk_44_0 xk_44_26 := ⟨xok_p (xp_bipush (v := 9) (by decide +kernel : decode xm_44.2.1 59 = .ok (.bipush 9, 2)) (by decide)) rfl, xq_44_27⟩
theorem xq_44_25 : xOKs xsg xm_44 xk_44_0 xk_44_25 := ⟨xok_p (xp_dup (by decide +kernel : decode xm_44.2.1 58 = .ok (.dup, 1))) rfl, xq_44_26⟩
theorem xq_44_24 : xOKs xsg xm_44 xk_44_0 xk_44_24 := ⟨xok_new (by decide +kernel : decode xm_44.2.1 55 = .ok (.new 11, 3)) (rfl : vwCl[6]? = some (RX6, TX6, 3)) inX6 tyX6_ok xdf6_ok (fun _ _ => rfl) (xT_c2 197 rfl rfl) (xT_c1 30 rfl rfl) (xT_c1 2 rfl rfl) rfl, xq_44_25⟩
theorem xq_44_23 : xOKs xsg xm_44 xk_44_0 xk_44_23 := ⟨xok_ld (xl_aload_n (by decide +kernel : decode xm_44.2.1 54 = .ok (.aload_n 0, 1))) rfl, xq_44_24⟩
theorem xq_44_22 : xOKs xsg xm_44 xk_44_0 xk_44_22 := ⟨xok_putF (by decide +kernel : decode xm_44.2.1 51 = .ok (.putfield 23, 3)) (rfl : vwCl[8]? = some (RX8, TX8, 11)) inX8 tyX8_ok nmX8 (k := 3) (by decide) rfl rfl rfl (xT_c2 203 rfl rfl) rfl, xq_44_23⟩
theorem xq_44_21 : xOKs xsg xm_44 xk_44_0 xk_44_21 := ⟨xok_callI (M' := xm_36) rfl (by decide +kernel : decode xm_44.2.1 48 = .ok (.invokespecial 13, 3)) xn_36 rfl (xT_c1 32 rfl rfl) rfl (xT_c2 198 rfl rfl) rfl, xq_44_22⟩
theorem xq_44_20 : xOKs xsg xm_44 xk_44_0 xk_44_20 := ⟨xok_p (xp_sipush (v := 1359) (by decide +kernel : decode xm_44.2.1 45 = .ok (.sipush 1359, 3)) (by decide)) rfl, xq_44_21⟩
theorem xq_44_19 : xOKs xsg xm_44 xk_44_0 xk_44_19 := ⟨xok_p (xp_sipush (v := 180) (by decide +kernel : decode xm_44.2.1 42 = .ok (.sipush 180, 3)) (by decide)) rfl, xq_44_20⟩
theorem xq_44_18 : xOKs xsg xm_44 xk_44_0 xk_44_18 := ⟨xok_p (xp_dup (by decide +kernel : decode xm_44.2.1 41 = .ok (.dup, 1))) rfl, xq_44_19⟩
theorem xq_44_17 : xOKs xsg xm_44 xk_44_0 xk_44_17 := ⟨xok_new (by decide +kernel : decode xm_44.2.1 38 = .ok (.new 11, 3)) (rfl : vwCl[6]? = some (RX6, TX6, 3)) inX6 tyX6_ok xdf6_ok (fun _ _ => rfl) (xT_c2 197 rfl rfl) (xT_c1 30 rfl rfl) (xT_c1 2 rfl rfl) rfl, xq_44_18⟩
theorem xq_44_16 : xOKs xsg xm_44 xk_44_0 xk_44_16 := ⟨xok_ld (xl_aload_n (by decide +kernel : decode xm_44.2.1 37 = .ok (.aload_n 0, 1))) rfl, xq_44_17⟩
theorem xq_44_15 : xOKs xsg xm_44 xk_44_0 xk_44_15 := ⟨xok_putF (by decide +kernel : decode xm_44.2.1 34 = .ok (.putfield 20, 3)) (rfl : vwCl[8]? = some (RX8, TX8, 11)) inX8 tyX8_ok nmX8 (k := 2) (by decide) rfl rfl rfl (xT_c2 202 rfl rfl) rfl, xq_44_16⟩
theorem xq_44_14 : xOKs xsg xm_44 xk_44_0 xk_44_14 := ⟨xok_callI (M' := xm_36) rfl (by decide +kernel : decode xm_44.2.1 31 = .ok (.invokespecial 13, 3)) xn_36 rfl (xT_c1 32 rfl rfl) rfl (xT_c2 198 rfl rfl) rfl, xq_44_15⟩
theorem xq_44_13 : xOKs xsg xm_44 xk_44_0 xk_44_13 := ⟨xok_p (xp_sipush (v := 1510) (by decide +kernel : decode xm_44.2.1 28 = .ok (.sipush 1510, 3)) (by decide)) rfl, xq_44_14⟩
theorem xq_44_12 : xOKs xsg xm_44 xk_44_0 xk_44_12 := ⟨xok_p (xp_sipush (v := 200) (by decide +kernel : decode xm_44.2.1 25 = .ok (.sipush 200, 3)) (by decide)) rfl, xq_44_13⟩
theorem xq_44_11 : xOKs xsg xm_44 xk_44_0 xk_44_11 := ⟨xok_p (xp_dup (by decide +kernel : decode xm_44.2.1 24 = .ok (.dup, 1))) rfl, xq_44_12⟩
theorem xq_44_10 : xOKs xsg xm_44 xk_44_0 xk_44_10 := ⟨xok_new (by decide +kernel : decode xm_44.2.1 21 = .ok (.new 11, 3)) (rfl : vwCl[6]? = some (RX6, TX6, 3)) inX6 tyX6_ok xdf6_ok (fun _ _ => rfl) (xT_c2 197 rfl rfl) (xT_c1 30 rfl rfl) (xT_c1 2 rfl rfl) rfl, xq_44_11⟩
theorem xq_44_9 : xOKs xsg xm_44 xk_44_0 xk_44_9 := ⟨xok_ld (xl_aload_n (by decide +kernel : decode xm_44.2.1 20 = .ok (.aload_n 0, 1))) rfl, xq_44_10⟩
theorem xq_44_8 : xOKs xsg xm_44 xk_44_0 xk_44_8 := ⟨xok_putF (by decide +kernel : decode xm_44.2.1 17 = .ok (.putfield 16, 3)) (rfl : vwCl[8]? = some (RX8, TX8, 11)) inX8 tyX8_ok nmX8 (k := 1) (by decide) rfl rfl rfl (xT_c2 200 rfl rfl) rfl, xq_44_9⟩
theorem xq_44_7 : xOKs xsg xm_44 xk_44_0 xk_44_7 := ⟨xok_callI (M' := xm_36) rfl (by decide +kernel : decode xm_44.2.1 14 = .ok (.invokespecial 13, 3)) xn_36 rfl (xT_c1 32 rfl rfl) rfl (xT_c2 198 rfl rfl) rfl, xq_44_8⟩
theorem xq_44_6 : xOKs xsg xm_44 xk_44_0 xk_44_6 := ⟨xok_p (xp_sipush (v := 151) (by decide +kernel : decode xm_44.2.1 11 = .ok (.sipush 151, 3)) (by decide)) rfl, xq_44_7⟩
theorem xq_44_5 : xOKs xsg xm_44 xk_44_0 xk_44_5 := ⟨xok_p (xp_bipush (v := 20) (by decide +kernel : decode xm_44.2.1 9 = .ok (.bipush 20, 2)) (by decide)) rfl, xq_44_6⟩
theorem xq_44_4 : xOKs xsg xm_44 xk_44_0 xk_44_4 := ⟨xok_p (xp_dup (by decide +kernel : decode xm_44.2.1 8 = .ok (.dup, 1))) rfl, xq_44_5⟩
theorem xq_44_3 : xOKs xsg xm_44 xk_44_0 xk_44_3 := ⟨xok_new (by decide +kernel : decode xm_44.2.1 5 = .ok (.new 11, 3)) (rfl : vwCl[6]? = some (RX6, TX6, 3)) inX6 tyX6_ok xdf6_ok (fun _ _ => rfl) (xT_c2 197 rfl rfl) (xT_c1 30 rfl rfl) (xT_c1 2 rfl rfl) rfl, xq_44_4⟩
theorem xq_44_2 : xOKs xsg xm_44 xk_44_0 xk_44_2 := ⟨xok_ld (xl_aload_n (by decide +kernel : decode xm_44.2.1 4 = .ok (.aload_n 0, 1))) rfl, xq_44_3⟩
theorem xq_44_1 : xOKs xsg xm_44 xk_44_0 xk_44_1 := ⟨xok_obj (by decide +kernel : decode xm_44.2.1 1 = .ok (.invokespecial 5, 3)) (xT_c2 196 rfl rfl) xw_o2 xw_o3 rfl, xq_44_2⟩
theorem xq_44_0 : xOKs xsg xm_44 xk_44_0 xk_44_0 := ⟨xok_ld (xl_aload_n (by decide +kernel : decode xm_44.2.1 0 = .ok (.aload_n 0, 1))) rfl, xq_44_1⟩
theorem xz_44 : xwf xsg xm_44 xk_44_0 := ⟨xq_44_0, rfl, by decide⟩
/-! FeatherBench$Text.<init>()V -/
theorem xq_45_59 : xOKs xsg xm_45 xk_45_0 xk_45_59 := trivial
theorem xq_45_58 : xOKs xsg xm_45 xk_45_0 xk_45_58 := ⟨xok_ret0 (by decide +kernel : decode xm_45.2.1 138 = .ok (.return_, 1)) rfl, xq_45_59⟩
theorem xq_45_57 : xOKs xsg xm_45 xk_45_0 xk_45_57 := ⟨xok_putF (by decide +kernel : decode xm_45.2.1 135 = .ok (.putfield 38, 3)) (rfl : vwCl[9]? = some (RX9, TX9, 8)) inX9 tyX9_ok nmX9 (k := 7) (by decide) rfl rfl rfl (xT_c1 97 rfl rfl) rfl, xq_45_58⟩
theorem xq_45_56 : xOKs xsg xm_45 xk_45_0 xk_45_56 := ⟨xok_callI (M' := xm_36) rfl (by decide +kernel : decode xm_45.2.1 132 = .ok (.invokespecial 11, 3)) xn_36 rfl (xT_c1 32 rfl rfl) rfl (xT_c1 72 rfl rfl) rfl, xq_45_57⟩
theorem xq_45_55 : xOKs xsg xm_45 xk_45_0 xk_45_55 := ⟨xok_p (xp_sipush (v := 4002) (by decide +kernel : decode xm_45.2.1 129 = .ok (.sipush 4002, 3)) (by decide)) rfl, xq_45_56⟩
theorem xq_45_54 : xOKs xsg xm_45 xk_45_0 xk_45_54 := ⟨xok_p (xp_sipush (v := 300) (by decide +kernel : decode xm_45.2.1 126 = .ok (.sipush 300, 3)) (by decide)) rfl, xq_45_55⟩
theorem xq_45_53 : xOKs xsg xm_45 xk_45_0 xk_45_53 := ⟨xok_p (xp_dup (by decide +kernel : decode xm_45.2.1 125 = .ok (.dup, 1))) rfl, xq_45_54⟩
theorem xq_45_52 : xOKs xsg xm_45 xk_45_0 xk_45_52 := ⟨xok_new (by decide +kernel : decode xm_45.2.1 122 = .ok (.new 9, 3)) (rfl : vwCl[6]? = some (RX6, TX6, 3)) inX6 tyX6_ok xdf6_ok (fun _ _ => rfl) (xT_c1 71 rfl rfl) (xT_c1 30 rfl rfl) (xT_c1 2 rfl rfl) rfl, xq_45_53⟩
theorem xq_45_51 : xOKs xsg xm_45 xk_45_0 xk_45_51 := ⟨xok_ld (xl_aload_n (by decide +kernel : decode xm_45.2.1 121 = .ok (.aload_n 0, 1))) rfl, xq_45_52⟩
theorem xq_45_50 : xOKs xsg xm_45 xk_45_0 xk_45_50 := ⟨xok_putF (by decide +kernel : decode xm_45.2.1 118 = .ok (.putfield 35, 3)) (rfl : vwCl[9]? = some (RX9, TX9, 8)) inX9 tyX9_ok nmX9 (k := 6) (by decide) rfl rfl rfl (xT_c1 96 rfl rfl) rfl, xq_45_51⟩
theorem xq_45_49 : xOKs xsg xm_45 xk_45_0 xk_45_49 := ⟨xok_callI (M' := xm_36) rfl (by decide +kernel : decode xm_45.2.1 115 = .ok (.invokespecial 11, 3)) xn_36 rfl (xT_c1 32 rfl rfl) rfl (xT_c1 72 rfl rfl) rfl, xq_45_50⟩
theorem xq_45_48 : xOKs xsg xm_45 xk_45_0 xk_45_48 := ⟨xok_p (xp_bipush (v := 64) (by decide +kernel : decode xm_45.2.1 113 = .ok (.bipush 64, 2)) (by decide)) rfl, xq_45_49⟩
theorem xq_45_47 : xOKs xsg xm_45 xk_45_0 xk_45_47 := ⟨xok_p (xp_bipush (v := 64) (by decide +kernel : decode xm_45.2.1 111 = .ok (.bipush 64, 2)) (by decide)) rfl, xq_45_48⟩
theorem xq_45_46 : xOKs xsg xm_45 xk_45_0 xk_45_46 := ⟨xok_p (xp_dup (by decide +kernel : decode xm_45.2.1 110 = .ok (.dup, 1))) rfl, xq_45_47⟩
theorem xq_45_45 : xOKs xsg xm_45 xk_45_0 xk_45_45 := ⟨xok_new (by decide +kernel : decode xm_45.2.1 107 = .ok (.new 9, 3)) (rfl : vwCl[6]? = some (RX6, TX6, 3)) inX6 tyX6_ok xdf6_ok (fun _ _ => rfl) (xT_c1 71 rfl rfl) (xT_c1 30 rfl rfl) (xT_c1 2 rfl rfl) rfl, xq_45_46⟩
theorem xq_45_44 : xOKs xsg xm_45 xk_45_0 xk_45_44 := ⟨xok_ld (xl_aload_n (by decide +kernel : decode xm_45.2.1 106 = .ok (.aload_n 0, 1))) rfl, xq_45_45⟩
theorem xq_45_43 : xOKs xsg xm_45 xk_45_0 xk_45_43 := ⟨xok_putF (by decide +kernel : decode xm_45.2.1 103 = .ok (.putfield 32, 3)) (rfl : vwCl[9]? = some (RX9, TX9, 8)) inX9 tyX9_ok nmX9 (k := 5) (by decide) rfl rfl rfl (xT_c1 91 rfl rfl) rfl, xq_45_44⟩
theorem xq_45_42 : xOKs xsg xm_45 xk_45_0 xk_45_42 := ⟨xok_callI (M' := xm_36) rfl (by decide +kernel : decode xm_45.2.1 100 = .ok (.invokespecial 11, 3)) xn_36 rfl (xT_c1 32 rfl rfl) rfl (xT_c1 72 rfl rfl) rfl, xq_45_43⟩
theorem xq_45_41 : xOKs xsg xm_45 xk_45_0 xk_45_41 := ⟨xok_p (xp_sipush (v := 4002) (by decide +kernel : decode xm_45.2.1 97 = .ok (.sipush 4002, 3)) (by decide)) rfl, xq_45_42⟩
theorem xq_45_40 : xOKs xsg xm_45 xk_45_0 xk_45_40 := ⟨xok_p (xp_sipush (v := 300) (by decide +kernel : decode xm_45.2.1 94 = .ok (.sipush 300, 3)) (by decide)) rfl, xq_45_41⟩
theorem xq_45_39 : xOKs xsg xm_45 xk_45_0 xk_45_39 := ⟨xok_p (xp_dup (by decide +kernel : decode xm_45.2.1 93 = .ok (.dup, 1))) rfl, xq_45_40⟩
theorem xq_45_38 : xOKs xsg xm_45 xk_45_0 xk_45_38 := ⟨xok_new (by decide +kernel : decode xm_45.2.1 90 = .ok (.new 9, 3)) (rfl : vwCl[6]? = some (RX6, TX6, 3)) inX6 tyX6_ok xdf6_ok (fun _ _ => rfl) (xT_c1 71 rfl rfl) (xT_c1 30 rfl rfl) (xT_c1 2 rfl rfl) rfl, xq_45_39⟩
theorem xq_45_37 : xOKs xsg xm_45 xk_45_0 xk_45_37 := ⟨xok_ld (xl_aload_n (by decide +kernel : decode xm_45.2.1 89 = .ok (.aload_n 0, 1))) rfl, xq_45_38⟩
theorem xq_45_36 : xOKs xsg xm_45 xk_45_0 xk_45_36 := ⟨xok_putF (by decide +kernel : decode xm_45.2.1 86 = .ok (.putfield 29, 3)) (rfl : vwCl[9]? = some (RX9, TX9, 8)) inX9 tyX9_ok nmX9 (k := 4) (by decide) rfl rfl rfl (xT_c1 87 rfl rfl) rfl, xq_45_37⟩
theorem xq_45_35 : xOKs xsg xm_45 xk_45_0 xk_45_35 := ⟨xok_callI (M' := xm_36) rfl (by decide +kernel : decode xm_45.2.1 83 = .ok (.invokespecial 11, 3)) xn_36 rfl (xT_c1 32 rfl rfl) rfl (xT_c1 72 rfl rfl) rfl, xq_45_36⟩
theorem xq_45_34 : xOKs xsg xm_45 xk_45_0 xk_45_34 := ⟨xok_p (xp_sipush (v := 4002) (by decide +kernel : decode xm_45.2.1 80 = .ok (.sipush 4002, 3)) (by decide)) rfl, xq_45_35⟩
theorem xq_45_33 : xOKs xsg xm_45 xk_45_0 xk_45_33 := ⟨xok_p (xp_sipush (v := 300) (by decide +kernel : decode xm_45.2.1 77 = .ok (.sipush 300, 3)) (by decide)) rfl, xq_45_34⟩
theorem xq_45_32 : xOKs xsg xm_45 xk_45_0 xk_45_32 := ⟨xok_p (xp_dup (by decide +kernel : decode xm_45.2.1 76 = .ok (.dup, 1))) rfl, xq_45_33⟩
theorem xq_45_31 : xOKs xsg xm_45 xk_45_0 xk_45_31 := ⟨xok_new (by decide +kernel : decode xm_45.2.1 73 = .ok (.new 9, 3)) (rfl : vwCl[6]? = some (RX6, TX6, 3)) inX6 tyX6_ok xdf6_ok (fun _ _ => rfl) (xT_c1 71 rfl rfl) (xT_c1 30 rfl rfl) (xT_c1 2 rfl rfl) rfl, xq_45_32⟩
theorem xq_45_30 : xOKs xsg xm_45 xk_45_0 xk_45_30 := ⟨xok_ld (xl_aload_n (by decide +kernel : decode xm_45.2.1 72 = .ok (.aload_n 0, 1))) rfl, xq_45_31⟩
theorem xq_45_29 : xOKs xsg xm_45 xk_45_0 xk_45_29 := ⟨xok_putF (by decide +kernel : decode xm_45.2.1 69 = .ok (.putfield 26, 3)) (rfl : vwCl[9]? = some (RX9, TX9, 8)) inX9 tyX9_ok nmX9 (k := 3) (by decide) rfl rfl rfl (xT_c1 85 rfl rfl) rfl, xq_45_30⟩
theorem xq_45_28 : xOKs xsg xm_45 xk_45_0 xk_45_28 := ⟨xok_callI (M' := xm_36) rfl (by decide +kernel : decode xm_45.2.1 66 = .ok (.invokespecial 11, 3)) xn_36 rfl (xT_c1 32 rfl rfl) rfl (xT_c1 72 rfl rfl) rfl, xq_45_29⟩
theorem xq_45_27 : xOKs xsg xm_45 xk_45_0 xk_45_27 := ⟨xok_p (xp_sipush (v := 4002) (by decide +kernel : decode xm_45.2.1 63 = .ok (.sipush 4002, 3)) (by decide)) rfl, xq_45_28⟩
theorem xq_45_26 : xOKs xsg xm_45 xk_45_0 xk_45_26 := ⟨xok_p (xp_sipush (v := 300) (by decide +kernel : decode xm_45.2.1 60 = .ok (.sipush 300, 3)) (by decide)) rfl, xq_45_27⟩
theorem xq_45_25 : xOKs xsg xm_45 xk_45_0 xk_45_25 := ⟨xok_p (xp_dup (by decide +kernel : decode xm_45.2.1 59 = .ok (.dup, 1))) rfl, xq_45_26⟩
theorem xq_45_24 : xOKs xsg xm_45 xk_45_0 xk_45_24 := ⟨xok_new (by decide +kernel : decode xm_45.2.1 56 = .ok (.new 9, 3)) (rfl : vwCl[6]? = some (RX6, TX6, 3)) inX6 tyX6_ok xdf6_ok (fun _ _ => rfl) (xT_c1 71 rfl rfl) (xT_c1 30 rfl rfl) (xT_c1 2 rfl rfl) rfl, xq_45_25⟩
theorem xq_45_23 : xOKs xsg xm_45 xk_45_0 xk_45_23 := ⟨xok_ld (xl_aload_n (by decide +kernel : decode xm_45.2.1 55 = .ok (.aload_n 0, 1))) rfl, xq_45_24⟩
theorem xq_45_22 : xOKs xsg xm_45 xk_45_0 xk_45_22 := ⟨xok_putF (by decide +kernel : decode xm_45.2.1 52 = .ok (.putfield 23, 3)) (rfl : vwCl[9]? = some (RX9, TX9, 8)) inX9 tyX9_ok nmX9 (k := 2) (by decide) rfl rfl rfl (xT_c1 80 rfl rfl) rfl, xq_45_23⟩
theorem xq_45_21 : xOKs xsg xm_45 xk_45_0 xk_45_21 := ⟨xok_callI (M' := xm_36) rfl (by decide +kernel : decode xm_45.2.1 49 = .ok (.invokespecial 11, 3)) xn_36 rfl (xT_c1 32 rfl rfl) rfl (xT_c1 72 rfl rfl) rfl, xq_45_22⟩
theorem xq_45_20 : xOKs xsg xm_45 xk_45_0 xk_45_20 := ⟨xok_p (xp_sipush (v := 4002) (by decide +kernel : decode xm_45.2.1 46 = .ok (.sipush 4002, 3)) (by decide)) rfl, xq_45_21⟩
theorem xq_45_19 : xOKs xsg xm_45 xk_45_0 xk_45_19 := ⟨xok_p (xp_sipush (v := 300) (by decide +kernel : decode xm_45.2.1 43 = .ok (.sipush 300, 3)) (by decide)) rfl, xq_45_20⟩
theorem xq_45_18 : xOKs xsg xm_45 xk_45_0 xk_45_18 := ⟨xok_p (xp_dup (by decide +kernel : decode xm_45.2.1 42 = .ok (.dup, 1))) rfl, xq_45_19⟩
theorem xq_45_17 : xOKs xsg xm_45 xk_45_0 xk_45_17 := ⟨xok_new (by decide +kernel : decode xm_45.2.1 39 = .ok (.new 9, 3)) (rfl : vwCl[6]? = some (RX6, TX6, 3)) inX6 tyX6_ok xdf6_ok (fun _ _ => rfl) (xT_c1 71 rfl rfl) (xT_c1 30 rfl rfl) (xT_c1 2 rfl rfl) rfl, xq_45_18⟩
theorem xq_45_16 : xOKs xsg xm_45 xk_45_0 xk_45_16 := ⟨xok_ld (xl_aload_n (by decide +kernel : decode xm_45.2.1 38 = .ok (.aload_n 0, 1))) rfl, xq_45_17⟩
theorem xq_45_15 : xOKs xsg xm_45 xk_45_0 xk_45_15 := ⟨xok_putF (by decide +kernel : decode xm_45.2.1 35 = .ok (.putfield 20, 3)) (rfl : vwCl[9]? = some (RX9, TX9, 8)) inX9 tyX9_ok nmX9 (k := 1) (by decide) rfl rfl rfl (xT_c1 77 rfl rfl) rfl, xq_45_16⟩
theorem xq_45_14 : xOKs xsg xm_45 xk_45_0 xk_45_14 := ⟨xok_callI (M' := xm_36) rfl (by decide +kernel : decode xm_45.2.1 32 = .ok (.invokespecial 11, 3)) xn_36 rfl (xT_c1 32 rfl rfl) rfl (xT_c1 72 rfl rfl) rfl, xq_45_15⟩
theorem xq_45_13 : xOKs xsg xm_45 xk_45_0 xk_45_13 := ⟨xok_p (xp_sipush (v := 4002) (by decide +kernel : decode xm_45.2.1 29 = .ok (.sipush 4002, 3)) (by decide)) rfl, xq_45_14⟩
theorem xq_45_12 : xOKs xsg xm_45 xk_45_0 xk_45_12 := ⟨xok_p (xp_sipush (v := 300) (by decide +kernel : decode xm_45.2.1 26 = .ok (.sipush 300, 3)) (by decide)) rfl, xq_45_13⟩
theorem xq_45_11 : xOKs xsg xm_45 xk_45_0 xk_45_11 := ⟨xok_p (xp_dup (by decide +kernel : decode xm_45.2.1 25 = .ok (.dup, 1))) rfl, xq_45_12⟩
theorem xq_45_10 : xOKs xsg xm_45 xk_45_0 xk_45_10 := ⟨xok_new (by decide +kernel : decode xm_45.2.1 22 = .ok (.new 9, 3)) (rfl : vwCl[6]? = some (RX6, TX6, 3)) inX6 tyX6_ok xdf6_ok (fun _ _ => rfl) (xT_c1 71 rfl rfl) (xT_c1 30 rfl rfl) (xT_c1 2 rfl rfl) rfl, xq_45_11⟩
theorem xq_45_9 : xOKs xsg xm_45 xk_45_0 xk_45_9 := ⟨xok_ld (xl_aload_n (by decide +kernel : decode xm_45.2.1 21 = .ok (.aload_n 0, 1))) rfl, xq_45_10⟩
theorem xq_45_8 : xOKs xsg xm_45 xk_45_0 xk_45_8 := ⟨xok_putF (by decide +kernel : decode xm_45.2.1 18 = .ok (.putfield 14, 3)) (rfl : vwCl[9]? = some (RX9, TX9, 8)) inX9 tyX9_ok nmX9 (k := 0) (by decide) rfl rfl rfl (xT_c1 73 rfl rfl) rfl, xq_45_9⟩
theorem xq_45_7 : xOKs xsg xm_45 xk_45_0 xk_45_7 := ⟨xok_callI (M' := xm_36) rfl (by decide +kernel : decode xm_45.2.1 15 = .ok (.invokespecial 11, 3)) xn_36 rfl (xT_c1 32 rfl rfl) rfl (xT_c1 72 rfl rfl) rfl, xq_45_8⟩
theorem xq_45_6 : xOKs xsg xm_45 xk_45_0 xk_45_6 := ⟨xok_p (xp_sipush (v := 4000) (by decide +kernel : decode xm_45.2.1 12 = .ok (.sipush 4000, 3)) (by decide)) rfl, xq_45_7⟩
theorem xq_45_5 : xOKs xsg xm_45 xk_45_0 xk_45_5 := ⟨xok_p (xp_sipush (v := 600) (by decide +kernel : decode xm_45.2.1 9 = .ok (.sipush 600, 3)) (by decide)) rfl, xq_45_6⟩
theorem xq_45_4 : xOKs xsg xm_45 xk_45_0 xk_45_4 := ⟨xok_p (xp_dup (by decide +kernel : decode xm_45.2.1 8 = .ok (.dup, 1))) rfl, xq_45_5⟩
theorem xq_45_3 : xOKs xsg xm_45 xk_45_0 xk_45_3 := ⟨xok_new (by decide +kernel : decode xm_45.2.1 5 = .ok (.new 9, 3)) (rfl : vwCl[6]? = some (RX6, TX6, 3)) inX6 tyX6_ok xdf6_ok (fun _ _ => rfl) (xT_c1 71 rfl rfl) (xT_c1 30 rfl rfl) (xT_c1 2 rfl rfl) rfl, xq_45_4⟩
theorem xq_45_2 : xOKs xsg xm_45 xk_45_0 xk_45_2 := ⟨xok_ld (xl_aload_n (by decide +kernel : decode xm_45.2.1 4 = .ok (.aload_n 0, 1))) rfl, xq_45_3⟩
theorem xq_45_1 : xOKs xsg xm_45 xk_45_0 xk_45_1 := ⟨xok_obj (by decide +kernel : decode xm_45.2.1 1 = .ok (.invokespecial 3, 3)) (xT_c1 70 rfl rfl) xw_o2 xw_o3 rfl, xq_45_2⟩
theorem xq_45_0 : xOKs xsg xm_45 xk_45_0 xk_45_0 := ⟨xok_ld (xl_aload_n (by decide +kernel : decode xm_45.2.1 0 = .ok (.aload_n 0, 1))) rfl, xq_45_1⟩
theorem xz_45 : xwf xsg xm_45 xk_45_0 := ⟨xq_45_0, rfl, by decide⟩
/-! FeatherBench$Text.scan(LFeatherBench$Row;)V -/
theorem xq_46_65 : xOKs xsg xm_46 xk_46_0 xk_46_65 := trivial
theorem xq_46_64 : xOKs xsg xm_46 xk_46_0 xk_46_64 := ⟨xok_ret0 (by decide +kernel : decode xm_46.2.1 127 = .ok (.return_, 1)) rfl, xq_46_65⟩
theorem xq_46_63 : xOKs xsg xm_46 xk_46_0 xk_46_63 := ⟨xok_callV (M' := xm_38) rfl (rfl : vwCl[6]? = some (RX6, TX6, 3)) (by decide +kernel : decode xm_46.2.1 124 = .ok (.invokevirtual 56, 3)) xn_38 (xT_c1 120 rfl rfl) (xT_c1 121 rfl rfl) (xT_c3 92 rfl rfl) rfl, xq_46_64⟩
theorem xq_46_62 : xOKs xsg xm_46 xk_46_0 xk_46_62 := ⟨xok_p (xp_iconst (v := 0) (by decide +kernel : decode xm_46.2.1 123 = .ok (.iconst 0, 1)) (by decide)) rfl, xq_46_63⟩
theorem xq_46_61 : xOKs xsg xm_46 xk_46_0 xk_46_61 := ⟨xok_getN (by decide +kernel : decode xm_46.2.1 120 = .ok (.getfield 44, 3)) (rfl : vwCl[6]? = some (RX6, TX6, 3)) inX6 (by decide) (xN_c1 43 rfl rfl) rfl, xq_46_62⟩
theorem xq_46_60 : xOKs xsg xm_46 xk_46_0 xk_46_60 := ⟨xok_get (by decide +kernel : decode xm_46.2.1 117 = .ok (.getfield 20, 3)) (rfl : vwCl[9]? = some (RX9, TX9, 8)) inX9 (by decide) (xT_c1 77 rfl rfl) rfl, xq_46_61⟩
theorem xq_46_59 : xOKs xsg xm_46 xk_46_0 xk_46_59 := ⟨xok_ld (xl_aload_n (by decide +kernel : decode xm_46.2.1 116 = .ok (.aload_n 0, 1))) rfl, xq_46_60⟩
theorem xq_46_58 : xOKs xsg xm_46 xk_46_0 xk_46_58 := ⟨xok_get (by decide +kernel : decode xm_46.2.1 113 = .ok (.getfield 20, 3)) (rfl : vwCl[9]? = some (RX9, TX9, 8)) inX9 (by decide) (xT_c1 77 rfl rfl) rfl, xq_46_59⟩
theorem xq_46_57 : xOKs xsg xm_46 xk_46_0 xk_46_57 := ⟨xok_ld (xl_aload_n (by decide +kernel : decode xm_46.2.1 112 = .ok (.aload_n 0, 1))) rfl, xq_46_58⟩
theorem xq_46_56 : xOKs xsg xm_46 xk_46_0 xk_46_56 := ⟨xok_callV (M' := xm_47) rfl (rfl : vwCl[9]? = some (RX9, TX9, 8)) (by decide +kernel : decode xm_46.2.1 109 = .ok (.invokevirtual 62, 3)) xn_47 (xT_c3 105 rfl rfl) (xT_c0 2 rfl rfl) (xT_c3 103 rfl rfl) rfl, xq_46_57⟩
theorem xq_46_55 : xOKs xsg xm_46 xk_46_0 xk_46_55 := ⟨xok_p (xp_iconst (v := 0) (by decide +kernel : decode xm_46.2.1 108 = .ok (.iconst 0, 1)) (by decide)) rfl, xq_46_56⟩
theorem xq_46_54 : xOKs xsg xm_46 xk_46_0 xk_46_54 := ⟨xok_getN (by decide +kernel : decode xm_46.2.1 105 = .ok (.getfield 44, 3)) (rfl : vwCl[6]? = some (RX6, TX6, 3)) inX6 (by decide) (xN_c1 43 rfl rfl) rfl, xq_46_55⟩
theorem xq_46_53 : xOKs xsg xm_46 xk_46_0 xk_46_53 := ⟨xok_get (by decide +kernel : decode xm_46.2.1 102 = .ok (.getfield 14, 3)) (rfl : vwCl[9]? = some (RX9, TX9, 8)) inX9 (by decide) (xT_c1 73 rfl rfl) rfl, xq_46_54⟩
theorem xq_46_52 : xOKs xsg xm_46 xk_46_0 xk_46_52 := ⟨xok_ld (xl_aload_n (by decide +kernel : decode xm_46.2.1 101 = .ok (.aload_n 0, 1))) rfl, xq_46_53⟩
theorem xq_46_51 : xOKs xsg xm_46 xk_46_0 xk_46_51 := ⟨xok_p (xp_iconst (v := 0) (by decide +kernel : decode xm_46.2.1 100 = .ok (.iconst 0, 1)) (by decide)) rfl, xq_46_52⟩
theorem xq_46_50 : xOKs xsg xm_46 xk_46_0 xk_46_50 := ⟨xok_ld (xl_aload_n (by decide +kernel : decode xm_46.2.1 99 = .ok (.aload_n 0, 1))) rfl, xq_46_51⟩
theorem xq_46_49 : xOKs xsg xm_46 xk_46_0 xk_46_49 := ⟨xok_none, xq_46_50⟩
theorem xq_46_48 : xOKs xsg xm_46 xk_46_0 xk_46_48 := ⟨xok_none, xq_46_49⟩
theorem xq_46_47 : xOKs xsg xm_46 xk_46_0 xk_46_47 := ⟨xok_none, xq_46_48⟩
theorem xq_46_46 : xOKs xsg xm_46 xk_46_0 xk_46_46 := ⟨xok_none, xq_46_47⟩
theorem xq_46_45 : xOKs xsg xm_46 xk_46_0 xk_46_45 := ⟨xok_none, xq_46_46⟩
theorem xq_46_44 : xOKs xsg xm_46 xk_46_0 xk_46_44 := ⟨xok_none, xq_46_45⟩
theorem xq_46_43 : xOKs xsg xm_46 xk_46_0 xk_46_43 := ⟨xok_br (tgt := 99) (xb_ige (by decide +kernel : decode xm_46.2.1 84 = .ok (.if_icmp .ge 15, 3)) (by decide)) (by decide +kernel) rfl, xq_46_44⟩
theorem xq_46_42 : xOKs xsg xm_46 xk_46_0 xk_46_42 := ⟨xok_getN (by decide +kernel : decode xm_46.2.1 81 = .ok (.getfield 44, 3)) (rfl : vwCl[6]? = some (RX6, TX6, 3)) inX6 (by decide) (xN_c1 43 rfl rfl) rfl, xq_46_43⟩
theorem xq_46_41 : xOKs xsg xm_46 xk_46_0 xk_46_41 := ⟨xok_get (by decide +kernel : decode xm_46.2.1 78 = .ok (.getfield 14, 3)) (rfl : vwCl[9]? = some (RX9, TX9, 8)) inX9 (by decide) (xT_c1 73 rfl rfl) rfl, xq_46_42⟩
theorem xq_46_40 : xOKs xsg xm_46 xk_46_0 xk_46_40 := ⟨xok_ld (xl_aload_n (by decide +kernel : decode xm_46.2.1 77 = .ok (.aload_n 0, 1))) rfl, xq_46_41⟩
theorem xq_46_39 : xOKs xsg xm_46 xk_46_0 xk_46_39 := ⟨xok_ld (xl_iload_n (by decide +kernel : decode xm_46.2.1 76 = .ok (.iload_n 2, 1))) rfl, xq_46_40⟩
theorem xq_46_38 : xOKs xsg xm_46 xk_46_0 xk_46_38 := ⟨xok_br (tgt := 99) (xb_ige (by decide +kernel : decode xm_46.2.1 73 = .ok (.if_icmp .ge 26, 3)) (by decide)) (by decide +kernel) rfl, xq_46_39⟩
theorem xq_46_37 : xOKs xsg xm_46 xk_46_0 xk_46_37 := ⟨xok_p (xp_sipush (v := 4000) (by decide +kernel : decode xm_46.2.1 70 = .ok (.sipush 4000, 3)) (by decide)) rfl, xq_46_38⟩
theorem xq_46_36 : xOKs xsg xm_46 xk_46_0 xk_46_36 := ⟨xok_ld (xl_iload_n (by decide +kernel : decode xm_46.2.1 69 = .ok (.iload_n 3, 1))) rfl, xq_46_37⟩
theorem xq_46_35 : xOKs xsg xm_46 xk_46_0 xk_46_35 := ⟨xok_st (xs_istore_n (by decide +kernel : decode xm_46.2.1 68 = .ok (.istore_n 3, 1)) (by decide)) rfl, xq_46_36⟩
theorem xq_46_34 : xOKs xsg xm_46 xk_46_0 xk_46_34 := ⟨xok_p (xp_iconst (v := 0) (by decide +kernel : decode xm_46.2.1 67 = .ok (.iconst 0, 1)) (by decide)) rfl, xq_46_35⟩
theorem xq_46_33 : xOKs xsg xm_46 xk_46_0 xk_46_33 := ⟨xok_st (xs_istore_n (by decide +kernel : decode xm_46.2.1 66 = .ok (.istore_n 2, 1)) (by decide)) rfl, xq_46_34⟩
theorem xq_46_32 : xOKs xsg xm_46 xk_46_0 xk_46_32 := ⟨xok_p (xp_iconst (v := 0) (by decide +kernel : decode xm_46.2.1 65 = .ok (.iconst 0, 1)) (by decide)) rfl, xq_46_33⟩
theorem xq_46_31 : xOKs xsg xm_46 xk_46_0 xk_46_31 := ⟨xok_callV (M' := xm_40) rfl (rfl : vwCl[6]? = some (RX6, TX6, 3)) (by decide +kernel : decode xm_46.2.1 62 = .ok (.invokevirtual 41, 3)) xn_40 (xT_c3 84 rfl rfl) (xT_c3 85 rfl rfl) (xT_c3 83 rfl rfl) rfl, xq_46_32⟩
theorem xq_46_30 : xOKs xsg xm_46 xk_46_0 xk_46_30 := ⟨xok_get (by decide +kernel : decode xm_46.2.1 59 = .ok (.getfield 20, 3)) (rfl : vwCl[9]? = some (RX9, TX9, 8)) inX9 (by decide) (xT_c1 77 rfl rfl) rfl, xq_46_31⟩
theorem xq_46_29 : xOKs xsg xm_46 xk_46_0 xk_46_29 := ⟨xok_ld (xl_aload_n (by decide +kernel : decode xm_46.2.1 58 = .ok (.aload_n 0, 1))) rfl, xq_46_30⟩
theorem xq_46_28 : xOKs xsg xm_46 xk_46_0 xk_46_28 := ⟨xok_br (tgt := 37) (xb_go (by decide +kernel : decode xm_46.2.1 55 = .ok (.goto (-18), 3)) (by decide)) (by decide +kernel) rfl, xq_46_29⟩
theorem xq_46_27 : xOKs xsg xm_46 xk_46_0 xk_46_27 := ⟨xok_inc (by decide +kernel : decode xm_46.2.1 52 = .ok (.iinc 2 1, 3)) (by decide) rfl, xq_46_28⟩
theorem xq_46_26 : xOKs xsg xm_46 xk_46_0 xk_46_26 := ⟨xok_callV (M' := xm_38) rfl (rfl : vwCl[6]? = some (RX6, TX6, 3)) (by decide +kernel : decode xm_46.2.1 49 = .ok (.invokevirtual 56, 3)) xn_38 (xT_c1 120 rfl rfl) (xT_c1 121 rfl rfl) (xT_c3 92 rfl rfl) rfl, xq_46_27⟩
theorem xq_46_25 : xOKs xsg xm_46 xk_46_0 xk_46_25 := ⟨xok_p (xp_iconst (v := 0) (by decide +kernel : decode xm_46.2.1 48 = .ok (.iconst 0, 1)) (by decide)) rfl, xq_46_26⟩
theorem xq_46_24 : xOKs xsg xm_46 xk_46_0 xk_46_24 := ⟨xok_ld (xl_iload_n (by decide +kernel : decode xm_46.2.1 47 = .ok (.iload_n 2, 1))) rfl, xq_46_25⟩
theorem xq_46_23 : xOKs xsg xm_46 xk_46_0 xk_46_23 := ⟨xok_get (by decide +kernel : decode xm_46.2.1 44 = .ok (.getfield 35, 3)) (rfl : vwCl[9]? = some (RX9, TX9, 8)) inX9 (by decide) (xT_c1 96 rfl rfl) rfl, xq_46_24⟩
theorem xq_46_22 : xOKs xsg xm_46 xk_46_0 xk_46_22 := ⟨xok_ld (xl_aload_n (by decide +kernel : decode xm_46.2.1 43 = .ok (.aload_n 0, 1))) rfl, xq_46_23⟩
theorem xq_46_21 : xOKs xsg xm_46 xk_46_0 xk_46_21 := ⟨xok_br (tgt := 58) (xb_ige (by decide +kernel : decode xm_46.2.1 40 = .ok (.if_icmp .ge 18, 3)) (by decide)) (by decide +kernel) rfl, xq_46_22⟩
theorem xq_46_20 : xOKs xsg xm_46 xk_46_0 xk_46_20 := ⟨xok_p (xp_bipush (v := 64) (by decide +kernel : decode xm_46.2.1 38 = .ok (.bipush 64, 2)) (by decide)) rfl, xq_46_21⟩
theorem xq_46_19 : xOKs xsg xm_46 xk_46_0 xk_46_19 := ⟨xok_ld (xl_iload_n (by decide +kernel : decode xm_46.2.1 37 = .ok (.iload_n 2, 1))) rfl, xq_46_20⟩
theorem xq_46_18 : xOKs xsg xm_46 xk_46_0 xk_46_18 := ⟨xok_st (xs_istore_n (by decide +kernel : decode xm_46.2.1 36 = .ok (.istore_n 2, 1)) (by decide)) rfl, xq_46_19⟩
theorem xq_46_17 : xOKs xsg xm_46 xk_46_0 xk_46_17 := ⟨xok_p (xp_iconst (v := 0) (by decide +kernel : decode xm_46.2.1 35 = .ok (.iconst 0, 1)) (by decide)) rfl, xq_46_18⟩
theorem xq_46_16 : xOKs xsg xm_46 xk_46_0 xk_46_16 := ⟨xok_none, xq_46_17⟩
theorem xq_46_15 : xOKs xsg xm_46 xk_46_0 xk_46_15 := ⟨xok_none, xq_46_16⟩
theorem xq_46_14 : xOKs xsg xm_46 xk_46_0 xk_46_14 := ⟨xok_none, xq_46_15⟩
theorem xq_46_13 : xOKs xsg xm_46 xk_46_0 xk_46_13 := ⟨xok_none, xq_46_14⟩
theorem xq_46_12 : xOKs xsg xm_46 xk_46_0 xk_46_12 := ⟨xok_none, xq_46_13⟩
theorem xq_46_11 : xOKs xsg xm_46 xk_46_0 xk_46_11 := ⟨xok_none, xq_46_12⟩
theorem xq_46_10 : xOKs xsg xm_46 xk_46_0 xk_46_10 := ⟨xok_none, xq_46_11⟩
theorem xq_46_9 : xOKs xsg xm_46 xk_46_0 xk_46_9 := ⟨xok_none, xq_46_10⟩
theorem xq_46_8 : xOKs xsg xm_46 xk_46_0 xk_46_8 := ⟨xok_br (tgt := 35) (xb_ige (by decide +kernel : decode xm_46.2.1 14 = .ok (.if_icmp .ge 21, 3)) (by decide)) (by decide +kernel) rfl, xq_46_9⟩
theorem xq_46_7 : xOKs xsg xm_46 xk_46_0 xk_46_7 := ⟨xok_getN (by decide +kernel : decode xm_46.2.1 11 = .ok (.getfield 44, 3)) (rfl : vwCl[6]? = some (RX6, TX6, 3)) inX6 (by decide) (xN_c1 43 rfl rfl) rfl, xq_46_8⟩
theorem xq_46_6 : xOKs xsg xm_46 xk_46_0 xk_46_6 := ⟨xok_ld (xl_aload_n (by decide +kernel : decode xm_46.2.1 10 = .ok (.aload_n 1, 1))) rfl, xq_46_7⟩
theorem xq_46_5 : xOKs xsg xm_46 xk_46_0 xk_46_5 := ⟨xok_ld (xl_iload_n (by decide +kernel : decode xm_46.2.1 9 = .ok (.iload_n 2, 1))) rfl, xq_46_6⟩
theorem xq_46_4 : xOKs xsg xm_46 xk_46_0 xk_46_4 := ⟨xok_st (xs_istore_n (by decide +kernel : decode xm_46.2.1 8 = .ok (.istore_n 2, 1)) (by decide)) rfl, xq_46_5⟩
theorem xq_46_3 : xOKs xsg xm_46 xk_46_0 xk_46_3 := ⟨xok_p (xp_iconst (v := 0) (by decide +kernel : decode xm_46.2.1 7 = .ok (.iconst 0, 1)) (by decide)) rfl, xq_46_4⟩
theorem xq_46_2 : xOKs xsg xm_46 xk_46_0 xk_46_2 := ⟨xok_callV (M' := xm_40) rfl (rfl : vwCl[6]? = some (RX6, TX6, 3)) (by decide +kernel : decode xm_46.2.1 4 = .ok (.invokevirtual 41, 3)) xn_40 (xT_c3 84 rfl rfl) (xT_c3 85 rfl rfl) (xT_c3 83 rfl rfl) rfl, xq_46_3⟩
theorem xq_46_1 : xOKs xsg xm_46 xk_46_0 xk_46_1 := ⟨xok_get (by decide +kernel : decode xm_46.2.1 1 = .ok (.getfield 14, 3)) (rfl : vwCl[9]? = some (RX9, TX9, 8)) inX9 (by decide) (xT_c1 73 rfl rfl) rfl, xq_46_2⟩
theorem xq_46_0 : xOKs xsg xm_46 xk_46_0 xk_46_0 := ⟨xok_ld (xl_aload_n (by decide +kernel : decode xm_46.2.1 0 = .ok (.aload_n 0, 1))) rfl, xq_46_1⟩
theorem xz_46 : xwf xsg xm_46 xk_46_0 := ⟨xq_46_0, rfl, by decide⟩
/-! FeatherBench$Text.addToken(III)V -/
theorem xq_47_31 : xOKs xsg xm_47 xk_47_0 xk_47_31 := trivial
theorem xq_47_30 : xOKs xsg xm_47 xk_47_0 xk_47_30 := ⟨xok_ret0 (by decide +kernel : decode xm_47.2.1 62 = .ok (.return_, 1)) rfl, xq_47_31⟩
theorem xq_47_29 : xOKs xsg xm_47 xk_47_0 xk_47_29 := ⟨xok_callV (M' := xm_38) rfl (rfl : vwCl[6]? = some (RX6, TX6, 3)) (by decide +kernel : decode xm_47.2.1 59 = .ok (.invokevirtual 56, 3)) xn_38 (xT_c1 120 rfl rfl) (xT_c1 121 rfl rfl) (xT_c3 92 rfl rfl) rfl, xq_47_30⟩
theorem xq_47_28 : xOKs xsg xm_47 xk_47_0 xk_47_28 := ⟨xok_ld (xl_iload (by decide +kernel : decode xm_47.2.1 57 = .ok (.iload 4, 2))) rfl, xq_47_29⟩
theorem xq_47_27 : xOKs xsg xm_47 xk_47_0 xk_47_27 := ⟨xok_none, xq_47_28⟩
theorem xq_47_26 : xOKs xsg xm_47 xk_47_0 xk_47_26 := ⟨xok_none, xq_47_27⟩
theorem xq_47_25 : xOKs xsg xm_47 xk_47_0 xk_47_25 := ⟨xok_none, xq_47_26⟩
theorem xq_47_24 : xOKs xsg xm_47 xk_47_0 xk_47_24 := ⟨xok_none, xq_47_25⟩
theorem xq_47_23 : xOKs xsg xm_47 xk_47_0 xk_47_23 := ⟨xok_br (tgt := 57) (xb_ine (by decide +kernel : decode xm_47.2.1 45 = .ok (.if_icmp .ne 12, 3)) (by decide)) (by decide +kernel) rfl, xq_47_24⟩
theorem xq_47_22 : xOKs xsg xm_47 xk_47_0 xk_47_22 := ⟨xok_p (xp_iconst (v := 1) (by decide +kernel : decode xm_47.2.1 44 = .ok (.iconst 1, 1)) (by decide)) rfl, xq_47_23⟩
theorem xq_47_21 : xOKs xsg xm_47 xk_47_0 xk_47_21 := ⟨xok_ld (xl_iload_n (by decide +kernel : decode xm_47.2.1 43 = .ok (.iload_n 1, 1))) rfl, xq_47_22⟩
theorem xq_47_20 : xOKs xsg xm_47 xk_47_0 xk_47_20 := ⟨xok_ld (xl_iload (by decide +kernel : decode xm_47.2.1 41 = .ok (.iload 4, 2))) rfl, xq_47_21⟩
theorem xq_47_19 : xOKs xsg xm_47 xk_47_0 xk_47_19 := ⟨xok_get (by decide +kernel : decode xm_47.2.1 38 = .ok (.getfield 29, 3)) (rfl : vwCl[9]? = some (RX9, TX9, 8)) inX9 (by decide) (xT_c1 87 rfl rfl) rfl, xq_47_20⟩
theorem xq_47_18 : xOKs xsg xm_47 xk_47_0 xk_47_18 := ⟨xok_ld (xl_aload_n (by decide +kernel : decode xm_47.2.1 37 = .ok (.aload_n 0, 1))) rfl, xq_47_19⟩
theorem xq_47_17 : xOKs xsg xm_47 xk_47_0 xk_47_17 := ⟨xok_callV (M' := xm_38) rfl (rfl : vwCl[6]? = some (RX6, TX6, 3)) (by decide +kernel : decode xm_47.2.1 34 = .ok (.invokevirtual 56, 3)) xn_38 (xT_c1 120 rfl rfl) (xT_c1 121 rfl rfl) (xT_c3 92 rfl rfl) rfl, xq_47_18⟩
theorem xq_47_16 : xOKs xsg xm_47 xk_47_0 xk_47_16 := ⟨xok_ld (xl_iload_n (by decide +kernel : decode xm_47.2.1 33 = .ok (.iload_n 3, 1))) rfl, xq_47_17⟩
theorem xq_47_15 : xOKs xsg xm_47 xk_47_0 xk_47_15 := ⟨xok_ld (xl_iload (by decide +kernel : decode xm_47.2.1 31 = .ok (.iload 4, 2))) rfl, xq_47_16⟩
theorem xq_47_14 : xOKs xsg xm_47 xk_47_0 xk_47_14 := ⟨xok_get (by decide +kernel : decode xm_47.2.1 28 = .ok (.getfield 26, 3)) (rfl : vwCl[9]? = some (RX9, TX9, 8)) inX9 (by decide) (xT_c1 85 rfl rfl) rfl, xq_47_15⟩
theorem xq_47_13 : xOKs xsg xm_47 xk_47_0 xk_47_13 := ⟨xok_ld (xl_aload_n (by decide +kernel : decode xm_47.2.1 27 = .ok (.aload_n 0, 1))) rfl, xq_47_14⟩
theorem xq_47_12 : xOKs xsg xm_47 xk_47_0 xk_47_12 := ⟨xok_callV (M' := xm_38) rfl (rfl : vwCl[6]? = some (RX6, TX6, 3)) (by decide +kernel : decode xm_47.2.1 24 = .ok (.invokevirtual 56, 3)) xn_38 (xT_c1 120 rfl rfl) (xT_c1 121 rfl rfl) (xT_c3 92 rfl rfl) rfl, xq_47_13⟩
theorem xq_47_11 : xOKs xsg xm_47 xk_47_0 xk_47_11 := ⟨xok_ld (xl_iload_n (by decide +kernel : decode xm_47.2.1 23 = .ok (.iload_n 2, 1))) rfl, xq_47_12⟩
theorem xq_47_10 : xOKs xsg xm_47 xk_47_0 xk_47_10 := ⟨xok_ld (xl_iload (by decide +kernel : decode xm_47.2.1 21 = .ok (.iload 4, 2))) rfl, xq_47_11⟩
theorem xq_47_9 : xOKs xsg xm_47 xk_47_0 xk_47_9 := ⟨xok_get (by decide +kernel : decode xm_47.2.1 18 = .ok (.getfield 23, 3)) (rfl : vwCl[9]? = some (RX9, TX9, 8)) inX9 (by decide) (xT_c1 80 rfl rfl) rfl, xq_47_10⟩
theorem xq_47_8 : xOKs xsg xm_47 xk_47_0 xk_47_8 := ⟨xok_ld (xl_aload_n (by decide +kernel : decode xm_47.2.1 17 = .ok (.aload_n 0, 1))) rfl, xq_47_9⟩
theorem xq_47_7 : xOKs xsg xm_47 xk_47_0 xk_47_7 := ⟨xok_callV (M' := xm_39) rfl (rfl : vwCl[6]? = some (RX6, TX6, 3)) (by decide +kernel : decode xm_47.2.1 14 = .ok (.invokevirtual 52, 3)) xn_39 (xT_c3 67 rfl rfl) (xT_c3 68 rfl rfl) (xT_c3 91 rfl rfl) rfl, xq_47_8⟩
theorem xq_47_6 : xOKs xsg xm_47 xk_47_0 xk_47_6 := ⟨xok_ld (xl_iload_n (by decide +kernel : decode xm_47.2.1 13 = .ok (.iload_n 1, 1))) rfl, xq_47_7⟩
theorem xq_47_5 : xOKs xsg xm_47 xk_47_0 xk_47_5 := ⟨xok_get (by decide +kernel : decode xm_47.2.1 10 = .ok (.getfield 20, 3)) (rfl : vwCl[9]? = some (RX9, TX9, 8)) inX9 (by decide) (xT_c1 77 rfl rfl) rfl, xq_47_6⟩
theorem xq_47_4 : xOKs xsg xm_47 xk_47_0 xk_47_4 := ⟨xok_ld (xl_aload_n (by decide +kernel : decode xm_47.2.1 9 = .ok (.aload_n 0, 1))) rfl, xq_47_5⟩
theorem xq_47_3 : xOKs xsg xm_47 xk_47_0 xk_47_3 := ⟨xok_st (xs_istore (by decide +kernel : decode xm_47.2.1 7 = .ok (.istore 4, 2)) (by decide)) rfl, xq_47_4⟩
theorem xq_47_2 : xOKs xsg xm_47 xk_47_0 xk_47_2 := ⟨xok_getN (by decide +kernel : decode xm_47.2.1 4 = .ok (.getfield 44, 3)) (rfl : vwCl[6]? = some (RX6, TX6, 3)) inX6 (by decide) (xN_c1 43 rfl rfl) rfl, xq_47_3⟩
theorem xq_47_1 : xOKs xsg xm_47 xk_47_0 xk_47_1 := ⟨xok_get (by decide +kernel : decode xm_47.2.1 1 = .ok (.getfield 20, 3)) (rfl : vwCl[9]? = some (RX9, TX9, 8)) inX9 (by decide) (xT_c1 77 rfl rfl) rfl, xq_47_2⟩
theorem xq_47_0 : xOKs xsg xm_47 xk_47_0 xk_47_0 := ⟨xok_ld (xl_aload_n (by decide +kernel : decode xm_47.2.1 0 = .ok (.aload_n 0, 1))) rfl, xq_47_1⟩
theorem xz_47 : xwf xsg xm_47 xk_47_0 := ⟨xq_47_0, rfl, by decide⟩
/-! FeatherBench$Told.<init>(LFeatherBench$Program;LFeatherBench$Shapes;)V -/
theorem xq_48_13 : xOKs xsg xm_48 xk_48_0 xk_48_13 := trivial
theorem xq_48_12 : xOKs xsg xm_48 xk_48_0 xk_48_12 := ⟨xok_ret0 (by decide +kernel : decode xm_48.2.1 22 = .ok (.return_, 1)) rfl, xq_48_13⟩
theorem xq_48_11 : xOKs xsg xm_48 xk_48_0 xk_48_11 := ⟨xok_put (by decide +kernel : decode xm_48.2.1 19 = .ok (.putfield 25, 3)) (rfl : vwCl[10]? = some (RX10, TX10, 3)) inX10 tyX10_ok nmX10 (k := 2) (by decide) rfl (xT_c2 55 rfl rfl) rfl, xq_48_12⟩
theorem xq_48_10 : xOKs xsg xm_48 xk_48_0 xk_48_10 := ⟨xok_getN (by decide +kernel : decode xm_48.2.1 16 = .ok (.getfield 19, 3)) (rfl : vwCl[4]? = some (RX4, TX4, 15)) inX4 (by decide) (xN_c1 139 rfl rfl) rfl, xq_48_11⟩
theorem xq_48_9 : xOKs xsg xm_48 xk_48_0 xk_48_9 := ⟨xok_ld (xl_aload_n (by decide +kernel : decode xm_48.2.1 15 = .ok (.aload_n 1, 1))) rfl, xq_48_10⟩
theorem xq_48_8 : xOKs xsg xm_48 xk_48_0 xk_48_8 := ⟨xok_ld (xl_aload_n (by decide +kernel : decode xm_48.2.1 14 = .ok (.aload_n 0, 1))) rfl, xq_48_9⟩
theorem xq_48_7 : xOKs xsg xm_48 xk_48_0 xk_48_7 := ⟨xok_putF (by decide +kernel : decode xm_48.2.1 11 = .ok (.putfield 15, 3)) (rfl : vwCl[10]? = some (RX10, TX10, 3)) inX10 tyX10_ok nmX10 (k := 0) (by decide) rfl rfl rfl (xT_c2 53 rfl rfl) rfl, xq_48_8⟩
theorem xq_48_6 : xOKs xsg xm_48 xk_48_0 xk_48_6 := ⟨xok_ld (xl_aload_n (by decide +kernel : decode xm_48.2.1 10 = .ok (.aload_n 2, 1))) rfl, xq_48_7⟩
theorem xq_48_5 : xOKs xsg xm_48 xk_48_0 xk_48_5 := ⟨xok_ld (xl_aload_n (by decide +kernel : decode xm_48.2.1 9 = .ok (.aload_n 0, 1))) rfl, xq_48_6⟩
theorem xq_48_4 : xOKs xsg xm_48 xk_48_0 xk_48_4 := ⟨xok_put (by decide +kernel : decode xm_48.2.1 6 = .ok (.putfield 9, 3)) (rfl : vwCl[10]? = some (RX10, TX10, 3)) inX10 tyX10_ok nmX10 (k := 1) (by decide) rfl (xT_c2 54 rfl rfl) rfl, xq_48_5⟩
theorem xq_48_3 : xOKs xsg xm_48 xk_48_0 xk_48_3 := ⟨xok_ld (xl_aload_n (by decide +kernel : decode xm_48.2.1 5 = .ok (.aload_n 1, 1))) rfl, xq_48_4⟩
theorem xq_48_2 : xOKs xsg xm_48 xk_48_0 xk_48_2 := ⟨xok_ld (xl_aload_n (by decide +kernel : decode xm_48.2.1 4 = .ok (.aload_n 0, 1))) rfl, xq_48_3⟩
theorem xq_48_1 : xOKs xsg xm_48 xk_48_0 xk_48_1 := ⟨xok_obj (by decide +kernel : decode xm_48.2.1 1 = .ok (.invokespecial 3, 3)) (xT_c2 52 rfl rfl) xw_o2 xw_o3 rfl, xq_48_2⟩
theorem xq_48_0 : xOKs xsg xm_48 xk_48_0 xk_48_0 := ⟨xok_ld (xl_aload_n (by decide +kernel : decode xm_48.2.1 0 = .ok (.aload_n 0, 1))) rfl, xq_48_1⟩
theorem xz_48 : xwf xsg xm_48 xk_48_0 := ⟨xq_48_0, rfl, by decide⟩
/-! FeatherBench$Told.use(LFeatherBench$Program;LFeatherBench$Text;)V -/
theorem xq_49_7 : xOKs xsg xm_49 xk_49_0 xk_49_7 := trivial
theorem xq_49_6 : xOKs xsg xm_49 xk_49_0 xk_49_6 := ⟨xok_ret0 (by decide +kernel : decode xm_49.2.1 10 = .ok (.return_, 1)) rfl, xq_49_7⟩
theorem xq_49_5 : xOKs xsg xm_49 xk_49_0 xk_49_5 := ⟨xok_put (by decide +kernel : decode xm_49.2.1 7 = .ok (.putfield 25, 3)) (rfl : vwCl[10]? = some (RX10, TX10, 3)) inX10 tyX10_ok nmX10 (k := 2) (by decide) rfl (xT_c2 55 rfl rfl) rfl, xq_49_6⟩
theorem xq_49_4 : xOKs xsg xm_49 xk_49_0 xk_49_4 := ⟨xok_ld (xl_aload_n (by decide +kernel : decode xm_49.2.1 6 = .ok (.aload_n 2, 1))) rfl, xq_49_5⟩
theorem xq_49_3 : xOKs xsg xm_49 xk_49_0 xk_49_3 := ⟨xok_ld (xl_aload_n (by decide +kernel : decode xm_49.2.1 5 = .ok (.aload_n 0, 1))) rfl, xq_49_4⟩
theorem xq_49_2 : xOKs xsg xm_49 xk_49_0 xk_49_2 := ⟨xok_put (by decide +kernel : decode xm_49.2.1 2 = .ok (.putfield 9, 3)) (rfl : vwCl[10]? = some (RX10, TX10, 3)) inX10 tyX10_ok nmX10 (k := 1) (by decide) rfl (xT_c2 54 rfl rfl) rfl, xq_49_3⟩
theorem xq_49_1 : xOKs xsg xm_49 xk_49_0 xk_49_1 := ⟨xok_ld (xl_aload_n (by decide +kernel : decode xm_49.2.1 1 = .ok (.aload_n 1, 1))) rfl, xq_49_2⟩
theorem xq_49_0 : xOKs xsg xm_49 xk_49_0 xk_49_0 := ⟨xok_ld (xl_aload_n (by decide +kernel : decode xm_49.2.1 0 = .ok (.aload_n 0, 1))) rfl, xq_49_1⟩
theorem xz_49 : xwf xsg xm_49 xk_49_0 := ⟨xq_49_0, rfl, by decide⟩
