/-! FeatherBench$Program.begin(LFeatherBench$Row;)V -/
theorem xq_21_29 : xOKs xsg xm_21 xk_21_0 xk_21_29 := trivial
theorem xq_21_28 : xOKs xsg xm_21 xk_21_0 xk_21_28 := ⟨xok_ret0 (by decide +kernel : decode xm_21.2.1 62 = .ok (.return_, 1)) rfl, xq_21_29⟩
theorem xq_21_27 : xOKs xsg xm_21 xk_21_0 xk_21_27 := ⟨xok_put (by decide +kernel : decode xm_21.2.1 59 = .ok (.putfield 67, 3)) (rfl : vwCl[4]? = some (RX4, TX4, 15)) inX4 tyX4_ok nmX4 (k := 14) (by decide) rfl (xT_c1 183 rfl rfl) rfl, xq_21_28⟩
theorem xq_21_26 : xOKs xsg xm_21 xk_21_0 xk_21_26 := ⟨xok_p (xp_iconst (v := 0) (by decide +kernel : decode xm_21.2.1 58 = .ok (.iconst 0, 1)) (by decide)) rfl, xq_21_27⟩
theorem xq_21_25 : xOKs xsg xm_21 xk_21_0 xk_21_25 := ⟨xok_ld (xl_aload_n (by decide +kernel : decode xm_21.2.1 57 = .ok (.aload_n 0, 1))) rfl, xq_21_26⟩
theorem xq_21_24 : xOKs xsg xm_21 xk_21_0 xk_21_24 := ⟨xok_put (by decide +kernel : decode xm_21.2.1 54 = .ok (.putfield 63, 3)) (rfl : vwCl[4]? = some (RX4, TX4, 15)) inX4 tyX4_ok nmX4 (k := 10) (by decide) rfl (xT_c1 170 rfl rfl) rfl, xq_21_25⟩
theorem xq_21_23 : xOKs xsg xm_21 xk_21_0 xk_21_23 := ⟨xok_p (xp_sipush (v := 18738) (by decide +kernel : decode xm_21.2.1 51 = .ok (.sipush 18738, 3)) (by decide)) rfl, xq_21_24⟩
theorem xq_21_22 : xOKs xsg xm_21 xk_21_0 xk_21_22 := ⟨xok_ld (xl_aload_n (by decide +kernel : decode xm_21.2.1 50 = .ok (.aload_n 0, 1))) rfl, xq_21_23⟩
theorem xq_21_21 : xOKs xsg xm_21 xk_21_0 xk_21_21 := ⟨xok_callV (M' := xm_40) rfl (rfl : vwCl[6]? = some (RX6, TX6, 3)) (by decide +kernel : decode xm_21.2.1 47 = .ok (.invokevirtual 60, 3)) xn_40 (xT_c3 84 rfl rfl) (xT_c3 85 rfl rfl) (xT_c3 180 rfl rfl) rfl, xq_21_22⟩
theorem xq_21_20 : xOKs xsg xm_21 xk_21_0 xk_21_20 := ⟨xok_get (by decide +kernel : decode xm_21.2.1 44 = .ok (.getfield 50, 3)) (rfl : vwCl[4]? = some (RX4, TX4, 15)) inX4 (by decide) (xT_c1 166 rfl rfl) rfl, xq_21_21⟩
theorem xq_21_19 : xOKs xsg xm_21 xk_21_0 xk_21_19 := ⟨xok_ld (xl_aload_n (by decide +kernel : decode xm_21.2.1 43 = .ok (.aload_n 0, 1))) rfl, xq_21_20⟩
theorem xq_21_18 : xOKs xsg xm_21 xk_21_0 xk_21_18 := ⟨xok_callV (M' := xm_40) rfl (rfl : vwCl[6]? = some (RX6, TX6, 3)) (by decide +kernel : decode xm_21.2.1 40 = .ok (.invokevirtual 60, 3)) xn_40 (xT_c3 84 rfl rfl) (xT_c3 85 rfl rfl) (xT_c3 180 rfl rfl) rfl, xq_21_19⟩
theorem xq_21_17 : xOKs xsg xm_21 xk_21_0 xk_21_17 := ⟨xok_get (by decide +kernel : decode xm_21.2.1 37 = .ok (.getfield 47, 3)) (rfl : vwCl[4]? = some (RX4, TX4, 15)) inX4 (by decide) (xT_c1 165 rfl rfl) rfl, xq_21_18⟩
theorem xq_21_16 : xOKs xsg xm_21 xk_21_0 xk_21_16 := ⟨xok_ld (xl_aload_n (by decide +kernel : decode xm_21.2.1 36 = .ok (.aload_n 0, 1))) rfl, xq_21_17⟩
theorem xq_21_15 : xOKs xsg xm_21 xk_21_0 xk_21_15 := ⟨xok_callV (M' := xm_40) rfl (rfl : vwCl[6]? = some (RX6, TX6, 3)) (by decide +kernel : decode xm_21.2.1 33 = .ok (.invokevirtual 60, 3)) xn_40 (xT_c3 84 rfl rfl) (xT_c3 85 rfl rfl) (xT_c3 180 rfl rfl) rfl, xq_21_16⟩
theorem xq_21_14 : xOKs xsg xm_21 xk_21_0 xk_21_14 := ⟨xok_get (by decide +kernel : decode xm_21.2.1 30 = .ok (.getfield 44, 3)) (rfl : vwCl[4]? = some (RX4, TX4, 15)) inX4 (by decide) (xT_c1 163 rfl rfl) rfl, xq_21_15⟩
theorem xq_21_13 : xOKs xsg xm_21 xk_21_0 xk_21_13 := ⟨xok_ld (xl_aload_n (by decide +kernel : decode xm_21.2.1 29 = .ok (.aload_n 0, 1))) rfl, xq_21_14⟩
theorem xq_21_12 : xOKs xsg xm_21 xk_21_0 xk_21_12 := ⟨xok_callV (M' := xm_40) rfl (rfl : vwCl[6]? = some (RX6, TX6, 3)) (by decide +kernel : decode xm_21.2.1 26 = .ok (.invokevirtual 60, 3)) xn_40 (xT_c3 84 rfl rfl) (xT_c3 85 rfl rfl) (xT_c3 180 rfl rfl) rfl, xq_21_13⟩
theorem xq_21_11 : xOKs xsg xm_21 xk_21_0 xk_21_11 := ⟨xok_get (by decide +kernel : decode xm_21.2.1 23 = .ok (.getfield 41, 3)) (rfl : vwCl[4]? = some (RX4, TX4, 15)) inX4 (by decide) (xT_c1 162 rfl rfl) rfl, xq_21_12⟩
theorem xq_21_10 : xOKs xsg xm_21 xk_21_0 xk_21_10 := ⟨xok_ld (xl_aload_n (by decide +kernel : decode xm_21.2.1 22 = .ok (.aload_n 0, 1))) rfl, xq_21_11⟩
theorem xq_21_9 : xOKs xsg xm_21 xk_21_0 xk_21_9 := ⟨xok_callV (M' := xm_40) rfl (rfl : vwCl[6]? = some (RX6, TX6, 3)) (by decide +kernel : decode xm_21.2.1 19 = .ok (.invokevirtual 60, 3)) xn_40 (xT_c3 84 rfl rfl) (xT_c3 85 rfl rfl) (xT_c3 180 rfl rfl) rfl, xq_21_10⟩
theorem xq_21_8 : xOKs xsg xm_21 xk_21_0 xk_21_8 := ⟨xok_get (by decide +kernel : decode xm_21.2.1 16 = .ok (.getfield 38, 3)) (rfl : vwCl[4]? = some (RX4, TX4, 15)) inX4 (by decide) (xT_c1 159 rfl rfl) rfl, xq_21_9⟩
theorem xq_21_7 : xOKs xsg xm_21 xk_21_0 xk_21_7 := ⟨xok_ld (xl_aload_n (by decide +kernel : decode xm_21.2.1 15 = .ok (.aload_n 0, 1))) rfl, xq_21_8⟩
theorem xq_21_6 : xOKs xsg xm_21 xk_21_0 xk_21_6 := ⟨xok_callV (M' := xm_40) rfl (rfl : vwCl[6]? = some (RX6, TX6, 3)) (by decide +kernel : decode xm_21.2.1 12 = .ok (.invokevirtual 60, 3)) xn_40 (xT_c3 84 rfl rfl) (xT_c3 85 rfl rfl) (xT_c3 180 rfl rfl) rfl, xq_21_7⟩
theorem xq_21_5 : xOKs xsg xm_21 xk_21_0 xk_21_5 := ⟨xok_get (by decide +kernel : decode xm_21.2.1 9 = .ok (.getfield 35, 3)) (rfl : vwCl[4]? = some (RX4, TX4, 15)) inX4 (by decide) (xT_c1 157 rfl rfl) rfl, xq_21_6⟩
theorem xq_21_4 : xOKs xsg xm_21 xk_21_0 xk_21_4 := ⟨xok_ld (xl_aload_n (by decide +kernel : decode xm_21.2.1 8 = .ok (.aload_n 0, 1))) rfl, xq_21_5⟩
theorem xq_21_3 : xOKs xsg xm_21 xk_21_0 xk_21_3 := ⟨xok_callV (M' := xm_46) rfl (rfl : vwCl[9]? = some (RX9, TX9, 8)) (by decide +kernel : decode xm_21.2.1 5 = .ok (.invokevirtual 56, 3)) xn_46 (xT_c3 80 rfl rfl) (xT_c3 81 rfl rfl) (xT_c3 79 rfl rfl) rfl, xq_21_4⟩
theorem xq_21_2 : xOKs xsg xm_21 xk_21_0 xk_21_2 := ⟨xok_ld (xl_aload_n (by decide +kernel : decode xm_21.2.1 4 = .ok (.aload_n 1, 1))) rfl, xq_21_3⟩
theorem xq_21_1 : xOKs xsg xm_21 xk_21_0 xk_21_1 := ⟨xok_get (by decide +kernel : decode xm_21.2.1 1 = .ok (.getfield 12, 3)) (rfl : vwCl[4]? = some (RX4, TX4, 15)) inX4 (by decide) (xT_c1 138 rfl rfl) rfl, xq_21_2⟩
theorem xq_21_0 : xOKs xsg xm_21 xk_21_0 xk_21_0 := ⟨xok_ld (xl_aload_n (by decide +kernel : decode xm_21.2.1 0 = .ok (.aload_n 0, 1))) rfl, xq_21_1⟩
theorem xz_21 : xwf xsg xm_21 xk_21_0 := ⟨xq_21_0, rfl, by decide⟩
/-! FeatherBench$Program.typeCount()I -/
theorem xq_22_6 : xOKs xsg xm_22 xk_22_0 xk_22_6 := trivial
theorem xq_22_5 : xOKs xsg xm_22 xk_22_0 xk_22_5 := ⟨xok_retI (by decide +kernel : decode xm_22.2.1 10 = .ok (.ireturn, 1)) rfl, xq_22_6⟩
theorem xq_22_4 : xOKs xsg xm_22 xk_22_0 xk_22_4 := ⟨xok_p (xp_idiv (by decide +kernel : decode xm_22.2.1 9 = .ok (.idiv, 1))) rfl, xq_22_5⟩
theorem xq_22_3 : xOKs xsg xm_22 xk_22_0 xk_22_3 := ⟨xok_p (xp_bipush (v := 6) (by decide +kernel : decode xm_22.2.1 7 = .ok (.bipush 6, 2)) (by decide)) rfl, xq_22_4⟩
theorem xq_22_2 : xOKs xsg xm_22 xk_22_0 xk_22_2 := ⟨xok_getN (by decide +kernel : decode xm_22.2.1 4 = .ok (.getfield 77, 3)) (rfl : vwCl[6]? = some (RX6, TX6, 3)) inX6 (by decide) (xN_c1 49 rfl rfl) rfl, xq_22_3⟩
theorem xq_22_1 : xOKs xsg xm_22 xk_22_0 xk_22_1 := ⟨xok_get (by decide +kernel : decode xm_22.2.1 1 = .ok (.getfield 35, 3)) (rfl : vwCl[4]? = some (RX4, TX4, 15)) inX4 (by decide) (xT_c1 157 rfl rfl) rfl, xq_22_2⟩
theorem xq_22_0 : xOKs xsg xm_22 xk_22_0 xk_22_0 := ⟨xok_ld (xl_aload_n (by decide +kernel : decode xm_22.2.1 0 = .ok (.aload_n 0, 1))) rfl, xq_22_1⟩
theorem xz_22 : xwf xsg xm_22 xk_22_0 := ⟨xq_22_0, rfl, by decide⟩
/-! FeatherBench$Program.funcCount()I -/
theorem xq_23_6 : xOKs xsg xm_23 xk_23_0 xk_23_6 := trivial
theorem xq_23_5 : xOKs xsg xm_23 xk_23_0 xk_23_5 := ⟨xok_retI (by decide +kernel : decode xm_23.2.1 10 = .ok (.ireturn, 1)) rfl, xq_23_6⟩
theorem xq_23_4 : xOKs xsg xm_23 xk_23_0 xk_23_4 := ⟨xok_p (xp_idiv (by decide +kernel : decode xm_23.2.1 9 = .ok (.idiv, 1))) rfl, xq_23_5⟩
theorem xq_23_3 : xOKs xsg xm_23 xk_23_0 xk_23_3 := ⟨xok_p (xp_bipush (v := 10) (by decide +kernel : decode xm_23.2.1 7 = .ok (.bipush 10, 2)) (by decide)) rfl, xq_23_4⟩
theorem xq_23_2 : xOKs xsg xm_23 xk_23_0 xk_23_2 := ⟨xok_getN (by decide +kernel : decode xm_23.2.1 4 = .ok (.getfield 77, 3)) (rfl : vwCl[6]? = some (RX6, TX6, 3)) inX6 (by decide) (xN_c1 49 rfl rfl) rfl, xq_23_3⟩
theorem xq_23_1 : xOKs xsg xm_23 xk_23_0 xk_23_1 := ⟨xok_get (by decide +kernel : decode xm_23.2.1 1 = .ok (.getfield 38, 3)) (rfl : vwCl[4]? = some (RX4, TX4, 15)) inX4 (by decide) (xT_c1 159 rfl rfl) rfl, xq_23_2⟩
theorem xq_23_0 : xOKs xsg xm_23 xk_23_0 xk_23_0 := ⟨xok_ld (xl_aload_n (by decide +kernel : decode xm_23.2.1 0 = .ok (.aload_n 0, 1))) rfl, xq_23_1⟩
theorem xz_23 : xwf xsg xm_23 xk_23_0 := ⟨xq_23_0, rfl, by decide⟩
/-! FeatherBench$Program.sigCount()I -/
theorem xq_24_6 : xOKs xsg xm_24 xk_24_0 xk_24_6 := trivial
theorem xq_24_5 : xOKs xsg xm_24 xk_24_0 xk_24_5 := ⟨xok_retI (by decide +kernel : decode xm_24.2.1 9 = .ok (.ireturn, 1)) rfl, xq_24_6⟩
theorem xq_24_4 : xOKs xsg xm_24 xk_24_0 xk_24_4 := ⟨xok_p (xp_idiv (by decide +kernel : decode xm_24.2.1 8 = .ok (.idiv, 1))) rfl, xq_24_5⟩
theorem xq_24_3 : xOKs xsg xm_24 xk_24_0 xk_24_3 := ⟨xok_p (xp_iconst (v := 5) (by decide +kernel : decode xm_24.2.1 7 = .ok (.iconst 5, 1)) (by decide)) rfl, xq_24_4⟩
theorem xq_24_2 : xOKs xsg xm_24 xk_24_0 xk_24_2 := ⟨xok_getN (by decide +kernel : decode xm_24.2.1 4 = .ok (.getfield 77, 3)) (rfl : vwCl[6]? = some (RX6, TX6, 3)) inX6 (by decide) (xN_c1 49 rfl rfl) rfl, xq_24_3⟩
theorem xq_24_1 : xOKs xsg xm_24 xk_24_0 xk_24_1 := ⟨xok_get (by decide +kernel : decode xm_24.2.1 1 = .ok (.getfield 41, 3)) (rfl : vwCl[4]? = some (RX4, TX4, 15)) inX4 (by decide) (xT_c1 162 rfl rfl) rfl, xq_24_2⟩
theorem xq_24_0 : xOKs xsg xm_24 xk_24_0 xk_24_0 := ⟨xok_ld (xl_aload_n (by decide +kernel : decode xm_24.2.1 0 = .ok (.aload_n 0, 1))) rfl, xq_24_1⟩
theorem xz_24 : xwf xsg xm_24 xk_24_0 := ⟨xq_24_0, rfl, by decide⟩
/-! FeatherBench$Program.slotCount()I -/
theorem xq_25_6 : xOKs xsg xm_25 xk_25_0 xk_25_6 := trivial
theorem xq_25_5 : xOKs xsg xm_25 xk_25_0 xk_25_5 := ⟨xok_retI (by decide +kernel : decode xm_25.2.1 9 = .ok (.ireturn, 1)) rfl, xq_25_6⟩
theorem xq_25_4 : xOKs xsg xm_25 xk_25_0 xk_25_4 := ⟨xok_p (xp_idiv (by decide +kernel : decode xm_25.2.1 8 = .ok (.idiv, 1))) rfl, xq_25_5⟩
theorem xq_25_3 : xOKs xsg xm_25 xk_25_0 xk_25_3 := ⟨xok_p (xp_iconst (v := 5) (by decide +kernel : decode xm_25.2.1 7 = .ok (.iconst 5, 1)) (by decide)) rfl, xq_25_4⟩
theorem xq_25_2 : xOKs xsg xm_25 xk_25_0 xk_25_2 := ⟨xok_getN (by decide +kernel : decode xm_25.2.1 4 = .ok (.getfield 77, 3)) (rfl : vwCl[6]? = some (RX6, TX6, 3)) inX6 (by decide) (xN_c1 49 rfl rfl) rfl, xq_25_3⟩
theorem xq_25_1 : xOKs xsg xm_25 xk_25_0 xk_25_1 := ⟨xok_get (by decide +kernel : decode xm_25.2.1 1 = .ok (.getfield 44, 3)) (rfl : vwCl[4]? = some (RX4, TX4, 15)) inX4 (by decide) (xT_c1 163 rfl rfl) rfl, xq_25_2⟩
theorem xq_25_0 : xOKs xsg xm_25 xk_25_0 xk_25_0 := ⟨xok_ld (xl_aload_n (by decide +kernel : decode xm_25.2.1 0 = .ok (.aload_n 0, 1))) rfl, xq_25_1⟩
theorem xz_25 : xwf xsg xm_25 xk_25_0 := ⟨xq_25_0, rfl, by decide⟩
/-! FeatherBench$Program.declCount()I -/
theorem xq_26_6 : xOKs xsg xm_26 xk_26_0 xk_26_6 := trivial
theorem xq_26_5 : xOKs xsg xm_26 xk_26_0 xk_26_5 := ⟨xok_retI (by decide +kernel : decode xm_26.2.1 9 = .ok (.ireturn, 1)) rfl, xq_26_6⟩
theorem xq_26_4 : xOKs xsg xm_26 xk_26_0 xk_26_4 := ⟨xok_p (xp_idiv (by decide +kernel : decode xm_26.2.1 8 = .ok (.idiv, 1))) rfl, xq_26_5⟩
theorem xq_26_3 : xOKs xsg xm_26 xk_26_0 xk_26_3 := ⟨xok_p (xp_iconst (v := 3) (by decide +kernel : decode xm_26.2.1 7 = .ok (.iconst 3, 1)) (by decide)) rfl, xq_26_4⟩
theorem xq_26_2 : xOKs xsg xm_26 xk_26_0 xk_26_2 := ⟨xok_getN (by decide +kernel : decode xm_26.2.1 4 = .ok (.getfield 77, 3)) (rfl : vwCl[6]? = some (RX6, TX6, 3)) inX6 (by decide) (xN_c1 49 rfl rfl) rfl, xq_26_3⟩
theorem xq_26_1 : xOKs xsg xm_26 xk_26_0 xk_26_1 := ⟨xok_get (by decide +kernel : decode xm_26.2.1 1 = .ok (.getfield 47, 3)) (rfl : vwCl[4]? = some (RX4, TX4, 15)) inX4 (by decide) (xT_c1 165 rfl rfl) rfl, xq_26_2⟩
theorem xq_26_0 : xOKs xsg xm_26 xk_26_0 xk_26_0 := ⟨xok_ld (xl_aload_n (by decide +kernel : decode xm_26.2.1 0 = .ok (.aload_n 0, 1))) rfl, xq_26_1⟩
theorem xz_26 : xwf xsg xm_26 xk_26_0 := ⟨xq_26_0, rfl, by decide⟩
/-! FeatherBench$Program.addType(IIIIII)V -/
theorem xq_27_36 : xOKs xsg xm_27 xk_27_0 xk_27_36 := trivial
theorem xq_27_35 : xOKs xsg xm_27 xk_27_0 xk_27_35 := ⟨xok_ret0 (by decide +kernel : decode xm_27.2.1 72 = .ok (.return_, 1)) rfl, xq_27_36⟩
theorem xq_27_34 : xOKs xsg xm_27 xk_27_0 xk_27_34 := ⟨xok_callV (M' := xm_39) rfl (rfl : vwCl[6]? = some (RX6, TX6, 3)) (by decide +kernel : decode xm_27.2.1 69 = .ok (.invokevirtual 108, 3)) xn_39 (xT_c3 67 rfl rfl) (xT_c3 68 rfl rfl) (xT_c3 224 rfl rfl) rfl, xq_27_35⟩
theorem xq_27_33 : xOKs xsg xm_27 xk_27_0 xk_27_33 := ⟨xok_p (xp_iconst (v := -1) (by decide +kernel : decode xm_27.2.1 68 = .ok (.iconst (-1), 1)) (by decide)) rfl, xq_27_34⟩
theorem xq_27_32 : xOKs xsg xm_27 xk_27_0 xk_27_32 := ⟨xok_get (by decide +kernel : decode xm_27.2.1 65 = .ok (.getfield 35, 3)) (rfl : vwCl[4]? = some (RX4, TX4, 15)) inX4 (by decide) (xT_c1 157 rfl rfl) rfl, xq_27_33⟩
theorem xq_27_31 : xOKs xsg xm_27 xk_27_0 xk_27_31 := ⟨xok_ld (xl_aload_n (by decide +kernel : decode xm_27.2.1 64 = .ok (.aload_n 0, 1))) rfl, xq_27_32⟩
theorem xq_27_30 : xOKs xsg xm_27 xk_27_0 xk_27_30 := ⟨xok_callV (M' := xm_39) rfl (rfl : vwCl[6]? = some (RX6, TX6, 3)) (by decide +kernel : decode xm_27.2.1 61 = .ok (.invokevirtual 108, 3)) xn_39 (xT_c3 67 rfl rfl) (xT_c3 68 rfl rfl) (xT_c3 224 rfl rfl) rfl, xq_27_31⟩
theorem xq_27_29 : xOKs xsg xm_27 xk_27_0 xk_27_29 := ⟨xok_ld (xl_iload (by decide +kernel : decode xm_27.2.1 59 = .ok (.iload 6, 2))) rfl, xq_27_30⟩
theorem xq_27_28 : xOKs xsg xm_27 xk_27_0 xk_27_28 := ⟨xok_get (by decide +kernel : decode xm_27.2.1 56 = .ok (.getfield 35, 3)) (rfl : vwCl[4]? = some (RX4, TX4, 15)) inX4 (by decide) (xT_c1 157 rfl rfl) rfl, xq_27_29⟩
theorem xq_27_27 : xOKs xsg xm_27 xk_27_0 xk_27_27 := ⟨xok_ld (xl_aload_n (by decide +kernel : decode xm_27.2.1 55 = .ok (.aload_n 0, 1))) rfl, xq_27_28⟩
theorem xq_27_26 : xOKs xsg xm_27 xk_27_0 xk_27_26 := ⟨xok_callV (M' := xm_39) rfl (rfl : vwCl[6]? = some (RX6, TX6, 3)) (by decide +kernel : decode xm_27.2.1 52 = .ok (.invokevirtual 108, 3)) xn_39 (xT_c3 67 rfl rfl) (xT_c3 68 rfl rfl) (xT_c3 224 rfl rfl) rfl, xq_27_27⟩
theorem xq_27_25 : xOKs xsg xm_27 xk_27_0 xk_27_25 := ⟨xok_ld (xl_iload (by decide +kernel : decode xm_27.2.1 50 = .ok (.iload 5, 2))) rfl, xq_27_26⟩
theorem xq_27_24 : xOKs xsg xm_27 xk_27_0 xk_27_24 := ⟨xok_get (by decide +kernel : decode xm_27.2.1 47 = .ok (.getfield 35, 3)) (rfl : vwCl[4]? = some (RX4, TX4, 15)) inX4 (by decide) (xT_c1 157 rfl rfl) rfl, xq_27_25⟩
theorem xq_27_23 : xOKs xsg xm_27 xk_27_0 xk_27_23 := ⟨xok_ld (xl_aload_n (by decide +kernel : decode xm_27.2.1 46 = .ok (.aload_n 0, 1))) rfl, xq_27_24⟩
theorem xq_27_22 : xOKs xsg xm_27 xk_27_0 xk_27_22 := ⟨xok_callV (M' := xm_39) rfl (rfl : vwCl[6]? = some (RX6, TX6, 3)) (by decide +kernel : decode xm_27.2.1 43 = .ok (.invokevirtual 108, 3)) xn_39 (xT_c3 67 rfl rfl) (xT_c3 68 rfl rfl) (xT_c3 224 rfl rfl) rfl, xq_27_23⟩
theorem xq_27_21 : xOKs xsg xm_27 xk_27_0 xk_27_21 := ⟨xok_ld (xl_iload_n (by decide +kernel : decode xm_27.2.1 42 = .ok (.iload_n 3, 1))) rfl, xq_27_22⟩
theorem xq_27_20 : xOKs xsg xm_27 xk_27_0 xk_27_20 := ⟨xok_get (by decide +kernel : decode xm_27.2.1 39 = .ok (.getfield 35, 3)) (rfl : vwCl[4]? = some (RX4, TX4, 15)) inX4 (by decide) (xT_c1 157 rfl rfl) rfl, xq_27_21⟩
theorem xq_27_19 : xOKs xsg xm_27 xk_27_0 xk_27_19 := ⟨xok_ld (xl_aload_n (by decide +kernel : decode xm_27.2.1 38 = .ok (.aload_n 0, 1))) rfl, xq_27_20⟩
theorem xq_27_18 : xOKs xsg xm_27 xk_27_0 xk_27_18 := ⟨xok_callV (M' := xm_39) rfl (rfl : vwCl[6]? = some (RX6, TX6, 3)) (by decide +kernel : decode xm_27.2.1 35 = .ok (.invokevirtual 108, 3)) xn_39 (xT_c3 67 rfl rfl) (xT_c3 68 rfl rfl) (xT_c3 224 rfl rfl) rfl, xq_27_19⟩
theorem xq_27_17 : xOKs xsg xm_27 xk_27_0 xk_27_17 := ⟨xok_ld (xl_iload_n (by decide +kernel : decode xm_27.2.1 34 = .ok (.iload_n 2, 1))) rfl, xq_27_18⟩
theorem xq_27_16 : xOKs xsg xm_27 xk_27_0 xk_27_16 := ⟨xok_get (by decide +kernel : decode xm_27.2.1 31 = .ok (.getfield 35, 3)) (rfl : vwCl[4]? = some (RX4, TX4, 15)) inX4 (by decide) (xT_c1 157 rfl rfl) rfl, xq_27_17⟩
theorem xq_27_15 : xOKs xsg xm_27 xk_27_0 xk_27_15 := ⟨xok_ld (xl_aload_n (by decide +kernel : decode xm_27.2.1 30 = .ok (.aload_n 0, 1))) rfl, xq_27_16⟩
theorem xq_27_14 : xOKs xsg xm_27 xk_27_0 xk_27_14 := ⟨xok_callV (M' := xm_39) rfl (rfl : vwCl[6]? = some (RX6, TX6, 3)) (by decide +kernel : decode xm_27.2.1 27 = .ok (.invokevirtual 108, 3)) xn_39 (xT_c3 67 rfl rfl) (xT_c3 68 rfl rfl) (xT_c3 224 rfl rfl) rfl, xq_27_15⟩
theorem xq_27_13 : xOKs xsg xm_27 xk_27_0 xk_27_13 := ⟨xok_ld (xl_iload_n (by decide +kernel : decode xm_27.2.1 26 = .ok (.iload_n 1, 1))) rfl, xq_27_14⟩
theorem xq_27_12 : xOKs xsg xm_27 xk_27_0 xk_27_12 := ⟨xok_get (by decide +kernel : decode xm_27.2.1 23 = .ok (.getfield 35, 3)) (rfl : vwCl[4]? = some (RX4, TX4, 15)) inX4 (by decide) (xT_c1 157 rfl rfl) rfl, xq_27_13⟩
theorem xq_27_11 : xOKs xsg xm_27 xk_27_0 xk_27_11 := ⟨xok_ld (xl_aload_n (by decide +kernel : decode xm_27.2.1 22 = .ok (.aload_n 0, 1))) rfl, xq_27_12⟩
theorem xq_27_10 : xOKs xsg xm_27 xk_27_0 xk_27_10 := ⟨xok_callV (M' := xm_28) rfl (rfl : vwCl[4]? = some (RX4, TX4, 15)) (by decide +kernel : decode xm_27.2.1 19 = .ok (.invokevirtual 113, 3)) xn_28 (xT_c4 37 rfl rfl) (xT_c0 18 rfl rfl) (xT_c4 35 rfl rfl) rfl, xq_27_11⟩
theorem xq_27_9 : xOKs xsg xm_27 xk_27_0 xk_27_9 := ⟨xok_ld (xl_iload_n (by decide +kernel : decode xm_27.2.1 18 = .ok (.iload_n 3, 1))) rfl, xq_27_10⟩
theorem xq_27_8 : xOKs xsg xm_27 xk_27_0 xk_27_8 := ⟨xok_callV (M' := xm_22) rfl (rfl : vwCl[4]? = some (RX4, TX4, 15)) (by decide +kernel : decode xm_27.2.1 15 = .ok (.invokevirtual 80, 3)) xn_22 (xT_c4 49 rfl rfl) (xT_c4 50 rfl rfl) (xT_c4 56 rfl rfl) rfl, xq_27_9⟩
theorem xq_27_7 : xOKs xsg xm_27 xk_27_0 xk_27_7 := ⟨xok_ld (xl_aload_n (by decide +kernel : decode xm_27.2.1 14 = .ok (.aload_n 0, 1))) rfl, xq_27_8⟩
theorem xq_27_6 : xOKs xsg xm_27 xk_27_0 xk_27_6 := ⟨xok_ld (xl_aload_n (by decide +kernel : decode xm_27.2.1 13 = .ok (.aload_n 0, 1))) rfl, xq_27_7⟩
theorem xq_27_5 : xOKs xsg xm_27 xk_27_0 xk_27_5 := ⟨xok_callV (M' := xm_38) rfl (rfl : vwCl[6]? = some (RX6, TX6, 3)) (by decide +kernel : decode xm_27.2.1 10 = .ok (.invokevirtual 53, 3)) xn_38 (xT_c1 120 rfl rfl) (xT_c1 121 rfl rfl) (xT_c1 119 rfl rfl) rfl, xq_27_6⟩
theorem xq_27_4 : xOKs xsg xm_27 xk_27_0 xk_27_4 := ⟨xok_ld (xl_iload (by decide +kernel : decode xm_27.2.1 8 = .ok (.iload 4, 2))) rfl, xq_27_5⟩
theorem xq_27_3 : xOKs xsg xm_27 xk_27_0 xk_27_3 := ⟨xok_callV (M' := xm_22) rfl (rfl : vwCl[4]? = some (RX4, TX4, 15)) (by decide +kernel : decode xm_27.2.1 5 = .ok (.invokevirtual 80, 3)) xn_22 (xT_c4 49 rfl rfl) (xT_c4 50 rfl rfl) (xT_c4 56 rfl rfl) rfl, xq_27_4⟩
theorem xq_27_2 : xOKs xsg xm_27 xk_27_0 xk_27_2 := ⟨xok_ld (xl_aload_n (by decide +kernel : decode xm_27.2.1 4 = .ok (.aload_n 0, 1))) rfl, xq_27_3⟩
theorem xq_27_1 : xOKs xsg xm_27 xk_27_0 xk_27_1 := ⟨xok_get (by decide +kernel : decode xm_27.2.1 1 = .ok (.getfield 32, 3)) (rfl : vwCl[4]? = some (RX4, TX4, 15)) inX4 (by decide) (xT_c1 152 rfl rfl) rfl, xq_27_2⟩
theorem xq_27_0 : xOKs xsg xm_27 xk_27_0 xk_27_0 := ⟨xok_ld (xl_aload_n (by decide +kernel : decode xm_27.2.1 0 = .ok (.aload_n 0, 1))) rfl, xq_27_1⟩
theorem xz_27 : xwf xsg xm_27 xk_27_0 := ⟨xq_27_0, rfl, by decide⟩
/-! FeatherBench$Program.addDecl(II)V -/
theorem xq_28_14 : xOKs xsg xm_28 xk_28_0 xk_28_14 := trivial
theorem xq_28_13 : xOKs xsg xm_28 xk_28_0 xk_28_13 := ⟨xok_ret0 (by decide +kernel : decode xm_28.2.1 27 = .ok (.return_, 1)) rfl, xq_28_14⟩
theorem xq_28_12 : xOKs xsg xm_28 xk_28_0 xk_28_12 := ⟨xok_callV (M' := xm_39) rfl (rfl : vwCl[6]? = some (RX6, TX6, 3)) (by decide +kernel : decode xm_28.2.1 24 = .ok (.invokevirtual 108, 3)) xn_39 (xT_c3 67 rfl rfl) (xT_c3 68 rfl rfl) (xT_c3 224 rfl rfl) rfl, xq_28_13⟩
theorem xq_28_11 : xOKs xsg xm_28 xk_28_0 xk_28_11 := ⟨xok_callV (M' := xm_25) rfl (rfl : vwCl[4]? = some (RX4, TX4, 15)) (by decide +kernel : decode xm_28.2.1 21 = .ok (.invokevirtual 119, 3)) xn_25 (xT_c3 213 rfl rfl) (xT_c3 214 rfl rfl) (xT_c4 39 rfl rfl) rfl, xq_28_12⟩
theorem xq_28_10 : xOKs xsg xm_28 xk_28_0 xk_28_10 := ⟨xok_ld (xl_aload_n (by decide +kernel : decode xm_28.2.1 20 = .ok (.aload_n 0, 1))) rfl, xq_28_11⟩
theorem xq_28_9 : xOKs xsg xm_28 xk_28_0 xk_28_9 := ⟨xok_get (by decide +kernel : decode xm_28.2.1 17 = .ok (.getfield 47, 3)) (rfl : vwCl[4]? = some (RX4, TX4, 15)) inX4 (by decide) (xT_c1 165 rfl rfl) rfl, xq_28_10⟩
theorem xq_28_8 : xOKs xsg xm_28 xk_28_0 xk_28_8 := ⟨xok_ld (xl_aload_n (by decide +kernel : decode xm_28.2.1 16 = .ok (.aload_n 0, 1))) rfl, xq_28_9⟩
theorem xq_28_7 : xOKs xsg xm_28 xk_28_0 xk_28_7 := ⟨xok_callV (M' := xm_39) rfl (rfl : vwCl[6]? = some (RX6, TX6, 3)) (by decide +kernel : decode xm_28.2.1 13 = .ok (.invokevirtual 108, 3)) xn_39 (xT_c3 67 rfl rfl) (xT_c3 68 rfl rfl) (xT_c3 224 rfl rfl) rfl, xq_28_8⟩
theorem xq_28_6 : xOKs xsg xm_28 xk_28_0 xk_28_6 := ⟨xok_ld (xl_iload_n (by decide +kernel : decode xm_28.2.1 12 = .ok (.iload_n 2, 1))) rfl, xq_28_7⟩
theorem xq_28_5 : xOKs xsg xm_28 xk_28_0 xk_28_5 := ⟨xok_get (by decide +kernel : decode xm_28.2.1 9 = .ok (.getfield 47, 3)) (rfl : vwCl[4]? = some (RX4, TX4, 15)) inX4 (by decide) (xT_c1 165 rfl rfl) rfl, xq_28_6⟩
theorem xq_28_4 : xOKs xsg xm_28 xk_28_0 xk_28_4 := ⟨xok_ld (xl_aload_n (by decide +kernel : decode xm_28.2.1 8 = .ok (.aload_n 0, 1))) rfl, xq_28_5⟩
theorem xq_28_3 : xOKs xsg xm_28 xk_28_0 xk_28_3 := ⟨xok_callV (M' := xm_39) rfl (rfl : vwCl[6]? = some (RX6, TX6, 3)) (by decide +kernel : decode xm_28.2.1 5 = .ok (.invokevirtual 108, 3)) xn_39 (xT_c3 67 rfl rfl) (xT_c3 68 rfl rfl) (xT_c3 224 rfl rfl) rfl, xq_28_4⟩
theorem xq_28_2 : xOKs xsg xm_28 xk_28_0 xk_28_2 := ⟨xok_ld (xl_iload_n (by decide +kernel : decode xm_28.2.1 4 = .ok (.iload_n 1, 1))) rfl, xq_28_3⟩
theorem xq_28_1 : xOKs xsg xm_28 xk_28_0 xk_28_1 := ⟨xok_get (by decide +kernel : decode xm_28.2.1 1 = .ok (.getfield 47, 3)) (rfl : vwCl[4]? = some (RX4, TX4, 15)) inX4 (by decide) (xT_c1 165 rfl rfl) rfl, xq_28_2⟩
theorem xq_28_0 : xOKs xsg xm_28 xk_28_0 xk_28_0 := ⟨xok_ld (xl_aload_n (by decide +kernel : decode xm_28.2.1 0 = .ok (.aload_n 0, 1))) rfl, xq_28_1⟩
theorem xz_28 : xwf xsg xm_28 xk_28_0 := ⟨xq_28_0, rfl, by decide⟩
/-! FeatherBench$Reader.<init>(LFeatherBench$Program;)V -/
theorem xq_29_15 : xOKs xsg xm_29 xk_29_0 xk_29_15 := trivial
theorem xq_29_14 : xOKs xsg xm_29 xk_29_0 xk_29_14 := ⟨xok_ret0 (by decide +kernel : decode xm_29.2.1 28 = .ok (.return_, 1)) rfl, xq_29_15⟩
theorem xq_29_13 : xOKs xsg xm_29 xk_29_0 xk_29_13 := ⟨xok_put (by decide +kernel : decode xm_29.2.1 25 = .ok (.putfield 28, 3)) (rfl : vwCl[5]? = some (RX5, TX5, 4)) inX5 tyX5_ok nmX5 (k := 2) (by decide) rfl (xT_c2 36 rfl rfl) rfl, xq_29_14⟩
theorem xq_29_12 : xOKs xsg xm_29 xk_29_0 xk_29_12 := ⟨xok_getN (by decide +kernel : decode xm_29.2.1 22 = .ok (.getfield 22, 3)) (rfl : vwCl[9]? = some (RX9, TX9, 8)) inX9 (by decide) (xN_c1 75 rfl rfl) rfl, xq_29_13⟩
theorem xq_29_11 : xOKs xsg xm_29 xk_29_0 xk_29_11 := ⟨xok_get (by decide +kernel : decode xm_29.2.1 19 = .ok (.getfield 21, 3)) (rfl : vwCl[5]? = some (RX5, TX5, 4)) inX5 (by decide) (xT_c2 35 rfl rfl) rfl, xq_29_12⟩
theorem xq_29_10 : xOKs xsg xm_29 xk_29_0 xk_29_10 := ⟨xok_ld (xl_aload_n (by decide +kernel : decode xm_29.2.1 18 = .ok (.aload_n 0, 1))) rfl, xq_29_11⟩
theorem xq_29_9 : xOKs xsg xm_29 xk_29_0 xk_29_9 := ⟨xok_ld (xl_aload_n (by decide +kernel : decode xm_29.2.1 17 = .ok (.aload_n 0, 1))) rfl, xq_29_10⟩
theorem xq_29_8 : xOKs xsg xm_29 xk_29_0 xk_29_8 := ⟨xok_put (by decide +kernel : decode xm_29.2.1 14 = .ok (.putfield 21, 3)) (rfl : vwCl[5]? = some (RX5, TX5, 4)) inX5 tyX5_ok nmX5 (k := 1) (by decide) rfl (xT_c2 35 rfl rfl) rfl, xq_29_9⟩
theorem xq_29_7 : xOKs xsg xm_29 xk_29_0 xk_29_7 := ⟨xok_getN (by decide +kernel : decode xm_29.2.1 11 = .ok (.getfield 15, 3)) (rfl : vwCl[4]? = some (RX4, TX4, 15)) inX4 (by decide) (xN_c1 137 rfl rfl) rfl, xq_29_8⟩
theorem xq_29_6 : xOKs xsg xm_29 xk_29_0 xk_29_6 := ⟨xok_ld (xl_aload_n (by decide +kernel : decode xm_29.2.1 10 = .ok (.aload_n 1, 1))) rfl, xq_29_7⟩
theorem xq_29_5 : xOKs xsg xm_29 xk_29_0 xk_29_5 := ⟨xok_ld (xl_aload_n (by decide +kernel : decode xm_29.2.1 9 = .ok (.aload_n 0, 1))) rfl, xq_29_6⟩
theorem xq_29_4 : xOKs xsg xm_29 xk_29_0 xk_29_4 := ⟨xok_put (by decide +kernel : decode xm_29.2.1 6 = .ok (.putfield 9, 3)) (rfl : vwCl[5]? = some (RX5, TX5, 4)) inX5 tyX5_ok nmX5 (k := 0) (by decide) rfl (xT_c2 34 rfl rfl) rfl, xq_29_5⟩
theorem xq_29_3 : xOKs xsg xm_29 xk_29_0 xk_29_3 := ⟨xok_ld (xl_aload_n (by decide +kernel : decode xm_29.2.1 5 = .ok (.aload_n 1, 1))) rfl, xq_29_4⟩
theorem xq_29_2 : xOKs xsg xm_29 xk_29_0 xk_29_2 := ⟨xok_ld (xl_aload_n (by decide +kernel : decode xm_29.2.1 4 = .ok (.aload_n 0, 1))) rfl, xq_29_3⟩
theorem xq_29_1 : xOKs xsg xm_29 xk_29_0 xk_29_1 := ⟨xok_obj (by decide +kernel : decode xm_29.2.1 1 = .ok (.invokespecial 3, 3)) (xT_c2 33 rfl rfl) xw_o2 xw_o3 rfl, xq_29_2⟩
theorem xq_29_0 : xOKs xsg xm_29 xk_29_0 xk_29_0 := ⟨xok_ld (xl_aload_n (by decide +kernel : decode xm_29.2.1 0 = .ok (.aload_n 0, 1))) rfl, xq_29_1⟩
theorem xz_29 : xwf xsg xm_29 xk_29_0 := ⟨xq_29_0, rfl, by decide⟩
/-! FeatherBench$Reader.read(LFeatherBench$Program;)V -/
theorem xq_30_65 : xOKs xsg xm_30 xk_30_0 xk_30_65 := trivial
theorem xq_30_64 : xOKs xsg xm_30 xk_30_0 xk_30_64 := ⟨xok_ret0 (by decide +kernel : decode xm_30.2.1 134 = .ok (.return_, 1)) rfl, xq_30_65⟩
theorem xq_30_63 : xOKs xsg xm_30 xk_30_0 xk_30_63 := ⟨xok_callV (M' := xm_34) rfl (rfl : vwCl[5]? = some (RX5, TX5, 4)) (by decide +kernel : decode xm_30.2.1 131 = .ok (.invokevirtual 48, 3)) xn_34 (xT_c3 210 rfl rfl) (xT_c0 7 rfl rfl) (xT_c3 208 rfl rfl) rfl, xq_30_64⟩
theorem xq_30_62 : xOKs xsg xm_30 xk_30_0 xk_30_62 := ⟨xok_p (xp_iconst (v := 0) (by decide +kernel : decode xm_30.2.1 130 = .ok (.iconst 0, 1)) (by decide)) rfl, xq_30_63⟩
theorem xq_30_61 : xOKs xsg xm_30 xk_30_0 xk_30_61 := ⟨xok_ld (xl_aload_n (by decide +kernel : decode xm_30.2.1 129 = .ok (.aload_n 0, 1))) rfl, xq_30_62⟩
theorem xq_30_60 : xOKs xsg xm_30 xk_30_0 xk_30_60 := ⟨xok_callV (M' := xm_34) rfl (rfl : vwCl[5]? = some (RX5, TX5, 4)) (by decide +kernel : decode xm_30.2.1 126 = .ok (.invokevirtual 48, 3)) xn_34 (xT_c3 210 rfl rfl) (xT_c0 7 rfl rfl) (xT_c3 208 rfl rfl) rfl, xq_30_61⟩
theorem xq_30_59 : xOKs xsg xm_30 xk_30_0 xk_30_59 := ⟨xok_p (xp_bipush (v := 59) (by decide +kernel : decode xm_30.2.1 124 = .ok (.bipush 59, 2)) (by decide)) rfl, xq_30_60⟩
theorem xq_30_58 : xOKs xsg xm_30 xk_30_0 xk_30_58 := ⟨xok_ld (xl_aload_n (by decide +kernel : decode xm_30.2.1 123 = .ok (.aload_n 0, 1))) rfl, xq_30_59⟩
theorem xq_30_57 : xOKs xsg xm_30 xk_30_0 xk_30_57 := ⟨xok_callV (M' := xm_32) rfl (rfl : vwCl[5]? = some (RX5, TX5, 4)) (by decide +kernel : decode xm_30.2.1 120 = .ok (.invokevirtual 55, 3)) xn_32 (xT_c4 20 rfl rfl) (xT_c0 15 rfl rfl) (xT_c4 18 rfl rfl) rfl, xq_30_58⟩
theorem xq_30_56 : xOKs xsg xm_30 xk_30_0 xk_30_56 := ⟨xok_p (xp_iconst (v := 0) (by decide +kernel : decode xm_30.2.1 119 = .ok (.iconst 0, 1)) (by decide)) rfl, xq_30_57⟩
theorem xq_30_55 : xOKs xsg xm_30 xk_30_0 xk_30_55 := ⟨xok_p (xp_iconst (v := 1) (by decide +kernel : decode xm_30.2.1 118 = .ok (.iconst 1, 1)) (by decide)) rfl, xq_30_56⟩
theorem xq_30_54 : xOKs xsg xm_30 xk_30_0 xk_30_54 := ⟨xok_ld (xl_aload_n (by decide +kernel : decode xm_30.2.1 117 = .ok (.aload_n 0, 1))) rfl, xq_30_55⟩
theorem xq_30_53 : xOKs xsg xm_30 xk_30_0 xk_30_53 := ⟨xok_putN (by decide +kernel : decode xm_30.2.1 114 = .ok (.putfield 52, 3)) (rfl : vwCl[4]? = some (RX4, TX4, 15)) inX4 tyX4_ok nmX4 (k := 11) (by decide) rfl (xN_c1 175 rfl rfl) rfl, xq_30_54⟩
theorem xq_30_52 : xOKs xsg xm_30 xk_30_0 xk_30_52 := ⟨xok_get (by decide +kernel : decode xm_30.2.1 111 = .ok (.getfield 29, 3)) (rfl : vwCl[5]? = some (RX5, TX5, 4)) inX5 (by decide) (xT_c2 37 rfl rfl) rfl, xq_30_53⟩
theorem xq_30_51 : xOKs xsg xm_30 xk_30_0 xk_30_51 := ⟨xok_ld (xl_aload_n (by decide +kernel : decode xm_30.2.1 110 = .ok (.aload_n 0, 1))) rfl, xq_30_52⟩
theorem xq_30_50 : xOKs xsg xm_30 xk_30_0 xk_30_50 := ⟨xok_get (by decide +kernel : decode xm_30.2.1 107 = .ok (.getfield 9, 3)) (rfl : vwCl[5]? = some (RX5, TX5, 4)) inX5 (by decide) (xT_c2 34 rfl rfl) rfl, xq_30_51⟩
theorem xq_30_49 : xOKs xsg xm_30 xk_30_0 xk_30_49 := ⟨xok_ld (xl_aload_n (by decide +kernel : decode xm_30.2.1 106 = .ok (.aload_n 0, 1))) rfl, xq_30_50⟩
theorem xq_30_48 : xOKs xsg xm_30 xk_30_0 xk_30_48 := ⟨xok_callV (M' := xm_34) rfl (rfl : vwCl[5]? = some (RX5, TX5, 4)) (by decide +kernel : decode xm_30.2.1 103 = .ok (.invokevirtual 48, 3)) xn_34 (xT_c3 210 rfl rfl) (xT_c0 7 rfl rfl) (xT_c3 208 rfl rfl) rfl, xq_30_49⟩
theorem xq_30_47 : xOKs xsg xm_30 xk_30_0 xk_30_47 := ⟨xok_p (xp_bipush (v := 8) (by decide +kernel : decode xm_30.2.1 101 = .ok (.bipush 8, 2)) (by decide)) rfl, xq_30_48⟩
theorem xq_30_46 : xOKs xsg xm_30 xk_30_0 xk_30_46 := ⟨xok_ld (xl_aload_n (by decide +kernel : decode xm_30.2.1 100 = .ok (.aload_n 0, 1))) rfl, xq_30_47⟩
theorem xq_30_45 : xOKs xsg xm_30 xk_30_0 xk_30_45 := ⟨xok_br (tgt := 34) (xb_go (by decide +kernel : decode xm_30.2.1 97 = .ok (.goto (-63), 3)) (by decide)) (by decide +kernel) rfl, xq_30_46⟩
theorem xq_30_44 : xOKs xsg xm_30 xk_30_0 xk_30_44 := ⟨xok_inc (by decide +kernel : decode xm_30.2.1 94 = .ok (.iinc 2 1, 3)) (by decide) rfl, xq_30_45⟩
theorem xq_30_43 : xOKs xsg xm_30 xk_30_0 xk_30_43 := ⟨xok_callV (M' := xm_31) rfl (rfl : vwCl[5]? = some (RX5, TX5, 4)) (by decide +kernel : decode xm_30.2.1 91 = .ok (.invokevirtual 45, 3)) xn_31 (xT_c4 46 rfl rfl) (xT_c0 19 rfl rfl) (xT_c4 44 rfl rfl) rfl, xq_30_44⟩
theorem xq_30_42 : xOKs xsg xm_30 xk_30_0 xk_30_42 := ⟨xok_ld (xl_aload_n (by decide +kernel : decode xm_30.2.1 90 = .ok (.aload_n 0, 1))) rfl, xq_30_43⟩
theorem xq_30_41 : xOKs xsg xm_30 xk_30_0 xk_30_41 := ⟨xok_none, xq_30_42⟩
theorem xq_30_40 : xOKs xsg xm_30 xk_30_0 xk_30_40 := ⟨xok_none, xq_30_41⟩
theorem xq_30_39 : xOKs xsg xm_30 xk_30_0 xk_30_39 := ⟨xok_none, xq_30_40⟩
theorem xq_30_38 : xOKs xsg xm_30 xk_30_0 xk_30_38 := ⟨xok_br (tgt := 90) (xb_ine (by decide +kernel : decode xm_30.2.1 80 = .ok (.if_icmp .ne 10, 3)) (by decide)) (by decide +kernel) rfl, xq_30_39⟩
theorem xq_30_37 : xOKs xsg xm_30 xk_30_0 xk_30_37 := ⟨xok_p (xp_bipush (v := 6) (by decide +kernel : decode xm_30.2.1 78 = .ok (.bipush 6, 2)) (by decide)) rfl, xq_30_38⟩
theorem xq_30_36 : xOKs xsg xm_30 xk_30_0 xk_30_36 := ⟨xok_callV (M' := xm_37) rfl (rfl : vwCl[6]? = some (RX6, TX6, 3)) (by decide +kernel : decode xm_30.2.1 75 = .ok (.invokevirtual 36, 3)) xn_37 (xT_c3 88 rfl rfl) (xT_c3 89 rfl rfl) (xT_c3 194 rfl rfl) rfl, xq_30_37⟩
theorem xq_30_35 : xOKs xsg xm_30 xk_30_0 xk_30_35 := ⟨xok_get (by decide +kernel : decode xm_30.2.1 72 = .ok (.getfield 29, 3)) (rfl : vwCl[5]? = some (RX5, TX5, 4)) inX5 (by decide) (xT_c2 37 rfl rfl) rfl, xq_30_36⟩
theorem xq_30_34 : xOKs xsg xm_30 xk_30_0 xk_30_34 := ⟨xok_ld (xl_aload_n (by decide +kernel : decode xm_30.2.1 71 = .ok (.aload_n 0, 1))) rfl, xq_30_35⟩
theorem xq_30_33 : xOKs xsg xm_30 xk_30_0 xk_30_33 := ⟨xok_get (by decide +kernel : decode xm_30.2.1 68 = .ok (.getfield 28, 3)) (rfl : vwCl[5]? = some (RX5, TX5, 4)) inX5 (by decide) (xT_c2 36 rfl rfl) rfl, xq_30_34⟩
theorem xq_30_32 : xOKs xsg xm_30 xk_30_0 xk_30_32 := ⟨xok_ld (xl_aload_n (by decide +kernel : decode xm_30.2.1 67 = .ok (.aload_n 0, 1))) rfl, xq_30_33⟩
theorem xq_30_31 : xOKs xsg xm_30 xk_30_0 xk_30_31 := ⟨xok_br (tgt := 100) (xb_ieq (by decide +kernel : decode xm_30.2.1 64 = .ok (.if_icmp .eq 36, 3)) (by decide)) (by decide +kernel) rfl, xq_30_32⟩
theorem xq_30_30 : xOKs xsg xm_30 xk_30_0 xk_30_30 := ⟨xok_p (xp_bipush (v := 8) (by decide +kernel : decode xm_30.2.1 62 = .ok (.bipush 8, 2)) (by decide)) rfl, xq_30_31⟩
theorem xq_30_29 : xOKs xsg xm_30 xk_30_0 xk_30_29 := ⟨xok_callV (M' := xm_37) rfl (rfl : vwCl[6]? = some (RX6, TX6, 3)) (by decide +kernel : decode xm_30.2.1 59 = .ok (.invokevirtual 36, 3)) xn_37 (xT_c3 88 rfl rfl) (xT_c3 89 rfl rfl) (xT_c3 194 rfl rfl) rfl, xq_30_30⟩
theorem xq_30_28 : xOKs xsg xm_30 xk_30_0 xk_30_28 := ⟨xok_get (by decide +kernel : decode xm_30.2.1 56 = .ok (.getfield 29, 3)) (rfl : vwCl[5]? = some (RX5, TX5, 4)) inX5 (by decide) (xT_c2 37 rfl rfl) rfl, xq_30_29⟩
theorem xq_30_27 : xOKs xsg xm_30 xk_30_0 xk_30_27 := ⟨xok_ld (xl_aload_n (by decide +kernel : decode xm_30.2.1 55 = .ok (.aload_n 0, 1))) rfl, xq_30_28⟩
theorem xq_30_26 : xOKs xsg xm_30 xk_30_0 xk_30_26 := ⟨xok_get (by decide +kernel : decode xm_30.2.1 52 = .ok (.getfield 28, 3)) (rfl : vwCl[5]? = some (RX5, TX5, 4)) inX5 (by decide) (xT_c2 36 rfl rfl) rfl, xq_30_27⟩
theorem xq_30_25 : xOKs xsg xm_30 xk_30_0 xk_30_25 := ⟨xok_ld (xl_aload_n (by decide +kernel : decode xm_30.2.1 51 = .ok (.aload_n 0, 1))) rfl, xq_30_26⟩
theorem xq_30_24 : xOKs xsg xm_30 xk_30_0 xk_30_24 := ⟨xok_br (tgt := 100) (xb_ne (by decide +kernel : decode xm_30.2.1 48 = .ok (.ifCond .ne 52, 3)) (by decide)) (by decide +kernel) rfl, xq_30_25⟩
theorem xq_30_23 : xOKs xsg xm_30 xk_30_0 xk_30_23 := ⟨xok_getN (by decide +kernel : decode xm_30.2.1 45 = .ok (.getfield 33, 3)) (rfl : vwCl[4]? = some (RX4, TX4, 15)) inX4 (by decide) (xN_c1 182 rfl rfl) rfl, xq_30_24⟩
theorem xq_30_22 : xOKs xsg xm_30 xk_30_0 xk_30_22 := ⟨xok_get (by decide +kernel : decode xm_30.2.1 42 = .ok (.getfield 9, 3)) (rfl : vwCl[5]? = some (RX5, TX5, 4)) inX5 (by decide) (xT_c2 34 rfl rfl) rfl, xq_30_23⟩
theorem xq_30_21 : xOKs xsg xm_30 xk_30_0 xk_30_21 := ⟨xok_ld (xl_aload_n (by decide +kernel : decode xm_30.2.1 41 = .ok (.aload_n 0, 1))) rfl, xq_30_22⟩
theorem xq_30_20 : xOKs xsg xm_30 xk_30_0 xk_30_20 := ⟨xok_br (tgt := 100) (xb_ige (by decide +kernel : decode xm_30.2.1 38 = .ok (.if_icmp .ge 62, 3)) (by decide)) (by decide +kernel) rfl, xq_30_21⟩
theorem xq_30_19 : xOKs xsg xm_30 xk_30_0 xk_30_19 := ⟨xok_p (xp_sipush (v := 4000) (by decide +kernel : decode xm_30.2.1 35 = .ok (.sipush 4000, 3)) (by decide)) rfl, xq_30_20⟩
theorem xq_30_18 : xOKs xsg xm_30 xk_30_0 xk_30_18 := ⟨xok_ld (xl_iload_n (by decide +kernel : decode xm_30.2.1 34 = .ok (.iload_n 2, 1))) rfl, xq_30_19⟩
theorem xq_30_17 : xOKs xsg xm_30 xk_30_0 xk_30_17 := ⟨xok_st (xs_istore_n (by decide +kernel : decode xm_30.2.1 33 = .ok (.istore_n 2, 1)) (by decide)) rfl, xq_30_18⟩
theorem xq_30_16 : xOKs xsg xm_30 xk_30_0 xk_30_16 := ⟨xok_p (xp_iconst (v := 0) (by decide +kernel : decode xm_30.2.1 32 = .ok (.iconst 0, 1)) (by decide)) rfl, xq_30_17⟩
theorem xq_30_15 : xOKs xsg xm_30 xk_30_0 xk_30_15 := ⟨xok_put (by decide +kernel : decode xm_30.2.1 29 = .ok (.putfield 29, 3)) (rfl : vwCl[5]? = some (RX5, TX5, 4)) inX5 tyX5_ok nmX5 (k := 3) (by decide) rfl (xT_c2 37 rfl rfl) rfl, xq_30_16⟩
theorem xq_30_14 : xOKs xsg xm_30 xk_30_0 xk_30_14 := ⟨xok_p (xp_iconst (v := 0) (by decide +kernel : decode xm_30.2.1 28 = .ok (.iconst 0, 1)) (by decide)) rfl, xq_30_15⟩
theorem xq_30_13 : xOKs xsg xm_30 xk_30_0 xk_30_13 := ⟨xok_ld (xl_aload_n (by decide +kernel : decode xm_30.2.1 27 = .ok (.aload_n 0, 1))) rfl, xq_30_14⟩
theorem xq_30_12 : xOKs xsg xm_30 xk_30_0 xk_30_12 := ⟨xok_put (by decide +kernel : decode xm_30.2.1 24 = .ok (.putfield 28, 3)) (rfl : vwCl[5]? = some (RX5, TX5, 4)) inX5 tyX5_ok nmX5 (k := 2) (by decide) rfl (xT_c2 36 rfl rfl) rfl, xq_30_13⟩
theorem xq_30_11 : xOKs xsg xm_30 xk_30_0 xk_30_11 := ⟨xok_getN (by decide +kernel : decode xm_30.2.1 21 = .ok (.getfield 22, 3)) (rfl : vwCl[9]? = some (RX9, TX9, 8)) inX9 (by decide) (xN_c1 75 rfl rfl) rfl, xq_30_12⟩
theorem xq_30_10 : xOKs xsg xm_30 xk_30_0 xk_30_10 := ⟨xok_get (by decide +kernel : decode xm_30.2.1 18 = .ok (.getfield 21, 3)) (rfl : vwCl[5]? = some (RX5, TX5, 4)) inX5 (by decide) (xT_c2 35 rfl rfl) rfl, xq_30_11⟩
theorem xq_30_9 : xOKs xsg xm_30 xk_30_0 xk_30_9 := ⟨xok_ld (xl_aload_n (by decide +kernel : decode xm_30.2.1 17 = .ok (.aload_n 0, 1))) rfl, xq_30_10⟩
theorem xq_30_8 : xOKs xsg xm_30 xk_30_0 xk_30_8 := ⟨xok_ld (xl_aload_n (by decide +kernel : decode xm_30.2.1 16 = .ok (.aload_n 0, 1))) rfl, xq_30_9⟩
theorem xq_30_7 : xOKs xsg xm_30 xk_30_0 xk_30_7 := ⟨xok_put (by decide +kernel : decode xm_30.2.1 13 = .ok (.putfield 21, 3)) (rfl : vwCl[5]? = some (RX5, TX5, 4)) inX5 tyX5_ok nmX5 (k := 1) (by decide) rfl (xT_c2 35 rfl rfl) rfl, xq_30_8⟩
theorem xq_30_6 : xOKs xsg xm_30 xk_30_0 xk_30_6 := ⟨xok_getN (by decide +kernel : decode xm_30.2.1 10 = .ok (.getfield 15, 3)) (rfl : vwCl[4]? = some (RX4, TX4, 15)) inX4 (by decide) (xN_c1 137 rfl rfl) rfl, xq_30_7⟩
theorem xq_30_5 : xOKs xsg xm_30 xk_30_0 xk_30_5 := ⟨xok_get (by decide +kernel : decode xm_30.2.1 7 = .ok (.getfield 9, 3)) (rfl : vwCl[5]? = some (RX5, TX5, 4)) inX5 (by decide) (xT_c2 34 rfl rfl) rfl, xq_30_6⟩
theorem xq_30_4 : xOKs xsg xm_30 xk_30_0 xk_30_4 := ⟨xok_ld (xl_aload_n (by decide +kernel : decode xm_30.2.1 6 = .ok (.aload_n 0, 1))) rfl, xq_30_5⟩
theorem xq_30_3 : xOKs xsg xm_30 xk_30_0 xk_30_3 := ⟨xok_ld (xl_aload_n (by decide +kernel : decode xm_30.2.1 5 = .ok (.aload_n 0, 1))) rfl, xq_30_4⟩
theorem xq_30_2 : xOKs xsg xm_30 xk_30_0 xk_30_2 := ⟨xok_put (by decide +kernel : decode xm_30.2.1 2 = .ok (.putfield 9, 3)) (rfl : vwCl[5]? = some (RX5, TX5, 4)) inX5 tyX5_ok nmX5 (k := 0) (by decide) rfl (xT_c2 34 rfl rfl) rfl, xq_30_3⟩
theorem xq_30_1 : xOKs xsg xm_30 xk_30_0 xk_30_1 := ⟨xok_ld (xl_aload_n (by decide +kernel : decode xm_30.2.1 1 = .ok (.aload_n 1, 1))) rfl, xq_30_2⟩
theorem xq_30_0 : xOKs xsg xm_30 xk_30_0 xk_30_0 := ⟨xok_ld (xl_aload_n (by decide +kernel : decode xm_30.2.1 0 = .ok (.aload_n 0, 1))) rfl, xq_30_1⟩
theorem xz_30 : xwf xsg xm_30 xk_30_0 := ⟨xq_30_0, rfl, by decide⟩
/-! FeatherBench$Reader.readType()V -/
theorem xq_31_132 : xOKs xsg xm_31 xk_31_0 xk_31_132 := trivial
theorem xq_31_131 : xOKs xsg xm_31 xk_31_0 xk_31_131 := ⟨xok_ret0 (by decide +kernel : decode xm_31.2.1 266 = .ok (.return_, 1)) rfl, xq_31_132⟩
theorem xq_31_130 : xOKs xsg xm_31 xk_31_0 xk_31_130 := ⟨xok_callV (M' := xm_27) rfl (rfl : vwCl[4]? = some (RX4, TX4, 15)) (by decide +kernel : decode xm_31.2.1 263 = .ok (.invokevirtual 94, 3)) xn_27 (xT_c4 53 rfl rfl) (xT_c4 54 rfl rfl) (xT_c4 52 rfl rfl) rfl, xq_31_131⟩
theorem xq_31_129 : xOKs xsg xm_31 xk_31_0 xk_31_129 := ⟨xok_ld (xl_iload (by decide +kernel : decode xm_31.2.1 261 = .ok (.iload 6, 2))) rfl, xq_31_130⟩
theorem xq_31_128 : xOKs xsg xm_31 xk_31_0 xk_31_128 := ⟨xok_ld (xl_iload (by decide +kernel : decode xm_31.2.1 259 = .ok (.iload 5, 2))) rfl, xq_31_129⟩
theorem xq_31_127 : xOKs xsg xm_31 xk_31_0 xk_31_127 := ⟨xok_ld (xl_iload_n (by decide +kernel : decode xm_31.2.1 258 = .ok (.iload_n 3, 1))) rfl, xq_31_128⟩
theorem xq_31_126 : xOKs xsg xm_31 xk_31_0 xk_31_126 := ⟨xok_ld (xl_iload_n (by decide +kernel : decode xm_31.2.1 257 = .ok (.iload_n 1, 1))) rfl, xq_31_127⟩
theorem xq_31_125 : xOKs xsg xm_31 xk_31_0 xk_31_125 := ⟨xok_p (xp_iconst (v := 5) (by decide +kernel : decode xm_31.2.1 256 = .ok (.iconst 5, 1)) (by decide)) rfl, xq_31_126⟩
theorem xq_31_124 : xOKs xsg xm_31 xk_31_0 xk_31_124 := ⟨xok_none, xq_31_125⟩
theorem xq_31_123 : xOKs xsg xm_31 xk_31_0 xk_31_123 := ⟨xok_none, xq_31_124⟩
theorem xq_31_122 : xOKs xsg xm_31 xk_31_0 xk_31_122 := ⟨xok_br (tgt := 256) (xb_eq (by decide +kernel : decode xm_31.2.1 249 = .ok (.ifCond .eq 7, 3)) (by decide)) (by decide +kernel) rfl, xq_31_123⟩
theorem xq_31_121 : xOKs xsg xm_31 xk_31_0 xk_31_121 := ⟨xok_ld (xl_iload (by decide +kernel : decode xm_31.2.1 247 = .ok (.iload 4, 2))) rfl, xq_31_122⟩
theorem xq_31_120 : xOKs xsg xm_31 xk_31_0 xk_31_120 := ⟨xok_ld (xl_iload_n (by decide +kernel : decode xm_31.2.1 246 = .ok (.iload_n 2, 1))) rfl, xq_31_121⟩
theorem xq_31_119 : xOKs xsg xm_31 xk_31_0 xk_31_119 := ⟨xok_get (by decide +kernel : decode xm_31.2.1 243 = .ok (.getfield 9, 3)) (rfl : vwCl[5]? = some (RX5, TX5, 4)) inX5 (by decide) (xT_c2 34 rfl rfl) rfl, xq_31_120⟩
theorem xq_31_118 : xOKs xsg xm_31 xk_31_0 xk_31_118 := ⟨xok_ld (xl_aload_n (by decide +kernel : decode xm_31.2.1 242 = .ok (.aload_n 0, 1))) rfl, xq_31_119⟩
theorem xq_31_117 : xOKs xsg xm_31 xk_31_0 xk_31_117 := ⟨xok_callV (M' := xm_34) rfl (rfl : vwCl[5]? = some (RX5, TX5, 4)) (by decide +kernel : decode xm_31.2.1 239 = .ok (.invokevirtual 48, 3)) xn_34 (xT_c3 210 rfl rfl) (xT_c0 7 rfl rfl) (xT_c3 208 rfl rfl) rfl, xq_31_118⟩
theorem xq_31_116 : xOKs xsg xm_31 xk_31_0 xk_31_116 := ⟨xok_p (xp_bipush (v := 125) (by decide +kernel : decode xm_31.2.1 237 = .ok (.bipush 125, 2)) (by decide)) rfl, xq_31_117⟩
theorem xq_31_115 : xOKs xsg xm_31 xk_31_0 xk_31_115 := ⟨xok_ld (xl_aload_n (by decide +kernel : decode xm_31.2.1 236 = .ok (.aload_n 0, 1))) rfl, xq_31_116⟩
theorem xq_31_114 : xOKs xsg xm_31 xk_31_0 xk_31_114 := ⟨xok_none, xq_31_115⟩
theorem xq_31_113 : xOKs xsg xm_31 xk_31_0 xk_31_113 := ⟨xok_none, xq_31_114⟩
theorem xq_31_112 : xOKs xsg xm_31 xk_31_0 xk_31_112 := ⟨xok_none, xq_31_113⟩
theorem xq_31_111 : xOKs xsg xm_31 xk_31_0 xk_31_111 := ⟨xok_none, xq_31_112⟩
theorem xq_31_110 : xOKs xsg xm_31 xk_31_0 xk_31_110 := ⟨xok_none, xq_31_111⟩
theorem xq_31_109 : xOKs xsg xm_31 xk_31_0 xk_31_109 := ⟨xok_none, xq_31_110⟩
theorem xq_31_108 : xOKs xsg xm_31 xk_31_0 xk_31_108 := ⟨xok_none, xq_31_109⟩
theorem xq_31_107 : xOKs xsg xm_31 xk_31_0 xk_31_107 := ⟨xok_none, xq_31_108⟩
theorem xq_31_106 : xOKs xsg xm_31 xk_31_0 xk_31_106 := ⟨xok_none, xq_31_107⟩
theorem xq_31_105 : xOKs xsg xm_31 xk_31_0 xk_31_105 := ⟨xok_none, xq_31_106⟩
theorem xq_31_104 : xOKs xsg xm_31 xk_31_0 xk_31_104 := ⟨xok_none, xq_31_105⟩
theorem xq_31_103 : xOKs xsg xm_31 xk_31_0 xk_31_103 := ⟨xok_none, xq_31_104⟩
theorem xq_31_102 : xOKs xsg xm_31 xk_31_0 xk_31_102 := ⟨xok_none, xq_31_103⟩
theorem xq_31_101 : xOKs xsg xm_31 xk_31_0 xk_31_101 := ⟨xok_none, xq_31_102⟩
theorem xq_31_100 : xOKs xsg xm_31 xk_31_0 xk_31_100 := ⟨xok_none, xq_31_101⟩
theorem xq_31_99 : xOKs xsg xm_31 xk_31_0 xk_31_99 := ⟨xok_none, xq_31_100⟩
theorem xq_31_98 : xOKs xsg xm_31 xk_31_0 xk_31_98 := ⟨xok_none, xq_31_99⟩
theorem xq_31_97 : xOKs xsg xm_31 xk_31_0 xk_31_97 := ⟨xok_none, xq_31_98⟩
theorem xq_31_96 : xOKs xsg xm_31 xk_31_0 xk_31_96 := ⟨xok_none, xq_31_97⟩
theorem xq_31_95 : xOKs xsg xm_31 xk_31_0 xk_31_95 := ⟨xok_none, xq_31_96⟩
theorem xq_31_94 : xOKs xsg xm_31 xk_31_0 xk_31_94 := ⟨xok_none, xq_31_95⟩
theorem xq_31_93 : xOKs xsg xm_31 xk_31_0 xk_31_93 := ⟨xok_none, xq_31_94⟩
theorem xq_31_92 : xOKs xsg xm_31 xk_31_0 xk_31_92 := ⟨xok_none, xq_31_93⟩
theorem xq_31_91 : xOKs xsg xm_31 xk_31_0 xk_31_91 := ⟨xok_none, xq_31_92⟩
theorem xq_31_90 : xOKs xsg xm_31 xk_31_0 xk_31_90 := ⟨xok_none, xq_31_91⟩
theorem xq_31_89 : xOKs xsg xm_31 xk_31_0 xk_31_89 := ⟨xok_none, xq_31_90⟩
theorem xq_31_88 : xOKs xsg xm_31 xk_31_0 xk_31_88 := ⟨xok_none, xq_31_89⟩
theorem xq_31_87 : xOKs xsg xm_31 xk_31_0 xk_31_87 := ⟨xok_none, xq_31_88⟩
theorem xq_31_86 : xOKs xsg xm_31 xk_31_0 xk_31_86 := ⟨xok_none, xq_31_87⟩
theorem xq_31_85 : xOKs xsg xm_31 xk_31_0 xk_31_85 := ⟨xok_none, xq_31_86⟩
theorem xq_31_84 : xOKs xsg xm_31 xk_31_0 xk_31_84 := ⟨xok_none, xq_31_85⟩
theorem xq_31_83 : xOKs xsg xm_31 xk_31_0 xk_31_83 := ⟨xok_none, xq_31_84⟩
theorem xq_31_82 : xOKs xsg xm_31 xk_31_0 xk_31_82 := ⟨xok_none, xq_31_83⟩
theorem xq_31_81 : xOKs xsg xm_31 xk_31_0 xk_31_81 := ⟨xok_none, xq_31_82⟩
theorem xq_31_80 : xOKs xsg xm_31 xk_31_0 xk_31_80 := ⟨xok_none, xq_31_81⟩
theorem xq_31_79 : xOKs xsg xm_31 xk_31_0 xk_31_79 := ⟨xok_none, xq_31_80⟩
theorem xq_31_78 : xOKs xsg xm_31 xk_31_0 xk_31_78 := ⟨xok_none, xq_31_79⟩
theorem xq_31_77 : xOKs xsg xm_31 xk_31_0 xk_31_77 := ⟨xok_none, xq_31_78⟩
theorem xq_31_76 : xOKs xsg xm_31 xk_31_0 xk_31_76 := ⟨xok_none, xq_31_77⟩
theorem xq_31_75 : xOKs xsg xm_31 xk_31_0 xk_31_75 := ⟨xok_none, xq_31_76⟩
theorem xq_31_74 : xOKs xsg xm_31 xk_31_0 xk_31_74 := ⟨xok_none, xq_31_75⟩
theorem xq_31_73 : xOKs xsg xm_31 xk_31_0 xk_31_73 := ⟨xok_br (tgt := 236) (xb_ne (by decide +kernel : decode xm_31.2.1 148 = .ok (.ifCond .ne 88, 3)) (by decide)) (by decide +kernel) rfl, xq_31_74⟩
theorem xq_31_72 : xOKs xsg xm_31 xk_31_0 xk_31_72 := ⟨xok_getN (by decide +kernel : decode xm_31.2.1 145 = .ok (.getfield 33, 3)) (rfl : vwCl[4]? = some (RX4, TX4, 15)) inX4 (by decide) (xN_c1 182 rfl rfl) rfl, xq_31_73⟩
theorem xq_31_71 : xOKs xsg xm_31 xk_31_0 xk_31_71 := ⟨xok_get (by decide +kernel : decode xm_31.2.1 142 = .ok (.getfield 9, 3)) (rfl : vwCl[5]? = some (RX5, TX5, 4)) inX5 (by decide) (xT_c2 34 rfl rfl) rfl, xq_31_72⟩
theorem xq_31_70 : xOKs xsg xm_31 xk_31_0 xk_31_70 := ⟨xok_ld (xl_aload_n (by decide +kernel : decode xm_31.2.1 141 = .ok (.aload_n 0, 1))) rfl, xq_31_71⟩
theorem xq_31_69 : xOKs xsg xm_31 xk_31_0 xk_31_69 := ⟨xok_br (tgt := 236) (xb_igt (by decide +kernel : decode xm_31.2.1 138 = .ok (.if_icmp .gt 98, 3)) (by decide)) (by decide +kernel) rfl, xq_31_70⟩
theorem xq_31_68 : xOKs xsg xm_31 xk_31_0 xk_31_68 := ⟨xok_p (xp_bipush (v := 6) (by decide +kernel : decode xm_31.2.1 136 = .ok (.bipush 6, 2)) (by decide)) rfl, xq_31_69⟩
theorem xq_31_67 : xOKs xsg xm_31 xk_31_0 xk_31_67 := ⟨xok_ld (xl_iload (by decide +kernel : decode xm_31.2.1 134 = .ok (.iload 6, 2))) rfl, xq_31_68⟩
theorem xq_31_66 : xOKs xsg xm_31 xk_31_0 xk_31_66 := ⟨xok_st (xs_istore (by decide +kernel : decode xm_31.2.1 132 = .ok (.istore 6, 2)) (by decide)) rfl, xq_31_67⟩
theorem xq_31_65 : xOKs xsg xm_31 xk_31_0 xk_31_65 := ⟨xok_p (xp_iconst (v := 0) (by decide +kernel : decode xm_31.2.1 131 = .ok (.iconst 0, 1)) (by decide)) rfl, xq_31_66⟩
theorem xq_31_64 : xOKs xsg xm_31 xk_31_0 xk_31_64 := ⟨xok_st (xs_istore (by decide +kernel : decode xm_31.2.1 129 = .ok (.istore 5, 2)) (by decide)) rfl, xq_31_65⟩
theorem xq_31_63 : xOKs xsg xm_31 xk_31_0 xk_31_63 := ⟨xok_callV (M' := xm_24) rfl (rfl : vwCl[4]? = some (RX4, TX4, 15)) (by decide +kernel : decode xm_31.2.1 126 = .ok (.invokevirtual 77, 3)) xn_24 (xT_c3 217 rfl rfl) (xT_c3 218 rfl rfl) (xT_c3 216 rfl rfl) rfl, xq_31_64⟩
theorem xq_31_62 : xOKs xsg xm_31 xk_31_0 xk_31_62 := ⟨xok_get (by decide +kernel : decode xm_31.2.1 123 = .ok (.getfield 9, 3)) (rfl : vwCl[5]? = some (RX5, TX5, 4)) inX5 (by decide) (xT_c2 34 rfl rfl) rfl, xq_31_63⟩
theorem xq_31_61 : xOKs xsg xm_31 xk_31_0 xk_31_61 := ⟨xok_ld (xl_aload_n (by decide +kernel : decode xm_31.2.1 122 = .ok (.aload_n 0, 1))) rfl, xq_31_62⟩
theorem xq_31_60 : xOKs xsg xm_31 xk_31_0 xk_31_60 := ⟨xok_none, xq_31_61⟩
theorem xq_31_59 : xOKs xsg xm_31 xk_31_0 xk_31_59 := ⟨xok_none, xq_31_60⟩
theorem xq_31_58 : xOKs xsg xm_31 xk_31_0 xk_31_58 := ⟨xok_none, xq_31_59⟩
theorem xq_31_57 : xOKs xsg xm_31 xk_31_0 xk_31_57 := ⟨xok_none, xq_31_58⟩
theorem xq_31_56 : xOKs xsg xm_31 xk_31_0 xk_31_56 := ⟨xok_br (tgt := 122) (xb_eq (by decide +kernel : decode xm_31.2.1 109 = .ok (.ifCond .eq 13, 3)) (by decide)) (by decide +kernel) rfl, xq_31_57⟩
theorem xq_31_55 : xOKs xsg xm_31 xk_31_0 xk_31_55 := ⟨xok_ld (xl_iload (by decide +kernel : decode xm_31.2.1 107 = .ok (.iload 4, 2))) rfl, xq_31_56⟩
theorem xq_31_54 : xOKs xsg xm_31 xk_31_0 xk_31_54 := ⟨xok_callV (M' := xm_34) rfl (rfl : vwCl[5]? = some (RX5, TX5, 4)) (by decide +kernel : decode xm_31.2.1 104 = .ok (.invokevirtual 48, 3)) xn_34 (xT_c3 210 rfl rfl) (xT_c0 7 rfl rfl) (xT_c3 208 rfl rfl) rfl, xq_31_55⟩
theorem xq_31_53 : xOKs xsg xm_31 xk_31_0 xk_31_53 := ⟨xok_p (xp_bipush (v := 123) (by decide +kernel : decode xm_31.2.1 102 = .ok (.bipush 123, 2)) (by decide)) rfl, xq_31_54⟩
theorem xq_31_52 : xOKs xsg xm_31 xk_31_0 xk_31_52 := ⟨xok_ld (xl_aload_n (by decide +kernel : decode xm_31.2.1 101 = .ok (.aload_n 0, 1))) rfl, xq_31_53⟩
theorem xq_31_51 : xOKs xsg xm_31 xk_31_0 xk_31_51 := ⟨xok_callV (M' := xm_34) rfl (rfl : vwCl[5]? = some (RX5, TX5, 4)) (by decide +kernel : decode xm_31.2.1 98 = .ok (.invokevirtual 48, 3)) xn_34 (xT_c3 210 rfl rfl) (xT_c0 7 rfl rfl) (xT_c3 208 rfl rfl) rfl, xq_31_52⟩
theorem xq_31_50 : xOKs xsg xm_31 xk_31_0 xk_31_50 := ⟨xok_p (xp_iconst (v := 5) (by decide +kernel : decode xm_31.2.1 97 = .ok (.iconst 5, 1)) (by decide)) rfl, xq_31_51⟩
theorem xq_31_49 : xOKs xsg xm_31 xk_31_0 xk_31_49 := ⟨xok_ld (xl_aload_n (by decide +kernel : decode xm_31.2.1 96 = .ok (.aload_n 0, 1))) rfl, xq_31_50⟩
theorem xq_31_48 : xOKs xsg xm_31 xk_31_0 xk_31_48 := ⟨xok_br (tgt := 101) (xb_ne (by decide +kernel : decode xm_31.2.1 93 = .ok (.ifCond .ne 8, 3)) (by decide)) (by decide +kernel) rfl, xq_31_49⟩
theorem xq_31_47 : xOKs xsg xm_31 xk_31_0 xk_31_47 := ⟨xok_ld (xl_iload (by decide +kernel : decode xm_31.2.1 91 = .ok (.iload 4, 2))) rfl, xq_31_48⟩
theorem xq_31_46 : xOKs xsg xm_31 xk_31_0 xk_31_46 := ⟨xok_st (xs_istore (by decide +kernel : decode xm_31.2.1 89 = .ok (.istore 4, 2)) (by decide)) rfl, xq_31_47⟩
theorem xq_31_45 : xOKs xsg xm_31 xk_31_0 xk_31_45 := ⟨xok_callV (M' := xm_33) rfl (rfl : vwCl[5]? = some (RX5, TX5, 4)) (by decide +kernel : decode xm_31.2.1 86 = .ok (.invokevirtual 69, 3)) xn_33 (xT_c3 227 rfl rfl) (xT_c0 8 rfl rfl) (xT_c3 225 rfl rfl) rfl, xq_31_46⟩
theorem xq_31_44 : xOKs xsg xm_31 xk_31_0 xk_31_44 := ⟨xok_p (xp_iconst (v := 4) (by decide +kernel : decode xm_31.2.1 85 = .ok (.iconst 4, 1)) (by decide)) rfl, xq_31_45⟩
theorem xq_31_43 : xOKs xsg xm_31 xk_31_0 xk_31_43 := ⟨xok_ld (xl_aload_n (by decide +kernel : decode xm_31.2.1 84 = .ok (.aload_n 0, 1))) rfl, xq_31_44⟩
theorem xq_31_42 : xOKs xsg xm_31 xk_31_0 xk_31_42 := ⟨xok_st (xs_istore_n (by decide +kernel : decode xm_31.2.1 83 = .ok (.istore_n 3, 1)) (by decide)) rfl, xq_31_43⟩
theorem xq_31_41 : xOKs xsg xm_31 xk_31_0 xk_31_41 := ⟨xok_p (xp_iconst (v := 0) (by decide +kernel : decode xm_31.2.1 82 = .ok (.iconst 0, 1)) (by decide)) rfl, xq_31_42⟩
theorem xq_31_40 : xOKs xsg xm_31 xk_31_0 xk_31_40 := ⟨xok_none, xq_31_41⟩
theorem xq_31_39 : xOKs xsg xm_31 xk_31_0 xk_31_39 := ⟨xok_none, xq_31_40⟩
theorem xq_31_38 : xOKs xsg xm_31 xk_31_0 xk_31_38 := ⟨xok_none, xq_31_39⟩
theorem xq_31_37 : xOKs xsg xm_31 xk_31_0 xk_31_37 := ⟨xok_none, xq_31_38⟩
theorem xq_31_36 : xOKs xsg xm_31 xk_31_0 xk_31_36 := ⟨xok_none, xq_31_37⟩
theorem xq_31_35 : xOKs xsg xm_31 xk_31_0 xk_31_35 := ⟨xok_none, xq_31_36⟩
theorem xq_31_34 : xOKs xsg xm_31 xk_31_0 xk_31_34 := ⟨xok_br (tgt := 82) (xb_eq (by decide +kernel : decode xm_31.2.1 68 = .ok (.ifCond .eq 14, 3)) (by decide)) (by decide +kernel) rfl, xq_31_35⟩
theorem xq_31_33 : xOKs xsg xm_31 xk_31_0 xk_31_33 := ⟨xok_callV (M' := xm_33) rfl (rfl : vwCl[5]? = some (RX5, TX5, 4)) (by decide +kernel : decode xm_31.2.1 65 = .ok (.invokevirtual 69, 3)) xn_33 (xT_c3 227 rfl rfl) (xT_c0 8 rfl rfl) (xT_c3 225 rfl rfl) rfl, xq_31_34⟩
theorem xq_31_32 : xOKs xsg xm_31 xk_31_0 xk_31_32 := ⟨xok_p (xp_bipush (v := 91) (by decide +kernel : decode xm_31.2.1 63 = .ok (.bipush 91, 2)) (by decide)) rfl, xq_31_33⟩
theorem xq_31_31 : xOKs xsg xm_31 xk_31_0 xk_31_31 := ⟨xok_ld (xl_aload_n (by decide +kernel : decode xm_31.2.1 62 = .ok (.aload_n 0, 1))) rfl, xq_31_32⟩
theorem xq_31_30 : xOKs xsg xm_31 xk_31_0 xk_31_30 := ⟨xok_callV (M' := xm_34) rfl (rfl : vwCl[5]? = some (RX5, TX5, 4)) (by decide +kernel : decode xm_31.2.1 59 = .ok (.invokevirtual 48, 3)) xn_34 (xT_c3 210 rfl rfl) (xT_c0 7 rfl rfl) (xT_c3 208 rfl rfl) rfl, xq_31_31⟩
theorem xq_31_29 : xOKs xsg xm_31 xk_31_0 xk_31_29 := ⟨xok_p (xp_iconst (v := 1) (by decide +kernel : decode xm_31.2.1 58 = .ok (.iconst 1, 1)) (by decide)) rfl, xq_31_30⟩
theorem xq_31_28 : xOKs xsg xm_31 xk_31_0 xk_31_28 := ⟨xok_ld (xl_aload_n (by decide +kernel : decode xm_31.2.1 57 = .ok (.aload_n 0, 1))) rfl, xq_31_29⟩
theorem xq_31_27 : xOKs xsg xm_31 xk_31_0 xk_31_27 := ⟨xok_st (xs_istore_n (by decide +kernel : decode xm_31.2.1 56 = .ok (.istore_n 2, 1)) (by decide)) rfl, xq_31_28⟩
theorem xq_31_26 : xOKs xsg xm_31 xk_31_0 xk_31_26 := ⟨xok_get (by decide +kernel : decode xm_31.2.1 53 = .ok (.getfield 29, 3)) (rfl : vwCl[5]? = some (RX5, TX5, 4)) inX5 (by decide) (xT_c2 37 rfl rfl) rfl, xq_31_27⟩
theorem xq_31_25 : xOKs xsg xm_31 xk_31_0 xk_31_25 := ⟨xok_ld (xl_aload_n (by decide +kernel : decode xm_31.2.1 52 = .ok (.aload_n 0, 1))) rfl, xq_31_26⟩
theorem xq_31_24 : xOKs xsg xm_31 xk_31_0 xk_31_24 := ⟨xok_st (xs_istore_n (by decide +kernel : decode xm_31.2.1 51 = .ok (.istore_n 1, 1)) (by decide)) rfl, xq_31_25⟩
theorem xq_31_23 : xOKs xsg xm_31 xk_31_0 xk_31_23 := ⟨xok_callV (M' := xm_25) rfl (rfl : vwCl[4]? = some (RX4, TX4, 15)) (by decide +kernel : decode xm_31.2.1 48 = .ok (.invokevirtual 66, 3)) xn_25 (xT_c3 213 rfl rfl) (xT_c3 214 rfl rfl) (xT_c3 212 rfl rfl) rfl, xq_31_24⟩
theorem xq_31_22 : xOKs xsg xm_31 xk_31_0 xk_31_22 := ⟨xok_get (by decide +kernel : decode xm_31.2.1 45 = .ok (.getfield 9, 3)) (rfl : vwCl[5]? = some (RX5, TX5, 4)) inX5 (by decide) (xT_c2 34 rfl rfl) rfl, xq_31_23⟩
theorem xq_31_21 : xOKs xsg xm_31 xk_31_0 xk_31_21 := ⟨xok_ld (xl_aload_n (by decide +kernel : decode xm_31.2.1 44 = .ok (.aload_n 0, 1))) rfl, xq_31_22⟩
theorem xq_31_20 : xOKs xsg xm_31 xk_31_0 xk_31_20 := ⟨xok_callV (M' := xm_34) rfl (rfl : vwCl[5]? = some (RX5, TX5, 4)) (by decide +kernel : decode xm_31.2.1 41 = .ok (.invokevirtual 48, 3)) xn_34 (xT_c3 210 rfl rfl) (xT_c0 7 rfl rfl) (xT_c3 208 rfl rfl) rfl, xq_31_21⟩
theorem xq_31_19 : xOKs xsg xm_31 xk_31_0 xk_31_19 := ⟨xok_p (xp_iconst (v := 3) (by decide +kernel : decode xm_31.2.1 40 = .ok (.iconst 3, 1)) (by decide)) rfl, xq_31_20⟩
theorem xq_31_18 : xOKs xsg xm_31 xk_31_0 xk_31_18 := ⟨xok_ld (xl_aload_n (by decide +kernel : decode xm_31.2.1 39 = .ok (.aload_n 0, 1))) rfl, xq_31_19⟩
theorem xq_31_17 : xOKs xsg xm_31 xk_31_0 xk_31_17 := ⟨xok_none, xq_31_18⟩
theorem xq_31_16 : xOKs xsg xm_31 xk_31_0 xk_31_16 := ⟨xok_none, xq_31_17⟩
theorem xq_31_15 : xOKs xsg xm_31 xk_31_0 xk_31_15 := ⟨xok_none, xq_31_16⟩
theorem xq_31_14 : xOKs xsg xm_31 xk_31_0 xk_31_14 := ⟨xok_none, xq_31_15⟩
theorem xq_31_13 : xOKs xsg xm_31 xk_31_0 xk_31_13 := ⟨xok_none, xq_31_14⟩
theorem xq_31_12 : xOKs xsg xm_31 xk_31_0 xk_31_12 := ⟨xok_none, xq_31_13⟩
theorem xq_31_11 : xOKs xsg xm_31 xk_31_0 xk_31_11 := ⟨xok_none, xq_31_12⟩
theorem xq_31_10 : xOKs xsg xm_31 xk_31_0 xk_31_10 := ⟨xok_none, xq_31_11⟩
theorem xq_31_9 : xOKs xsg xm_31 xk_31_0 xk_31_9 := ⟨xok_none, xq_31_10⟩
theorem xq_31_8 : xOKs xsg xm_31 xk_31_0 xk_31_8 := ⟨xok_none, xq_31_9⟩
theorem xq_31_7 : xOKs xsg xm_31 xk_31_0 xk_31_7 := ⟨xok_none, xq_31_8⟩
theorem xq_31_6 : xOKs xsg xm_31 xk_31_0 xk_31_6 := ⟨xok_br (tgt := 39) (xb_ine (by decide +kernel : decode xm_31.2.1 12 = .ok (.if_icmp .ne 27, 3)) (by decide)) (by decide +kernel) rfl, xq_31_7⟩
theorem xq_31_5 : xOKs xsg xm_31 xk_31_0 xk_31_5 := ⟨xok_p (xp_iconst (v := 3) (by decide +kernel : decode xm_31.2.1 11 = .ok (.iconst 3, 1)) (by decide)) rfl, xq_31_6⟩
theorem xq_31_4 : xOKs xsg xm_31 xk_31_0 xk_31_4 := ⟨xok_callV (M' := xm_37) rfl (rfl : vwCl[6]? = some (RX6, TX6, 3)) (by decide +kernel : decode xm_31.2.1 8 = .ok (.invokevirtual 36, 3)) xn_37 (xT_c3 88 rfl rfl) (xT_c3 89 rfl rfl) (xT_c3 194 rfl rfl) rfl, xq_31_5⟩
theorem xq_31_3 : xOKs xsg xm_31 xk_31_0 xk_31_3 := ⟨xok_get (by decide +kernel : decode xm_31.2.1 5 = .ok (.getfield 29, 3)) (rfl : vwCl[5]? = some (RX5, TX5, 4)) inX5 (by decide) (xT_c2 37 rfl rfl) rfl, xq_31_4⟩
theorem xq_31_2 : xOKs xsg xm_31 xk_31_0 xk_31_2 := ⟨xok_ld (xl_aload_n (by decide +kernel : decode xm_31.2.1 4 = .ok (.aload_n 0, 1))) rfl, xq_31_3⟩
theorem xq_31_1 : xOKs xsg xm_31 xk_31_0 xk_31_1 := ⟨xok_get (by decide +kernel : decode xm_31.2.1 1 = .ok (.getfield 28, 3)) (rfl : vwCl[5]? = some (RX5, TX5, 4)) inX5 (by decide) (xT_c2 36 rfl rfl) rfl, xq_31_2⟩
theorem xq_31_0 : xOKs xsg xm_31 xk_31_0 xk_31_0 := ⟨xok_ld (xl_aload_n (by decide +kernel : decode xm_31.2.1 0 = .ok (.aload_n 0, 1))) rfl, xq_31_1⟩
theorem xz_31 : xwf xsg xm_31 xk_31_0 := ⟨xq_31_0, rfl, by decide⟩
