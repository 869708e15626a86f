/-! FeatherBenchModel.run(I)I -/
theorem xq_75_14 : xOKs xsg xm_75 xk_75_0 xk_75_14 := trivial
theorem xq_75_13 : xOKs xsg xm_75 xk_75_0 xk_75_13 := ⟨xok_retI (by decide +kernel : decode xm_75.2.1 25 = .ok (.ireturn, 1)) rfl, xq_75_14⟩
theorem xq_75_12 : xOKs xsg xm_75 xk_75_0 xk_75_12 := ⟨xok_p (xp_iconst (v := -1) (by decide +kernel : decode xm_75.2.1 24 = .ok (.iconst (-1), 1)) (by decide)) rfl, xq_75_13⟩
theorem xq_75_11 : xOKs xsg xm_75 xk_75_0 xk_75_11 := ⟨xok_none, xq_75_12⟩
theorem xq_75_10 : xOKs xsg xm_75 xk_75_0 xk_75_10 := ⟨xok_none, xq_75_11⟩
theorem xq_75_9 : xOKs xsg xm_75 xk_75_0 xk_75_9 := ⟨xok_none, xq_75_10⟩
theorem xq_75_8 : xOKs xsg xm_75 xk_75_0 xk_75_8 := ⟨xok_none, xq_75_9⟩
theorem xq_75_7 : xOKs xsg xm_75 xk_75_0 xk_75_7 := ⟨xok_none, xq_75_8⟩
theorem xq_75_6 : xOKs xsg xm_75 xk_75_0 xk_75_6 := ⟨xok_none, xq_75_7⟩
theorem xq_75_5 : xOKs xsg xm_75 xk_75_0 xk_75_5 := ⟨xok_br (tgt := 24) (xb_eq (by decide +kernel : decode xm_75.2.1 9 = .ok (.ifCond .eq 15, 3)) (by decide)) (by decide +kernel) rfl, xq_75_6⟩
theorem xq_75_4 : xOKs xsg xm_75 xk_75_0 xk_75_4 := ⟨xok_get (by decide +kernel : decode xm_75.2.1 6 = .ok (.getfield 594, 3)) (rfl : vwCl[12]? = some (RX12, TX12, 125)) inX12 (by decide) (xT_c6 149 rfl rfl) rfl, xq_75_5⟩
theorem xq_75_3 : xOKs xsg xm_75 xk_75_0 xk_75_3 := ⟨xok_ld (xl_aload_n (by decide +kernel : decode xm_75.2.1 5 = .ok (.aload_n 0, 1))) rfl, xq_75_4⟩
theorem xq_75_2 : xOKs xsg xm_75 xk_75_0 xk_75_2 := ⟨xok_put (by decide +kernel : decode xm_75.2.1 2 = .ok (.putfield 252, 3)) (rfl : vwCl[12]? = some (RX12, TX12, 125)) inX12 tyX12_ok nmX12 (k := 0) (by decide) rfl (xT_c6 61 rfl rfl) rfl, xq_75_3⟩
theorem xq_75_1 : xOKs xsg xm_75 xk_75_0 xk_75_1 := ⟨xok_p (xp_iconst (v := 0) (by decide +kernel : decode xm_75.2.1 1 = .ok (.iconst 0, 1)) (by decide)) rfl, xq_75_2⟩
theorem xq_75_0 : xOKs xsg xm_75 xk_75_0 xk_75_0 := ⟨xok_ld (xl_aload_n (by decide +kernel : decode xm_75.2.1 0 = .ok (.aload_n 0, 1))) rfl, xq_75_1⟩
theorem xz_75 : xwf xsg xm_75 xk_75_0 := ⟨xq_75_0, rfl, by decide⟩
/-! FeatherBenchModel.failed()I -/
theorem xq_76_6 : xOKs xsg xm_76 xk_76_0 xk_76_6 := trivial
theorem xq_76_5 : xOKs xsg xm_76 xk_76_0 xk_76_5 := ⟨xok_retI (by decide +kernel : decode xm_76.2.1 9 = .ok (.ireturn, 1)) rfl, xq_76_6⟩
theorem xq_76_4 : xOKs xsg xm_76 xk_76_0 xk_76_4 := ⟨xok_get (by decide +kernel : decode xm_76.2.1 6 = .ok (.getfield 207, 3)) (rfl : vwCl[12]? = some (RX12, TX12, 125)) inX12 (by decide) (xT_c6 151 rfl rfl) rfl, xq_76_5⟩
theorem xq_76_3 : xOKs xsg xm_76 xk_76_0 xk_76_3 := ⟨xok_ld (xl_aload_n (by decide +kernel : decode xm_76.2.1 5 = .ok (.aload_n 0, 1))) rfl, xq_76_4⟩
theorem xq_76_2 : xOKs xsg xm_76 xk_76_0 xk_76_2 := ⟨xok_put (by decide +kernel : decode xm_76.2.1 2 = .ok (.putfield 252, 3)) (rfl : vwCl[12]? = some (RX12, TX12, 125)) inX12 tyX12_ok nmX12 (k := 0) (by decide) rfl (xT_c6 61 rfl rfl) rfl, xq_76_3⟩
theorem xq_76_1 : xOKs xsg xm_76 xk_76_0 xk_76_1 := ⟨xok_p (xp_iconst (v := 0) (by decide +kernel : decode xm_76.2.1 1 = .ok (.iconst 0, 1)) (by decide)) rfl, xq_76_2⟩
theorem xq_76_0 : xOKs xsg xm_76 xk_76_0 xk_76_0 := ⟨xok_ld (xl_aload_n (by decide +kernel : decode xm_76.2.1 0 = .ok (.aload_n 0, 1))) rfl, xq_76_1⟩
theorem xz_76 : xwf xsg xm_76 xk_76_0 := ⟨xq_76_0, rfl, by decide⟩
/-! FeatherBenchModel.calls()I -/
theorem xq_77_6 : xOKs xsg xm_77 xk_77_0 xk_77_6 := trivial
theorem xq_77_5 : xOKs xsg xm_77 xk_77_0 xk_77_5 := ⟨xok_retI (by decide +kernel : decode xm_77.2.1 9 = .ok (.ireturn, 1)) rfl, xq_77_6⟩
theorem xq_77_4 : xOKs xsg xm_77 xk_77_0 xk_77_4 := ⟨xok_get (by decide +kernel : decode xm_77.2.1 6 = .ok (.getfield 598, 3)) (rfl : vwCl[12]? = some (RX12, TX12, 125)) inX12 (by decide) (xT_c6 152 rfl rfl) rfl, xq_77_5⟩
theorem xq_77_3 : xOKs xsg xm_77 xk_77_0 xk_77_3 := ⟨xok_ld (xl_aload_n (by decide +kernel : decode xm_77.2.1 5 = .ok (.aload_n 0, 1))) rfl, xq_77_4⟩
theorem xq_77_2 : xOKs xsg xm_77 xk_77_0 xk_77_2 := ⟨xok_put (by decide +kernel : decode xm_77.2.1 2 = .ok (.putfield 252, 3)) (rfl : vwCl[12]? = some (RX12, TX12, 125)) inX12 tyX12_ok nmX12 (k := 0) (by decide) rfl (xT_c6 61 rfl rfl) rfl, xq_77_3⟩
theorem xq_77_1 : xOKs xsg xm_77 xk_77_0 xk_77_1 := ⟨xok_p (xp_iconst (v := 0) (by decide +kernel : decode xm_77.2.1 1 = .ok (.iconst 0, 1)) (by decide)) rfl, xq_77_2⟩
theorem xq_77_0 : xOKs xsg xm_77 xk_77_0 xk_77_0 := ⟨xok_ld (xl_aload_n (by decide +kernel : decode xm_77.2.1 0 = .ok (.aload_n 0, 1))) rfl, xq_77_1⟩
theorem xz_77 : xwf xsg xm_77 xk_77_0 := ⟨xq_77_0, rfl, by decide⟩
/-! FeatherBenchModel.instances()I -/
theorem xq_78_9 : xOKs xsg xm_78 xk_78_0 xk_78_9 := trivial
theorem xq_78_8 : xOKs xsg xm_78 xk_78_0 xk_78_8 := ⟨xok_none, xq_78_9⟩
theorem xq_78_7 : xOKs xsg xm_78 xk_78_0 xk_78_7 := ⟨xok_retI (by decide +kernel : decode xm_78.2.1 13 = .ok (.ireturn, 1)) rfl, xq_78_8⟩
theorem xq_78_6 : xOKs xsg xm_78 xk_78_0 xk_78_6 := ⟨xok_p (xp_iconst (v := -1) (by decide +kernel : decode xm_78.2.1 12 = .ok (.iconst (-1), 1)) (by decide)) rfl, xq_78_7⟩
theorem xq_78_5 : xOKs xsg xm_78 xk_78_0 xk_78_5 := ⟨xok_br (tgt := 14) (xb_ne (by decide +kernel : decode xm_78.2.1 9 = .ok (.ifCond .ne 5, 3)) (by decide)) (by decide +kernel) rfl, xq_78_6⟩
theorem xq_78_4 : xOKs xsg xm_78 xk_78_0 xk_78_4 := ⟨xok_get (by decide +kernel : decode xm_78.2.1 6 = .ok (.getfield 594, 3)) (rfl : vwCl[12]? = some (RX12, TX12, 125)) inX12 (by decide) (xT_c6 149 rfl rfl) rfl, xq_78_5⟩
theorem xq_78_3 : xOKs xsg xm_78 xk_78_0 xk_78_3 := ⟨xok_ld (xl_aload_n (by decide +kernel : decode xm_78.2.1 5 = .ok (.aload_n 0, 1))) rfl, xq_78_4⟩
theorem xq_78_2 : xOKs xsg xm_78 xk_78_0 xk_78_2 := ⟨xok_put (by decide +kernel : decode xm_78.2.1 2 = .ok (.putfield 252, 3)) (rfl : vwCl[12]? = some (RX12, TX12, 125)) inX12 tyX12_ok nmX12 (k := 0) (by decide) rfl (xT_c6 61 rfl rfl) rfl, xq_78_3⟩
theorem xq_78_1 : xOKs xsg xm_78 xk_78_0 xk_78_1 := ⟨xok_p (xp_iconst (v := 0) (by decide +kernel : decode xm_78.2.1 1 = .ok (.iconst 0, 1)) (by decide)) rfl, xq_78_2⟩
theorem xq_78_0 : xOKs xsg xm_78 xk_78_0 xk_78_0 := ⟨xok_ld (xl_aload_n (by decide +kernel : decode xm_78.2.1 0 = .ok (.aload_n 0, 1))) rfl, xq_78_1⟩
theorem xz_78 : xwf xsg xm_78 xk_78_0 := ⟨xq_78_0, rfl, by decide⟩
/-! FeatherBenchModel.made(I)I -/
theorem xq_79_20 : xOKs xsg xm_79 xk_79_0 xk_79_20 := trivial
theorem xq_79_19 : xOKs xsg xm_79 xk_79_0 xk_79_19 := ⟨xok_retI (by decide +kernel : decode xm_79.2.1 37 = .ok (.ireturn, 1)) rfl, xq_79_20⟩
theorem xq_79_18 : xOKs xsg xm_79 xk_79_0 xk_79_18 := ⟨xok_none, xq_79_19⟩
theorem xq_79_17 : xOKs xsg xm_79 xk_79_0 xk_79_17 := ⟨xok_none, xq_79_18⟩
theorem xq_79_16 : xOKs xsg xm_79 xk_79_0 xk_79_16 := ⟨xok_none, xq_79_17⟩
theorem xq_79_15 : xOKs xsg xm_79 xk_79_0 xk_79_15 := ⟨xok_br (tgt := 37) (xb_go (by decide +kernel : decode xm_79.2.1 29 = .ok (.goto 8, 3)) (by decide)) (by decide +kernel) rfl, xq_79_16⟩
theorem xq_79_14 : xOKs xsg xm_79 xk_79_0 xk_79_14 := ⟨xok_p (xp_iconst (v := -1) (by decide +kernel : decode xm_79.2.1 28 = .ok (.iconst (-1), 1)) (by decide)) rfl, xq_79_15⟩
theorem xq_79_13 : xOKs xsg xm_79 xk_79_0 xk_79_13 := ⟨xok_none, xq_79_14⟩
theorem xq_79_12 : xOKs xsg xm_79 xk_79_0 xk_79_12 := ⟨xok_none, xq_79_13⟩
theorem xq_79_11 : xOKs xsg xm_79 xk_79_0 xk_79_11 := ⟨xok_none, xq_79_12⟩
theorem xq_79_10 : xOKs xsg xm_79 xk_79_0 xk_79_10 := ⟨xok_none, xq_79_11⟩
theorem xq_79_9 : xOKs xsg xm_79 xk_79_0 xk_79_9 := ⟨xok_none, xq_79_10⟩
theorem xq_79_8 : xOKs xsg xm_79 xk_79_0 xk_79_8 := ⟨xok_none, xq_79_9⟩
theorem xq_79_7 : xOKs xsg xm_79 xk_79_0 xk_79_7 := ⟨xok_none, xq_79_8⟩
theorem xq_79_6 : xOKs xsg xm_79 xk_79_0 xk_79_6 := ⟨xok_none, xq_79_7⟩
theorem xq_79_5 : xOKs xsg xm_79 xk_79_0 xk_79_5 := ⟨xok_br (tgt := 28) (xb_eq (by decide +kernel : decode xm_79.2.1 9 = .ok (.ifCond .eq 19, 3)) (by decide)) (by decide +kernel) rfl, xq_79_6⟩
theorem xq_79_4 : xOKs xsg xm_79 xk_79_0 xk_79_4 := ⟨xok_get (by decide +kernel : decode xm_79.2.1 6 = .ok (.getfield 594, 3)) (rfl : vwCl[12]? = some (RX12, TX12, 125)) inX12 (by decide) (xT_c6 149 rfl rfl) rfl, xq_79_5⟩
theorem xq_79_3 : xOKs xsg xm_79 xk_79_0 xk_79_3 := ⟨xok_ld (xl_aload_n (by decide +kernel : decode xm_79.2.1 5 = .ok (.aload_n 0, 1))) rfl, xq_79_4⟩
theorem xq_79_2 : xOKs xsg xm_79 xk_79_0 xk_79_2 := ⟨xok_put (by decide +kernel : decode xm_79.2.1 2 = .ok (.putfield 252, 3)) (rfl : vwCl[12]? = some (RX12, TX12, 125)) inX12 tyX12_ok nmX12 (k := 0) (by decide) rfl (xT_c6 61 rfl rfl) rfl, xq_79_3⟩
theorem xq_79_1 : xOKs xsg xm_79 xk_79_0 xk_79_1 := ⟨xok_p (xp_iconst (v := 0) (by decide +kernel : decode xm_79.2.1 1 = .ok (.iconst 0, 1)) (by decide)) rfl, xq_79_2⟩
theorem xq_79_0 : xOKs xsg xm_79 xk_79_0 xk_79_0 := ⟨xok_ld (xl_aload_n (by decide +kernel : decode xm_79.2.1 0 = .ok (.aload_n 0, 1))) rfl, xq_79_1⟩
theorem xz_79 : xwf xsg xm_79 xk_79_0 := ⟨xq_79_0, rfl, by decide⟩
/-! FeatherBenchModel.isMade()I -/
theorem xq_80_33 : xOKs xsg xm_80 xk_80_0 xk_80_33 := trivial
theorem xq_80_32 : xOKs xsg xm_80 xk_80_0 xk_80_32 := ⟨xok_retI (by decide +kernel : decode xm_80.2.1 61 = .ok (.ireturn, 1)) rfl, xq_80_33⟩
theorem xq_80_31 : xOKs xsg xm_80 xk_80_0 xk_80_31 := ⟨xok_p (xp_iconst (v := -1) (by decide +kernel : decode xm_80.2.1 60 = .ok (.iconst (-1), 1)) (by decide)) rfl, xq_80_32⟩
theorem xq_80_30 : xOKs xsg xm_80 xk_80_0 xk_80_30 := ⟨xok_none, xq_80_31⟩
theorem xq_80_29 : xOKs xsg xm_80 xk_80_0 xk_80_29 := ⟨xok_none, xq_80_30⟩
theorem xq_80_28 : xOKs xsg xm_80 xk_80_0 xk_80_28 := ⟨xok_none, xq_80_29⟩
theorem xq_80_27 : xOKs xsg xm_80 xk_80_0 xk_80_27 := ⟨xok_none, xq_80_28⟩
theorem xq_80_26 : xOKs xsg xm_80 xk_80_0 xk_80_26 := ⟨xok_none, xq_80_27⟩
theorem xq_80_25 : xOKs xsg xm_80 xk_80_0 xk_80_25 := ⟨xok_none, xq_80_26⟩
theorem xq_80_24 : xOKs xsg xm_80 xk_80_0 xk_80_24 := ⟨xok_br (tgt := 60) (xb_eq (by decide +kernel : decode xm_80.2.1 46 = .ok (.ifCond .eq 14, 3)) (by decide)) (by decide +kernel) rfl, xq_80_25⟩
theorem xq_80_23 : xOKs xsg xm_80 xk_80_0 xk_80_23 := ⟨xok_get (by decide +kernel : decode xm_80.2.1 43 = .ok (.getfield 594, 3)) (rfl : vwCl[12]? = some (RX12, TX12, 125)) inX12 (by decide) (xT_c6 149 rfl rfl) rfl, xq_80_24⟩
theorem xq_80_22 : xOKs xsg xm_80 xk_80_0 xk_80_22 := ⟨xok_ld (xl_aload_n (by decide +kernel : decode xm_80.2.1 42 = .ok (.aload_n 0, 1))) rfl, xq_80_23⟩
theorem xq_80_21 : xOKs xsg xm_80 xk_80_0 xk_80_21 := ⟨xok_none, xq_80_22⟩
theorem xq_80_20 : xOKs xsg xm_80 xk_80_0 xk_80_20 := ⟨xok_none, xq_80_21⟩
theorem xq_80_19 : xOKs xsg xm_80 xk_80_0 xk_80_19 := ⟨xok_none, xq_80_20⟩
theorem xq_80_18 : xOKs xsg xm_80 xk_80_0 xk_80_18 := ⟨xok_none, xq_80_19⟩
theorem xq_80_17 : xOKs xsg xm_80 xk_80_0 xk_80_17 := ⟨xok_none, xq_80_18⟩
theorem xq_80_16 : xOKs xsg xm_80 xk_80_0 xk_80_16 := ⟨xok_none, xq_80_17⟩
theorem xq_80_15 : xOKs xsg xm_80 xk_80_0 xk_80_15 := ⟨xok_none, xq_80_16⟩
theorem xq_80_14 : xOKs xsg xm_80 xk_80_0 xk_80_14 := ⟨xok_none, xq_80_15⟩
theorem xq_80_13 : xOKs xsg xm_80 xk_80_0 xk_80_13 := ⟨xok_none, xq_80_14⟩
theorem xq_80_12 : xOKs xsg xm_80 xk_80_0 xk_80_12 := ⟨xok_none, xq_80_13⟩
theorem xq_80_11 : xOKs xsg xm_80 xk_80_0 xk_80_11 := ⟨xok_none, xq_80_12⟩
theorem xq_80_10 : xOKs xsg xm_80 xk_80_0 xk_80_10 := ⟨xok_br (tgt := 42) (xb_ne (by decide +kernel : decode xm_80.2.1 18 = .ok (.ifCond .ne 24, 3)) (by decide)) (by decide +kernel) rfl, xq_80_11⟩
theorem xq_80_9 : xOKs xsg xm_80 xk_80_0 xk_80_9 := ⟨xok_get (by decide +kernel : decode xm_80.2.1 15 = .ok (.getfield 300, 3)) (rfl : vwCl[12]? = some (RX12, TX12, 125)) inX12 (by decide) (xT_c6 69 rfl rfl) rfl, xq_80_10⟩
theorem xq_80_8 : xOKs xsg xm_80 xk_80_0 xk_80_8 := ⟨xok_ld (xl_aload_n (by decide +kernel : decode xm_80.2.1 14 = .ok (.aload_n 0, 1))) rfl, xq_80_9⟩
theorem xq_80_7 : xOKs xsg xm_80 xk_80_0 xk_80_7 := ⟨xok_st (xs_istore_n (by decide +kernel : decode xm_80.2.1 13 = .ok (.istore_n 1, 1)) (by decide)) rfl, xq_80_8⟩
theorem xq_80_6 : xOKs xsg xm_80 xk_80_0 xk_80_6 := ⟨xok_callV (M' := xm_72) rfl (rfl : vwCl[12]? = some (RX12, TX12, 125)) (by decide +kernel : decode xm_80.2.1 10 = .ok (.invokevirtual 610, 3)) xn_72 (xT_c9 43 rfl rfl) (xT_c0 140 rfl rfl) (xT_c9 41 rfl rfl) rfl, xq_80_7⟩
theorem xq_80_5 : xOKs xsg xm_80 xk_80_0 xk_80_5 := ⟨xok_ld (xl_aload_n (by decide +kernel : decode xm_80.2.1 9 = .ok (.aload_n 0, 1))) rfl, xq_80_6⟩
theorem xq_80_4 : xOKs xsg xm_80 xk_80_0 xk_80_4 := ⟨xok_callV (M' := xm_73) rfl (rfl : vwCl[12]? = some (RX12, TX12, 125)) (by decide +kernel : decode xm_80.2.1 6 = .ok (.invokevirtual 607, 3)) xn_73 (xT_c9 39 rfl rfl) (xT_c0 139 rfl rfl) (xT_c9 37 rfl rfl) rfl, xq_80_5⟩
theorem xq_80_3 : xOKs xsg xm_80 xk_80_0 xk_80_3 := ⟨xok_ld (xl_aload_n (by decide +kernel : decode xm_80.2.1 5 = .ok (.aload_n 0, 1))) rfl, xq_80_4⟩
theorem xq_80_2 : xOKs xsg xm_80 xk_80_0 xk_80_2 := ⟨xok_put (by decide +kernel : decode xm_80.2.1 2 = .ok (.putfield 252, 3)) (rfl : vwCl[12]? = some (RX12, TX12, 125)) inX12 tyX12_ok nmX12 (k := 0) (by decide) rfl (xT_c6 61 rfl rfl) rfl, xq_80_3⟩
theorem xq_80_1 : xOKs xsg xm_80 xk_80_0 xk_80_1 := ⟨xok_p (xp_iconst (v := 0) (by decide +kernel : decode xm_80.2.1 1 = .ok (.iconst 0, 1)) (by decide)) rfl, xq_80_2⟩
theorem xq_80_0 : xOKs xsg xm_80 xk_80_0 xk_80_0 := ⟨xok_ld (xl_aload_n (by decide +kernel : decode xm_80.2.1 0 = .ok (.aload_n 0, 1))) rfl, xq_80_1⟩
theorem xz_80 : xwf xsg xm_80 xk_80_0 := ⟨xq_80_0, rfl, by decide⟩
/-! FeatherBenchModel.print(I)I -/
theorem xq_81_19 : xOKs xsg xm_81 xk_81_0 xk_81_19 := trivial
theorem xq_81_18 : xOKs xsg xm_81 xk_81_0 xk_81_18 := ⟨xok_retI (by decide +kernel : decode xm_81.2.1 34 = .ok (.ireturn, 1)) rfl, xq_81_19⟩
theorem xq_81_17 : xOKs xsg xm_81 xk_81_0 xk_81_17 := ⟨xok_p (xp_iconst (v := -1) (by decide +kernel : decode xm_81.2.1 33 = .ok (.iconst (-1), 1)) (by decide)) rfl, xq_81_18⟩
theorem xq_81_16 : xOKs xsg xm_81 xk_81_0 xk_81_16 := ⟨xok_none, xq_81_17⟩
theorem xq_81_15 : xOKs xsg xm_81 xk_81_0 xk_81_15 := ⟨xok_none, xq_81_16⟩
theorem xq_81_14 : xOKs xsg xm_81 xk_81_0 xk_81_14 := ⟨xok_none, xq_81_15⟩
theorem xq_81_13 : xOKs xsg xm_81 xk_81_0 xk_81_13 := ⟨xok_none, xq_81_14⟩
theorem xq_81_12 : xOKs xsg xm_81 xk_81_0 xk_81_12 := ⟨xok_none, xq_81_13⟩
theorem xq_81_11 : xOKs xsg xm_81 xk_81_0 xk_81_11 := ⟨xok_none, xq_81_12⟩
theorem xq_81_10 : xOKs xsg xm_81 xk_81_0 xk_81_10 := ⟨xok_none, xq_81_11⟩
theorem xq_81_9 : xOKs xsg xm_81 xk_81_0 xk_81_9 := ⟨xok_none, xq_81_10⟩
theorem xq_81_8 : xOKs xsg xm_81 xk_81_0 xk_81_8 := ⟨xok_none, xq_81_9⟩
theorem xq_81_7 : xOKs xsg xm_81 xk_81_0 xk_81_7 := ⟨xok_none, xq_81_8⟩
theorem xq_81_6 : xOKs xsg xm_81 xk_81_0 xk_81_6 := ⟨xok_none, xq_81_7⟩
theorem xq_81_5 : xOKs xsg xm_81 xk_81_0 xk_81_5 := ⟨xok_br (tgt := 33) (xb_eq (by decide +kernel : decode xm_81.2.1 9 = .ok (.ifCond .eq 24, 3)) (by decide)) (by decide +kernel) rfl, xq_81_6⟩
theorem xq_81_4 : xOKs xsg xm_81 xk_81_0 xk_81_4 := ⟨xok_get (by decide +kernel : decode xm_81.2.1 6 = .ok (.getfield 594, 3)) (rfl : vwCl[12]? = some (RX12, TX12, 125)) inX12 (by decide) (xT_c6 149 rfl rfl) rfl, xq_81_5⟩
theorem xq_81_3 : xOKs xsg xm_81 xk_81_0 xk_81_3 := ⟨xok_ld (xl_aload_n (by decide +kernel : decode xm_81.2.1 5 = .ok (.aload_n 0, 1))) rfl, xq_81_4⟩
theorem xq_81_2 : xOKs xsg xm_81 xk_81_0 xk_81_2 := ⟨xok_put (by decide +kernel : decode xm_81.2.1 2 = .ok (.putfield 252, 3)) (rfl : vwCl[12]? = some (RX12, TX12, 125)) inX12 tyX12_ok nmX12 (k := 0) (by decide) rfl (xT_c6 61 rfl rfl) rfl, xq_81_3⟩
theorem xq_81_1 : xOKs xsg xm_81 xk_81_0 xk_81_1 := ⟨xok_p (xp_iconst (v := 0) (by decide +kernel : decode xm_81.2.1 1 = .ok (.iconst 0, 1)) (by decide)) rfl, xq_81_2⟩
theorem xq_81_0 : xOKs xsg xm_81 xk_81_0 xk_81_0 := ⟨xok_ld (xl_aload_n (by decide +kernel : decode xm_81.2.1 0 = .ok (.aload_n 0, 1))) rfl, xq_81_1⟩
theorem xz_81 : xwf xsg xm_81 xk_81_0 := ⟨xq_81_0, rfl, by decide⟩
/-! FeatherBenchModel.out(I)I -/
theorem xq_82_16 : xOKs xsg xm_82 xk_82_0 xk_82_16 := trivial
theorem xq_82_15 : xOKs xsg xm_82 xk_82_0 xk_82_15 := ⟨xok_retI (by decide +kernel : decode xm_82.2.1 27 = .ok (.ireturn, 1)) rfl, xq_82_16⟩
theorem xq_82_14 : xOKs xsg xm_82 xk_82_0 xk_82_14 := ⟨xok_none, xq_82_15⟩
theorem xq_82_13 : xOKs xsg xm_82 xk_82_0 xk_82_13 := ⟨xok_none, xq_82_14⟩
theorem xq_82_12 : xOKs xsg xm_82 xk_82_0 xk_82_12 := ⟨xok_none, xq_82_13⟩
theorem xq_82_11 : xOKs xsg xm_82 xk_82_0 xk_82_11 := ⟨xok_none, xq_82_12⟩
theorem xq_82_10 : xOKs xsg xm_82 xk_82_0 xk_82_10 := ⟨xok_br (tgt := 27) (xb_go (by decide +kernel : decode xm_82.2.1 18 = .ok (.goto 9, 3)) (by decide)) (by decide +kernel) rfl, xq_82_11⟩
theorem xq_82_9 : xOKs xsg xm_82 xk_82_0 xk_82_9 := ⟨xok_p (xp_iconst (v := -1) (by decide +kernel : decode xm_82.2.1 17 = .ok (.iconst (-1), 1)) (by decide)) rfl, xq_82_10⟩
theorem xq_82_8 : xOKs xsg xm_82 xk_82_0 xk_82_8 := ⟨xok_br (tgt := 21) (xb_ilt (by decide +kernel : decode xm_82.2.1 14 = .ok (.if_icmp .lt 7, 3)) (by decide)) (by decide +kernel) rfl, xq_82_9⟩
theorem xq_82_7 : xOKs xsg xm_82 xk_82_0 xk_82_7 := ⟨xok_get (by decide +kernel : decode xm_82.2.1 11 = .ok (.getfield 710, 3)) (rfl : vwCl[12]? = some (RX12, TX12, 125)) inX12 (by decide) (xT_c6 179 rfl rfl) rfl, xq_82_8⟩
theorem xq_82_6 : xOKs xsg xm_82 xk_82_0 xk_82_6 := ⟨xok_ld (xl_aload_n (by decide +kernel : decode xm_82.2.1 10 = .ok (.aload_n 0, 1))) rfl, xq_82_7⟩
theorem xq_82_5 : xOKs xsg xm_82 xk_82_0 xk_82_5 := ⟨xok_ld (xl_iload_n (by decide +kernel : decode xm_82.2.1 9 = .ok (.iload_n 1, 1))) rfl, xq_82_6⟩
theorem xq_82_4 : xOKs xsg xm_82 xk_82_0 xk_82_4 := ⟨xok_br (tgt := 17) (xb_lt (by decide +kernel : decode xm_82.2.1 6 = .ok (.ifCond .lt 11, 3)) (by decide)) (by decide +kernel) rfl, xq_82_5⟩
theorem xq_82_3 : xOKs xsg xm_82 xk_82_0 xk_82_3 := ⟨xok_ld (xl_iload_n (by decide +kernel : decode xm_82.2.1 5 = .ok (.iload_n 1, 1))) rfl, xq_82_4⟩
theorem xq_82_2 : xOKs xsg xm_82 xk_82_0 xk_82_2 := ⟨xok_put (by decide +kernel : decode xm_82.2.1 2 = .ok (.putfield 252, 3)) (rfl : vwCl[12]? = some (RX12, TX12, 125)) inX12 tyX12_ok nmX12 (k := 0) (by decide) rfl (xT_c6 61 rfl rfl) rfl, xq_82_3⟩
theorem xq_82_1 : xOKs xsg xm_82 xk_82_0 xk_82_1 := ⟨xok_p (xp_iconst (v := 0) (by decide +kernel : decode xm_82.2.1 1 = .ok (.iconst 0, 1)) (by decide)) rfl, xq_82_2⟩
theorem xq_82_0 : xOKs xsg xm_82 xk_82_0 xk_82_0 := ⟨xok_ld (xl_aload_n (by decide +kernel : decode xm_82.2.1 0 = .ok (.aload_n 0, 1))) rfl, xq_82_1⟩
theorem xz_82 : xwf xsg xm_82 xk_82_0 := ⟨xq_82_0, rfl, by decide⟩
/-! FeatherBenchModel.count(I)I -/
theorem xq_83_35 : xOKs xsg xm_83 xk_83_0 xk_83_35 := trivial
theorem xq_83_34 : xOKs xsg xm_83 xk_83_0 xk_83_34 := ⟨xok_retI (by decide +kernel : decode xm_83.2.1 93 = .ok (.ireturn, 1)) rfl, xq_83_35⟩
theorem xq_83_33 : xOKs xsg xm_83 xk_83_0 xk_83_33 := ⟨xok_p (xp_iconst (v := -1) (by decide +kernel : decode xm_83.2.1 92 = .ok (.iconst (-1), 1)) (by decide)) rfl, xq_83_34⟩
theorem xq_83_32 : xOKs xsg xm_83 xk_83_0 xk_83_32 := ⟨xok_retI (by decide +kernel : decode xm_83.2.1 91 = .ok (.ireturn, 1)) rfl, xq_83_33⟩
theorem xq_83_31 : xOKs xsg xm_83 xk_83_0 xk_83_31 := ⟨xok_p (xp_iconst (v := 0) (by decide +kernel : decode xm_83.2.1 90 = .ok (.iconst 0, 1)) (by decide)) rfl, xq_83_32⟩
theorem xq_83_30 : xOKs xsg xm_83 xk_83_0 xk_83_30 := ⟨xok_none, xq_83_31⟩
theorem xq_83_29 : xOKs xsg xm_83 xk_83_0 xk_83_29 := ⟨xok_none, xq_83_30⟩
theorem xq_83_28 : xOKs xsg xm_83 xk_83_0 xk_83_28 := ⟨xok_br (tgt := 90) (xb_eq (by decide +kernel : decode xm_83.2.1 83 = .ok (.ifCond .eq 7, 3)) (by decide)) (by decide +kernel) rfl, xq_83_29⟩
theorem xq_83_27 : xOKs xsg xm_83 xk_83_0 xk_83_27 := ⟨xok_get (by decide +kernel : decode xm_83.2.1 80 = .ok (.getfield 594, 3)) (rfl : vwCl[12]? = some (RX12, TX12, 125)) inX12 (by decide) (xT_c6 149 rfl rfl) rfl, xq_83_28⟩
theorem xq_83_26 : xOKs xsg xm_83 xk_83_0 xk_83_26 := ⟨xok_ld (xl_aload_n (by decide +kernel : decode xm_83.2.1 79 = .ok (.aload_n 0, 1))) rfl, xq_83_27⟩
theorem xq_83_25 : xOKs xsg xm_83 xk_83_0 xk_83_25 := ⟨xok_retI (by decide +kernel : decode xm_83.2.1 78 = .ok (.ireturn, 1)) rfl, xq_83_26⟩
theorem xq_83_24 : xOKs xsg xm_83 xk_83_0 xk_83_24 := ⟨xok_get (by decide +kernel : decode xm_83.2.1 75 = .ok (.getfield 259, 3)) (rfl : vwCl[12]? = some (RX12, TX12, 125)) inX12 (by decide) (xT_c6 63 rfl rfl) rfl, xq_83_25⟩
theorem xq_83_23 : xOKs xsg xm_83 xk_83_0 xk_83_23 := ⟨xok_ld (xl_aload_n (by decide +kernel : decode xm_83.2.1 74 = .ok (.aload_n 0, 1))) rfl, xq_83_24⟩
theorem xq_83_22 : xOKs xsg xm_83 xk_83_0 xk_83_22 := ⟨xok_retI (by decide +kernel : decode xm_83.2.1 73 = .ok (.ireturn, 1)) rfl, xq_83_23⟩
theorem xq_83_21 : xOKs xsg xm_83 xk_83_0 xk_83_21 := ⟨xok_get (by decide +kernel : decode xm_83.2.1 70 = .ok (.getfield 601, 3)) (rfl : vwCl[12]? = some (RX12, TX12, 125)) inX12 (by decide) (xT_c6 154 rfl rfl) rfl, xq_83_22⟩
theorem xq_83_20 : xOKs xsg xm_83 xk_83_0 xk_83_20 := ⟨xok_ld (xl_aload_n (by decide +kernel : decode xm_83.2.1 69 = .ok (.aload_n 0, 1))) rfl, xq_83_21⟩
theorem xq_83_19 : xOKs xsg xm_83 xk_83_0 xk_83_19 := ⟨xok_retI (by decide +kernel : decode xm_83.2.1 68 = .ok (.ireturn, 1)) rfl, xq_83_20⟩
theorem xq_83_18 : xOKs xsg xm_83 xk_83_0 xk_83_18 := ⟨xok_get (by decide +kernel : decode xm_83.2.1 65 = .ok (.getfield 619, 3)) (rfl : vwCl[12]? = some (RX12, TX12, 125)) inX12 (by decide) (xT_c6 153 rfl rfl) rfl, xq_83_19⟩
theorem xq_83_17 : xOKs xsg xm_83 xk_83_0 xk_83_17 := ⟨xok_ld (xl_aload_n (by decide +kernel : decode xm_83.2.1 64 = .ok (.aload_n 0, 1))) rfl, xq_83_18⟩
theorem xq_83_16 : xOKs xsg xm_83 xk_83_0 xk_83_16 := ⟨xok_retI (by decide +kernel : decode xm_83.2.1 63 = .ok (.ireturn, 1)) rfl, xq_83_17⟩
theorem xq_83_15 : xOKs xsg xm_83 xk_83_0 xk_83_15 := ⟨xok_ial (by decide +kernel : decode xm_83.2.1 62 = .ok (.iaload, 1)) rfl, xq_83_16⟩
theorem xq_83_14 : xOKs xsg xm_83 xk_83_0 xk_83_14 := ⟨xok_get (by decide +kernel : decode xm_83.2.1 59 = .ok (.getfield 481, 3)) (rfl : vwCl[12]? = some (RX12, TX12, 125)) inX12 (by decide) (xT_c6 90 rfl rfl) rfl, xq_83_15⟩
theorem xq_83_13 : xOKs xsg xm_83 xk_83_0 xk_83_13 := ⟨xok_ld (xl_aload_n (by decide +kernel : decode xm_83.2.1 58 = .ok (.aload_n 0, 1))) rfl, xq_83_14⟩
theorem xq_83_12 : xOKs xsg xm_83 xk_83_0 xk_83_12 := ⟨xok_get (by decide +kernel : decode xm_83.2.1 55 = .ok (.getfield 132, 3)) (rfl : vwCl[12]? = some (RX12, TX12, 125)) inX12 (by decide) (xT_c6 112 rfl rfl) rfl, xq_83_13⟩
theorem xq_83_11 : xOKs xsg xm_83 xk_83_0 xk_83_11 := ⟨xok_ld (xl_aload_n (by decide +kernel : decode xm_83.2.1 54 = .ok (.aload_n 0, 1))) rfl, xq_83_12⟩
theorem xq_83_10 : xOKs xsg xm_83 xk_83_0 xk_83_10 := ⟨xok_retI (by decide +kernel : decode xm_83.2.1 53 = .ok (.ireturn, 1)) rfl, xq_83_11⟩
theorem xq_83_9 : xOKs xsg xm_83 xk_83_0 xk_83_9 := ⟨xok_ial (by decide +kernel : decode xm_83.2.1 52 = .ok (.iaload, 1)) rfl, xq_83_10⟩
theorem xq_83_8 : xOKs xsg xm_83 xk_83_0 xk_83_8 := ⟨xok_get (by decide +kernel : decode xm_83.2.1 49 = .ok (.getfield 481, 3)) (rfl : vwCl[12]? = some (RX12, TX12, 125)) inX12 (by decide) (xT_c6 90 rfl rfl) rfl, xq_83_9⟩
theorem xq_83_7 : xOKs xsg xm_83 xk_83_0 xk_83_7 := ⟨xok_ld (xl_aload_n (by decide +kernel : decode xm_83.2.1 48 = .ok (.aload_n 0, 1))) rfl, xq_83_8⟩
theorem xq_83_6 : xOKs xsg xm_83 xk_83_0 xk_83_6 := ⟨xok_get (by decide +kernel : decode xm_83.2.1 45 = .ok (.getfield 74, 3)) (rfl : vwCl[12]? = some (RX12, TX12, 125)) inX12 (by decide) (xT_c6 92 rfl rfl) rfl, xq_83_7⟩
theorem xq_83_5 : xOKs xsg xm_83 xk_83_0 xk_83_5 := ⟨xok_ld (xl_aload_n (by decide +kernel : decode xm_83.2.1 44 = .ok (.aload_n 0, 1))) rfl, xq_83_6⟩
theorem xq_83_4 : xOKs xsg xm_83 xk_83_0 xk_83_4 := ⟨xok_sw (by decide +kernel : decode xm_83.2.1 6 = .ok (.tableswitch 86 0 5 #[38, 48, 58, 63, 68, 73], 38)) (by decide +kernel) (by decide +kernel), xq_83_5⟩
theorem xq_83_3 : xOKs xsg xm_83 xk_83_0 xk_83_3 := ⟨xok_ld (xl_iload_n (by decide +kernel : decode xm_83.2.1 5 = .ok (.iload_n 1, 1))) rfl, xq_83_4⟩
theorem xq_83_2 : xOKs xsg xm_83 xk_83_0 xk_83_2 := ⟨xok_put (by decide +kernel : decode xm_83.2.1 2 = .ok (.putfield 252, 3)) (rfl : vwCl[12]? = some (RX12, TX12, 125)) inX12 tyX12_ok nmX12 (k := 0) (by decide) rfl (xT_c6 61 rfl rfl) rfl, xq_83_3⟩
theorem xq_83_1 : xOKs xsg xm_83 xk_83_0 xk_83_1 := ⟨xok_p (xp_iconst (v := 0) (by decide +kernel : decode xm_83.2.1 1 = .ok (.iconst 0, 1)) (by decide)) rfl, xq_83_2⟩
theorem xq_83_0 : xOKs xsg xm_83 xk_83_0 xk_83_0 := ⟨xok_ld (xl_aload_n (by decide +kernel : decode xm_83.2.1 0 = .ok (.aload_n 0, 1))) rfl, xq_83_1⟩
theorem xz_83 : xwf xsg xm_83 xk_83_0 := ⟨xq_83_0, rfl, by decide⟩
