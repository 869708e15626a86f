/-! FeatherBenchModel.wrong(II)V -/
theorem xq_61_14 : xOKs xsg xm_61 xk_61_0 xk_61_14 := trivial
theorem xq_61_13 : xOKs xsg xm_61 xk_61_0 xk_61_13 := ⟨xok_ret0 (by decide +kernel : decode xm_61.2.1 22 = .ok (.return_, 1)) rfl, xq_61_14⟩
theorem xq_61_12 : xOKs xsg xm_61 xk_61_0 xk_61_12 := ⟨xok_put (by decide +kernel : decode xm_61.2.1 19 = .ok (.putfield 300, 3)) (rfl : vwCl[12]? = some (RX12, TX12, 125)) inX12 tyX12_ok nmX12 (k := 8) (by decide) rfl (xT_c6 69 rfl rfl) rfl, xq_61_13⟩
theorem xq_61_11 : xOKs xsg xm_61 xk_61_0 xk_61_11 := ⟨xok_p (xp_iadd (by decide +kernel : decode xm_61.2.1 18 = .ok (.iadd, 1))) rfl, xq_61_12⟩
theorem xq_61_10 : xOKs xsg xm_61 xk_61_0 xk_61_10 := ⟨xok_p (xp_imul (by decide +kernel : decode xm_61.2.1 17 = .ok (.imul, 1))) rfl, xq_61_11⟩
theorem xq_61_9 : xOKs xsg xm_61 xk_61_0 xk_61_9 := ⟨xok_ial (by decide +kernel : decode xm_61.2.1 16 = .ok (.iaload, 1)) rfl, xq_61_10⟩
theorem xq_61_8 : xOKs xsg xm_61 xk_61_0 xk_61_8 := ⟨xok_ld (xl_iload_n (by decide +kernel : decode xm_61.2.1 15 = .ok (.iload_n 2, 1))) rfl, xq_61_9⟩
theorem xq_61_7 : xOKs xsg xm_61 xk_61_0 xk_61_7 := ⟨xok_get (by decide +kernel : decode xm_61.2.1 12 = .ok (.getfield 16, 3)) (rfl : vwCl[12]? = some (RX12, TX12, 125)) inX12 (by decide) (xT_c6 66 rfl rfl) rfl, xq_61_8⟩
theorem xq_61_6 : xOKs xsg xm_61 xk_61_0 xk_61_6 := ⟨xok_ld (xl_aload_n (by decide +kernel : decode xm_61.2.1 11 = .ok (.aload_n 0, 1))) rfl, xq_61_7⟩
theorem xq_61_5 : xOKs xsg xm_61 xk_61_0 xk_61_5 := ⟨xok_p (xp_bipush (v := 16) (by decide +kernel : decode xm_61.2.1 9 = .ok (.bipush 16, 2)) (by decide)) rfl, xq_61_6⟩
theorem xq_61_4 : xOKs xsg xm_61 xk_61_0 xk_61_4 := ⟨xok_ld (xl_iload_n (by decide +kernel : decode xm_61.2.1 8 = .ok (.iload_n 1, 1))) rfl, xq_61_5⟩
theorem xq_61_3 : xOKs xsg xm_61 xk_61_0 xk_61_3 := ⟨xok_ld (xl_aload_n (by decide +kernel : decode xm_61.2.1 7 = .ok (.aload_n 0, 1))) rfl, xq_61_4⟩
theorem xq_61_2 : xOKs xsg xm_61 xk_61_0 xk_61_2 := ⟨xok_br (tgt := 22) (xb_ne (by decide +kernel : decode xm_61.2.1 4 = .ok (.ifCond .ne 18, 3)) (by decide)) (by decide +kernel) rfl, xq_61_3⟩
theorem xq_61_1 : xOKs xsg xm_61 xk_61_0 xk_61_1 := ⟨xok_get (by decide +kernel : decode xm_61.2.1 1 = .ok (.getfield 300, 3)) (rfl : vwCl[12]? = some (RX12, TX12, 125)) inX12 (by decide) (xT_c6 69 rfl rfl) rfl, xq_61_2⟩
theorem xq_61_0 : xOKs xsg xm_61 xk_61_0 xk_61_0 := ⟨xok_ld (xl_aload_n (by decide +kernel : decode xm_61.2.1 0 = .ok (.aload_n 0, 1))) rfl, xq_61_1⟩
theorem xz_61 : xwf xsg xm_61 xk_61_0 := ⟨xq_61_0, rfl, by decide⟩
/-! FeatherBenchModel.isSign(I)Z -/
theorem xq_62_21 : xOKs xsg xm_62 xk_62_0 xk_62_21 := trivial
theorem xq_62_20 : xOKs xsg xm_62 xk_62_0 xk_62_20 := ⟨xok_retZ (by decide +kernel : decode xm_62.2.1 38 = .ok (.ireturn, 1)) rfl, xq_62_21⟩
theorem xq_62_19 : xOKs xsg xm_62 xk_62_0 xk_62_19 := ⟨xok_p (xp_iconst (v := 0) (by decide +kernel : decode xm_62.2.1 37 = .ok (.iconst 0, 1)) (by decide)) rfl, xq_62_20⟩
theorem xq_62_18 : xOKs xsg xm_62 xk_62_0 xk_62_18 := ⟨xok_none, xq_62_19⟩
theorem xq_62_17 : xOKs xsg xm_62 xk_62_0 xk_62_17 := ⟨xok_none, xq_62_18⟩
theorem xq_62_16 : xOKs xsg xm_62 xk_62_0 xk_62_16 := ⟨xok_none, xq_62_17⟩
theorem xq_62_15 : xOKs xsg xm_62 xk_62_0 xk_62_15 := ⟨xok_none, xq_62_16⟩
theorem xq_62_14 : xOKs xsg xm_62 xk_62_0 xk_62_14 := ⟨xok_none, xq_62_15⟩
theorem xq_62_13 : xOKs xsg xm_62 xk_62_0 xk_62_13 := ⟨xok_none, xq_62_14⟩
theorem xq_62_12 : xOKs xsg xm_62 xk_62_0 xk_62_12 := ⟨xok_none, xq_62_13⟩
theorem xq_62_11 : xOKs xsg xm_62 xk_62_0 xk_62_11 := ⟨xok_none, xq_62_12⟩
theorem xq_62_10 : xOKs xsg xm_62 xk_62_0 xk_62_10 := ⟨xok_none, xq_62_11⟩
theorem xq_62_9 : xOKs xsg xm_62 xk_62_0 xk_62_9 := ⟨xok_none, xq_62_10⟩
theorem xq_62_8 : xOKs xsg xm_62 xk_62_0 xk_62_8 := ⟨xok_none, xq_62_9⟩
theorem xq_62_7 : xOKs xsg xm_62 xk_62_0 xk_62_7 := ⟨xok_none, xq_62_8⟩
theorem xq_62_6 : xOKs xsg xm_62 xk_62_0 xk_62_6 := ⟨xok_none, xq_62_7⟩
theorem xq_62_5 : xOKs xsg xm_62 xk_62_0 xk_62_5 := ⟨xok_none, xq_62_6⟩
theorem xq_62_4 : xOKs xsg xm_62 xk_62_0 xk_62_4 := ⟨xok_none, xq_62_5⟩
theorem xq_62_3 : xOKs xsg xm_62 xk_62_0 xk_62_3 := ⟨xok_none, xq_62_4⟩
theorem xq_62_2 : xOKs xsg xm_62 xk_62_0 xk_62_2 := ⟨xok_br (tgt := 37) (xb_ne (by decide +kernel : decode xm_62.2.1 4 = .ok (.ifCond .ne 33, 3)) (by decide)) (by decide +kernel) rfl, xq_62_3⟩
theorem xq_62_1 : xOKs xsg xm_62 xk_62_0 xk_62_1 := ⟨xok_get (by decide +kernel : decode xm_62.2.1 1 = .ok (.getfield 300, 3)) (rfl : vwCl[12]? = some (RX12, TX12, 125)) inX12 (by decide) (xT_c6 69 rfl rfl) rfl, xq_62_2⟩
theorem xq_62_0 : xOKs xsg xm_62 xk_62_0 xk_62_0 := ⟨xok_ld (xl_aload_n (by decide +kernel : decode xm_62.2.1 0 = .ok (.aload_n 0, 1))) rfl, xq_62_1⟩
theorem xz_62 : xwf xsg xm_62 xk_62_0 := ⟨xq_62_0, rfl, by decide⟩
/-! FeatherBenchModel.isWord(I)Z -/
theorem xq_63_21 : xOKs xsg xm_63 xk_63_0 xk_63_21 := trivial
theorem xq_63_20 : xOKs xsg xm_63 xk_63_0 xk_63_20 := ⟨xok_retZ (by decide +kernel : decode xm_63.2.1 38 = .ok (.ireturn, 1)) rfl, xq_63_21⟩
theorem xq_63_19 : xOKs xsg xm_63 xk_63_0 xk_63_19 := ⟨xok_p (xp_iconst (v := 0) (by decide +kernel : decode xm_63.2.1 37 = .ok (.iconst 0, 1)) (by decide)) rfl, xq_63_20⟩
theorem xq_63_18 : xOKs xsg xm_63 xk_63_0 xk_63_18 := ⟨xok_none, xq_63_19⟩
theorem xq_63_17 : xOKs xsg xm_63 xk_63_0 xk_63_17 := ⟨xok_none, xq_63_18⟩
theorem xq_63_16 : xOKs xsg xm_63 xk_63_0 xk_63_16 := ⟨xok_none, xq_63_17⟩
theorem xq_63_15 : xOKs xsg xm_63 xk_63_0 xk_63_15 := ⟨xok_none, xq_63_16⟩
theorem xq_63_14 : xOKs xsg xm_63 xk_63_0 xk_63_14 := ⟨xok_none, xq_63_15⟩
theorem xq_63_13 : xOKs xsg xm_63 xk_63_0 xk_63_13 := ⟨xok_none, xq_63_14⟩
theorem xq_63_12 : xOKs xsg xm_63 xk_63_0 xk_63_12 := ⟨xok_none, xq_63_13⟩
theorem xq_63_11 : xOKs xsg xm_63 xk_63_0 xk_63_11 := ⟨xok_none, xq_63_12⟩
theorem xq_63_10 : xOKs xsg xm_63 xk_63_0 xk_63_10 := ⟨xok_none, xq_63_11⟩
theorem xq_63_9 : xOKs xsg xm_63 xk_63_0 xk_63_9 := ⟨xok_br (tgt := 37) (xb_ine (by decide +kernel : decode xm_63.2.1 17 = .ok (.if_icmp .ne 20, 3)) (by decide)) (by decide +kernel) rfl, xq_63_10⟩
theorem xq_63_8 : xOKs xsg xm_63 xk_63_0 xk_63_8 := ⟨xok_p (xp_iconst (v := 1) (by decide +kernel : decode xm_63.2.1 16 = .ok (.iconst 1, 1)) (by decide)) rfl, xq_63_9⟩
theorem xq_63_7 : xOKs xsg xm_63 xk_63_0 xk_63_7 := ⟨xok_ial (by decide +kernel : decode xm_63.2.1 15 = .ok (.iaload, 1)) rfl, xq_63_8⟩
theorem xq_63_6 : xOKs xsg xm_63 xk_63_0 xk_63_6 := ⟨xok_get (by decide +kernel : decode xm_63.2.1 12 = .ok (.getfield 297, 3)) (rfl : vwCl[12]? = some (RX12, TX12, 125)) inX12 (by decide) (xT_c6 68 rfl rfl) rfl, xq_63_7⟩
theorem xq_63_5 : xOKs xsg xm_63 xk_63_0 xk_63_5 := ⟨xok_ld (xl_aload_n (by decide +kernel : decode xm_63.2.1 11 = .ok (.aload_n 0, 1))) rfl, xq_63_6⟩
theorem xq_63_4 : xOKs xsg xm_63 xk_63_0 xk_63_4 := ⟨xok_get (by decide +kernel : decode xm_63.2.1 8 = .ok (.getfield 13, 3)) (rfl : vwCl[12]? = some (RX12, TX12, 125)) inX12 (by decide) (xT_c6 65 rfl rfl) rfl, xq_63_5⟩
theorem xq_63_3 : xOKs xsg xm_63 xk_63_0 xk_63_3 := ⟨xok_ld (xl_aload_n (by decide +kernel : decode xm_63.2.1 7 = .ok (.aload_n 0, 1))) rfl, xq_63_4⟩
theorem xq_63_2 : xOKs xsg xm_63 xk_63_0 xk_63_2 := ⟨xok_br (tgt := 37) (xb_ne (by decide +kernel : decode xm_63.2.1 4 = .ok (.ifCond .ne 33, 3)) (by decide)) (by decide +kernel) rfl, xq_63_3⟩
theorem xq_63_1 : xOKs xsg xm_63 xk_63_0 xk_63_1 := ⟨xok_get (by decide +kernel : decode xm_63.2.1 1 = .ok (.getfield 300, 3)) (rfl : vwCl[12]? = some (RX12, TX12, 125)) inX12 (by decide) (xT_c6 69 rfl rfl) rfl, xq_63_2⟩
theorem xq_63_0 : xOKs xsg xm_63 xk_63_0 xk_63_0 := ⟨xok_ld (xl_aload_n (by decide +kernel : decode xm_63.2.1 0 = .ok (.aload_n 0, 1))) rfl, xq_63_1⟩
theorem xz_63 : xwf xsg xm_63 xk_63_0 := ⟨xq_63_0, rfl, by decide⟩
/-! FeatherBenchModel.isName()Z -/
theorem xq_64_21 : xOKs xsg xm_64 xk_64_0 xk_64_21 := trivial
theorem xq_64_20 : xOKs xsg xm_64 xk_64_0 xk_64_20 := ⟨xok_retZ (by decide +kernel : decode xm_64.2.1 38 = .ok (.ireturn, 1)) rfl, xq_64_21⟩
theorem xq_64_19 : xOKs xsg xm_64 xk_64_0 xk_64_19 := ⟨xok_p (xp_iconst (v := 0) (by decide +kernel : decode xm_64.2.1 37 = .ok (.iconst 0, 1)) (by decide)) rfl, xq_64_20⟩
theorem xq_64_18 : xOKs xsg xm_64 xk_64_0 xk_64_18 := ⟨xok_none, xq_64_19⟩
theorem xq_64_17 : xOKs xsg xm_64 xk_64_0 xk_64_17 := ⟨xok_none, xq_64_18⟩
theorem xq_64_16 : xOKs xsg xm_64 xk_64_0 xk_64_16 := ⟨xok_none, xq_64_17⟩
theorem xq_64_15 : xOKs xsg xm_64 xk_64_0 xk_64_15 := ⟨xok_none, xq_64_16⟩
theorem xq_64_14 : xOKs xsg xm_64 xk_64_0 xk_64_14 := ⟨xok_none, xq_64_15⟩
theorem xq_64_13 : xOKs xsg xm_64 xk_64_0 xk_64_13 := ⟨xok_none, xq_64_14⟩
theorem xq_64_12 : xOKs xsg xm_64 xk_64_0 xk_64_12 := ⟨xok_none, xq_64_13⟩
theorem xq_64_11 : xOKs xsg xm_64 xk_64_0 xk_64_11 := ⟨xok_none, xq_64_12⟩
theorem xq_64_10 : xOKs xsg xm_64 xk_64_0 xk_64_10 := ⟨xok_none, xq_64_11⟩
theorem xq_64_9 : xOKs xsg xm_64 xk_64_0 xk_64_9 := ⟨xok_br (tgt := 37) (xb_ine (by decide +kernel : decode xm_64.2.1 17 = .ok (.if_icmp .ne 20, 3)) (by decide)) (by decide +kernel) rfl, xq_64_10⟩
theorem xq_64_8 : xOKs xsg xm_64 xk_64_0 xk_64_8 := ⟨xok_p (xp_iconst (v := 1) (by decide +kernel : decode xm_64.2.1 16 = .ok (.iconst 1, 1)) (by decide)) rfl, xq_64_9⟩
theorem xq_64_7 : xOKs xsg xm_64 xk_64_0 xk_64_7 := ⟨xok_ial (by decide +kernel : decode xm_64.2.1 15 = .ok (.iaload, 1)) rfl, xq_64_8⟩
theorem xq_64_6 : xOKs xsg xm_64 xk_64_0 xk_64_6 := ⟨xok_get (by decide +kernel : decode xm_64.2.1 12 = .ok (.getfield 297, 3)) (rfl : vwCl[12]? = some (RX12, TX12, 125)) inX12 (by decide) (xT_c6 68 rfl rfl) rfl, xq_64_7⟩
theorem xq_64_5 : xOKs xsg xm_64 xk_64_0 xk_64_5 := ⟨xok_ld (xl_aload_n (by decide +kernel : decode xm_64.2.1 11 = .ok (.aload_n 0, 1))) rfl, xq_64_6⟩
theorem xq_64_4 : xOKs xsg xm_64 xk_64_0 xk_64_4 := ⟨xok_get (by decide +kernel : decode xm_64.2.1 8 = .ok (.getfield 13, 3)) (rfl : vwCl[12]? = some (RX12, TX12, 125)) inX12 (by decide) (xT_c6 65 rfl rfl) rfl, xq_64_5⟩
theorem xq_64_3 : xOKs xsg xm_64 xk_64_0 xk_64_3 := ⟨xok_ld (xl_aload_n (by decide +kernel : decode xm_64.2.1 7 = .ok (.aload_n 0, 1))) rfl, xq_64_4⟩
theorem xq_64_2 : xOKs xsg xm_64 xk_64_0 xk_64_2 := ⟨xok_br (tgt := 37) (xb_ne (by decide +kernel : decode xm_64.2.1 4 = .ok (.ifCond .ne 33, 3)) (by decide)) (by decide +kernel) rfl, xq_64_3⟩
theorem xq_64_1 : xOKs xsg xm_64 xk_64_0 xk_64_1 := ⟨xok_get (by decide +kernel : decode xm_64.2.1 1 = .ok (.getfield 300, 3)) (rfl : vwCl[12]? = some (RX12, TX12, 125)) inX12 (by decide) (xT_c6 69 rfl rfl) rfl, xq_64_2⟩
theorem xq_64_0 : xOKs xsg xm_64 xk_64_0 xk_64_0 := ⟨xok_ld (xl_aload_n (by decide +kernel : decode xm_64.2.1 0 = .ok (.aload_n 0, 1))) rfl, xq_64_1⟩
theorem xz_64 : xwf xsg xm_64 xk_64_0 := ⟨xq_64_0, rfl, by decide⟩
/-! FeatherBenchModel.takeSign(I)V -/
theorem xq_65_17 : xOKs xsg xm_65 xk_65_0 xk_65_17 := trivial
theorem xq_65_16 : xOKs xsg xm_65 xk_65_0 xk_65_16 := ⟨xok_ret0 (by decide +kernel : decode xm_65.2.1 30 = .ok (.return_, 1)) rfl, xq_65_17⟩
theorem xq_65_15 : xOKs xsg xm_65 xk_65_0 xk_65_15 := ⟨xok_callV (M' := xm_61) rfl (rfl : vwCl[12]? = some (RX12, TX12, 125)) (by decide +kernel : decode xm_65.2.1 27 = .ok (.invokevirtual 306, 3)) xn_61 (xT_c8 10 rfl rfl) (xT_c0 74 rfl rfl) (xT_c8 8 rfl rfl) rfl, xq_65_16⟩
theorem xq_65_14 : xOKs xsg xm_65 xk_65_0 xk_65_14 := ⟨xok_get (by decide +kernel : decode xm_65.2.1 24 = .ok (.getfield 297, 3)) (rfl : vwCl[12]? = some (RX12, TX12, 125)) inX12 (by decide) (xT_c6 68 rfl rfl) rfl, xq_65_15⟩
theorem xq_65_13 : xOKs xsg xm_65 xk_65_0 xk_65_13 := ⟨xok_ld (xl_aload_n (by decide +kernel : decode xm_65.2.1 23 = .ok (.aload_n 0, 1))) rfl, xq_65_14⟩
theorem xq_65_12 : xOKs xsg xm_65 xk_65_0 xk_65_12 := ⟨xok_p (xp_iconst (v := 1) (by decide +kernel : decode xm_65.2.1 22 = .ok (.iconst 1, 1)) (by decide)) rfl, xq_65_13⟩
theorem xq_65_11 : xOKs xsg xm_65 xk_65_0 xk_65_11 := ⟨xok_ld (xl_aload_n (by decide +kernel : decode xm_65.2.1 21 = .ok (.aload_n 0, 1))) rfl, xq_65_12⟩
theorem xq_65_10 : xOKs xsg xm_65 xk_65_0 xk_65_10 := ⟨xok_none, xq_65_11⟩
theorem xq_65_9 : xOKs xsg xm_65 xk_65_0 xk_65_9 := ⟨xok_none, xq_65_10⟩
theorem xq_65_8 : xOKs xsg xm_65 xk_65_0 xk_65_8 := ⟨xok_none, xq_65_9⟩
theorem xq_65_7 : xOKs xsg xm_65 xk_65_0 xk_65_7 := ⟨xok_none, xq_65_8⟩
theorem xq_65_6 : xOKs xsg xm_65 xk_65_0 xk_65_6 := ⟨xok_none, xq_65_7⟩
theorem xq_65_5 : xOKs xsg xm_65 xk_65_0 xk_65_5 := ⟨xok_none, xq_65_6⟩
theorem xq_65_4 : xOKs xsg xm_65 xk_65_0 xk_65_4 := ⟨xok_none, xq_65_5⟩
theorem xq_65_3 : xOKs xsg xm_65 xk_65_0 xk_65_3 := ⟨xok_br (tgt := 21) (xb_eq (by decide +kernel : decode xm_65.2.1 5 = .ok (.ifCond .eq 16, 3)) (by decide)) (by decide +kernel) rfl, xq_65_4⟩
theorem xq_65_2 : xOKs xsg xm_65 xk_65_0 xk_65_2 := ⟨xok_callV (M' := xm_62) rfl (rfl : vwCl[12]? = some (RX12, TX12, 125)) (by decide +kernel : decode xm_65.2.1 2 = .ok (.invokevirtual 303, 3)) xn_62 (xT_c8 22 rfl rfl) (xT_c0 77 rfl rfl) (xT_c8 20 rfl rfl) rfl, xq_65_3⟩
theorem xq_65_1 : xOKs xsg xm_65 xk_65_0 xk_65_1 := ⟨xok_ld (xl_iload_n (by decide +kernel : decode xm_65.2.1 1 = .ok (.iload_n 1, 1))) rfl, xq_65_2⟩
theorem xq_65_0 : xOKs xsg xm_65 xk_65_0 xk_65_0 := ⟨xok_ld (xl_aload_n (by decide +kernel : decode xm_65.2.1 0 = .ok (.aload_n 0, 1))) rfl, xq_65_1⟩
theorem xz_65 : xwf xsg xm_65 xk_65_0 := ⟨xq_65_0, rfl, by decide⟩
/-! FeatherBenchModel.takeWord(I)V -/
theorem xq_66_17 : xOKs xsg xm_66 xk_66_0 xk_66_17 := trivial
theorem xq_66_16 : xOKs xsg xm_66 xk_66_0 xk_66_16 := ⟨xok_ret0 (by decide +kernel : decode xm_66.2.1 30 = .ok (.return_, 1)) rfl, xq_66_17⟩
theorem xq_66_15 : xOKs xsg xm_66 xk_66_0 xk_66_15 := ⟨xok_callV (M' := xm_61) rfl (rfl : vwCl[12]? = some (RX12, TX12, 125)) (by decide +kernel : decode xm_66.2.1 27 = .ok (.invokevirtual 306, 3)) xn_61 (xT_c8 10 rfl rfl) (xT_c0 74 rfl rfl) (xT_c8 8 rfl rfl) rfl, xq_66_16⟩
theorem xq_66_14 : xOKs xsg xm_66 xk_66_0 xk_66_14 := ⟨xok_get (by decide +kernel : decode xm_66.2.1 24 = .ok (.getfield 297, 3)) (rfl : vwCl[12]? = some (RX12, TX12, 125)) inX12 (by decide) (xT_c6 68 rfl rfl) rfl, xq_66_15⟩
theorem xq_66_13 : xOKs xsg xm_66 xk_66_0 xk_66_13 := ⟨xok_ld (xl_aload_n (by decide +kernel : decode xm_66.2.1 23 = .ok (.aload_n 0, 1))) rfl, xq_66_14⟩
theorem xq_66_12 : xOKs xsg xm_66 xk_66_0 xk_66_12 := ⟨xok_p (xp_iconst (v := 1) (by decide +kernel : decode xm_66.2.1 22 = .ok (.iconst 1, 1)) (by decide)) rfl, xq_66_13⟩
theorem xq_66_11 : xOKs xsg xm_66 xk_66_0 xk_66_11 := ⟨xok_ld (xl_aload_n (by decide +kernel : decode xm_66.2.1 21 = .ok (.aload_n 0, 1))) rfl, xq_66_12⟩
theorem xq_66_10 : xOKs xsg xm_66 xk_66_0 xk_66_10 := ⟨xok_none, xq_66_11⟩
theorem xq_66_9 : xOKs xsg xm_66 xk_66_0 xk_66_9 := ⟨xok_none, xq_66_10⟩
theorem xq_66_8 : xOKs xsg xm_66 xk_66_0 xk_66_8 := ⟨xok_none, xq_66_9⟩
theorem xq_66_7 : xOKs xsg xm_66 xk_66_0 xk_66_7 := ⟨xok_none, xq_66_8⟩
theorem xq_66_6 : xOKs xsg xm_66 xk_66_0 xk_66_6 := ⟨xok_none, xq_66_7⟩
theorem xq_66_5 : xOKs xsg xm_66 xk_66_0 xk_66_5 := ⟨xok_none, xq_66_6⟩
theorem xq_66_4 : xOKs xsg xm_66 xk_66_0 xk_66_4 := ⟨xok_none, xq_66_5⟩
theorem xq_66_3 : xOKs xsg xm_66 xk_66_0 xk_66_3 := ⟨xok_br (tgt := 21) (xb_eq (by decide +kernel : decode xm_66.2.1 5 = .ok (.ifCond .eq 16, 3)) (by decide)) (by decide +kernel) rfl, xq_66_4⟩
theorem xq_66_2 : xOKs xsg xm_66 xk_66_0 xk_66_2 := ⟨xok_callV (M' := xm_63) rfl (rfl : vwCl[12]? = some (RX12, TX12, 125)) (by decide +kernel : decode xm_66.2.1 2 = .ok (.invokevirtual 310, 3)) xn_63 (xT_c8 2 rfl rfl) (xT_c0 72 rfl rfl) (xT_c8 0 rfl rfl) rfl, xq_66_3⟩
theorem xq_66_1 : xOKs xsg xm_66 xk_66_0 xk_66_1 := ⟨xok_ld (xl_iload_n (by decide +kernel : decode xm_66.2.1 1 = .ok (.iload_n 1, 1))) rfl, xq_66_2⟩
theorem xq_66_0 : xOKs xsg xm_66 xk_66_0 xk_66_0 := ⟨xok_ld (xl_aload_n (by decide +kernel : decode xm_66.2.1 0 = .ok (.aload_n 0, 1))) rfl, xq_66_1⟩
theorem xz_66 : xwf xsg xm_66 xk_66_0 := ⟨xq_66_0, rfl, by decide⟩
/-! FeatherBenchModel.node(I)I -/
theorem xq_67_66 : xOKs xsg xm_67 xk_67_0 xk_67_66 := trivial
theorem xq_67_65 : xOKs xsg xm_67 xk_67_0 xk_67_65 := ⟨xok_retI (by decide +kernel : decode xm_67.2.1 109 = .ok (.ireturn, 1)) rfl, xq_67_66⟩
theorem xq_67_64 : xOKs xsg xm_67 xk_67_0 xk_67_64 := ⟨xok_p (xp_isub (by decide +kernel : decode xm_67.2.1 108 = .ok (.isub, 1))) rfl, xq_67_65⟩
theorem xq_67_63 : xOKs xsg xm_67 xk_67_0 xk_67_63 := ⟨xok_p (xp_iconst (v := 1) (by decide +kernel : decode xm_67.2.1 107 = .ok (.iconst 1, 1)) (by decide)) rfl, xq_67_64⟩
theorem xq_67_62 : xOKs xsg xm_67 xk_67_0 xk_67_62 := ⟨xok_get (by decide +kernel : decode xm_67.2.1 104 = .ok (.getfield 317, 3)) (rfl : vwCl[12]? = some (RX12, TX12, 125)) inX12 (by decide) (xT_c6 87 rfl rfl) rfl, xq_67_63⟩
theorem xq_67_61 : xOKs xsg xm_67 xk_67_0 xk_67_61 := ⟨xok_ld (xl_aload_n (by decide +kernel : decode xm_67.2.1 103 = .ok (.aload_n 0, 1))) rfl, xq_67_62⟩
theorem xq_67_60 : xOKs xsg xm_67 xk_67_0 xk_67_60 := ⟨xok_put (by decide +kernel : decode xm_67.2.1 100 = .ok (.putfield 317, 3)) (rfl : vwCl[12]? = some (RX12, TX12, 125)) inX12 tyX12_ok nmX12 (k := 26) (by decide) rfl (xT_c6 87 rfl rfl) rfl, xq_67_61⟩
theorem xq_67_59 : xOKs xsg xm_67 xk_67_0 xk_67_59 := ⟨xok_p (xp_iadd (by decide +kernel : decode xm_67.2.1 99 = .ok (.iadd, 1))) rfl, xq_67_60⟩
theorem xq_67_58 : xOKs xsg xm_67 xk_67_0 xk_67_58 := ⟨xok_p (xp_iconst (v := 1) (by decide +kernel : decode xm_67.2.1 98 = .ok (.iconst 1, 1)) (by decide)) rfl, xq_67_59⟩
theorem xq_67_57 : xOKs xsg xm_67 xk_67_0 xk_67_57 := ⟨xok_get (by decide +kernel : decode xm_67.2.1 95 = .ok (.getfield 317, 3)) (rfl : vwCl[12]? = some (RX12, TX12, 125)) inX12 (by decide) (xT_c6 87 rfl rfl) rfl, xq_67_58⟩
theorem xq_67_56 : xOKs xsg xm_67 xk_67_0 xk_67_56 := ⟨xok_p (xp_dup (by decide +kernel : decode xm_67.2.1 94 = .ok (.dup, 1))) rfl, xq_67_57⟩
theorem xq_67_55 : xOKs xsg xm_67 xk_67_0 xk_67_55 := ⟨xok_ld (xl_aload_n (by decide +kernel : decode xm_67.2.1 93 = .ok (.aload_n 0, 1))) rfl, xq_67_56⟩
theorem xq_67_54 : xOKs xsg xm_67 xk_67_0 xk_67_54 := ⟨xok_ias (by decide +kernel : decode xm_67.2.1 92 = .ok (.iastore, 1)) rfl, xq_67_55⟩
theorem xq_67_53 : xOKs xsg xm_67 xk_67_0 xk_67_53 := ⟨xok_p (xp_iconst (v := 0) (by decide +kernel : decode xm_67.2.1 91 = .ok (.iconst 0, 1)) (by decide)) rfl, xq_67_54⟩
theorem xq_67_52 : xOKs xsg xm_67 xk_67_0 xk_67_52 := ⟨xok_get (by decide +kernel : decode xm_67.2.1 88 = .ok (.getfield 317, 3)) (rfl : vwCl[12]? = some (RX12, TX12, 125)) inX12 (by decide) (xT_c6 87 rfl rfl) rfl, xq_67_53⟩
theorem xq_67_51 : xOKs xsg xm_67 xk_67_0 xk_67_51 := ⟨xok_ld (xl_aload_n (by decide +kernel : decode xm_67.2.1 87 = .ok (.aload_n 0, 1))) rfl, xq_67_52⟩
theorem xq_67_50 : xOKs xsg xm_67 xk_67_0 xk_67_50 := ⟨xok_get (by decide +kernel : decode xm_67.2.1 84 = .ok (.getfield 65, 3)) (rfl : vwCl[12]? = some (RX12, TX12, 125)) inX12 (by decide) (xT_c6 84 rfl rfl) rfl, xq_67_51⟩
theorem xq_67_49 : xOKs xsg xm_67 xk_67_0 xk_67_49 := ⟨xok_ld (xl_aload_n (by decide +kernel : decode xm_67.2.1 83 = .ok (.aload_n 0, 1))) rfl, xq_67_50⟩
theorem xq_67_48 : xOKs xsg xm_67 xk_67_0 xk_67_48 := ⟨xok_ias (by decide +kernel : decode xm_67.2.1 82 = .ok (.iastore, 1)) rfl, xq_67_49⟩
theorem xq_67_47 : xOKs xsg xm_67 xk_67_0 xk_67_47 := ⟨xok_p (xp_iconst (v := -1) (by decide +kernel : decode xm_67.2.1 81 = .ok (.iconst (-1), 1)) (by decide)) rfl, xq_67_48⟩
theorem xq_67_46 : xOKs xsg xm_67 xk_67_0 xk_67_46 := ⟨xok_get (by decide +kernel : decode xm_67.2.1 78 = .ok (.getfield 317, 3)) (rfl : vwCl[12]? = some (RX12, TX12, 125)) inX12 (by decide) (xT_c6 87 rfl rfl) rfl, xq_67_47⟩
theorem xq_67_45 : xOKs xsg xm_67 xk_67_0 xk_67_45 := ⟨xok_ld (xl_aload_n (by decide +kernel : decode xm_67.2.1 77 = .ok (.aload_n 0, 1))) rfl, xq_67_46⟩
theorem xq_67_44 : xOKs xsg xm_67 xk_67_0 xk_67_44 := ⟨xok_get (by decide +kernel : decode xm_67.2.1 74 = .ok (.getfield 62, 3)) (rfl : vwCl[12]? = some (RX12, TX12, 125)) inX12 (by decide) (xT_c6 83 rfl rfl) rfl, xq_67_45⟩
theorem xq_67_43 : xOKs xsg xm_67 xk_67_0 xk_67_43 := ⟨xok_ld (xl_aload_n (by decide +kernel : decode xm_67.2.1 73 = .ok (.aload_n 0, 1))) rfl, xq_67_44⟩
theorem xq_67_42 : xOKs xsg xm_67 xk_67_0 xk_67_42 := ⟨xok_ias (by decide +kernel : decode xm_67.2.1 72 = .ok (.iastore, 1)) rfl, xq_67_43⟩
theorem xq_67_41 : xOKs xsg xm_67 xk_67_0 xk_67_41 := ⟨xok_p (xp_iconst (v := -1) (by decide +kernel : decode xm_67.2.1 71 = .ok (.iconst (-1), 1)) (by decide)) rfl, xq_67_42⟩
theorem xq_67_40 : xOKs xsg xm_67 xk_67_0 xk_67_40 := ⟨xok_get (by decide +kernel : decode xm_67.2.1 68 = .ok (.getfield 317, 3)) (rfl : vwCl[12]? = some (RX12, TX12, 125)) inX12 (by decide) (xT_c6 87 rfl rfl) rfl, xq_67_41⟩
theorem xq_67_39 : xOKs xsg xm_67 xk_67_0 xk_67_39 := ⟨xok_ld (xl_aload_n (by decide +kernel : decode xm_67.2.1 67 = .ok (.aload_n 0, 1))) rfl, xq_67_40⟩
theorem xq_67_38 : xOKs xsg xm_67 xk_67_0 xk_67_38 := ⟨xok_get (by decide +kernel : decode xm_67.2.1 64 = .ok (.getfield 59, 3)) (rfl : vwCl[12]? = some (RX12, TX12, 125)) inX12 (by decide) (xT_c6 82 rfl rfl) rfl, xq_67_39⟩
theorem xq_67_37 : xOKs xsg xm_67 xk_67_0 xk_67_37 := ⟨xok_ld (xl_aload_n (by decide +kernel : decode xm_67.2.1 63 = .ok (.aload_n 0, 1))) rfl, xq_67_38⟩
theorem xq_67_36 : xOKs xsg xm_67 xk_67_0 xk_67_36 := ⟨xok_ias (by decide +kernel : decode xm_67.2.1 62 = .ok (.iastore, 1)) rfl, xq_67_37⟩
theorem xq_67_35 : xOKs xsg xm_67 xk_67_0 xk_67_35 := ⟨xok_p (xp_iconst (v := -1) (by decide +kernel : decode xm_67.2.1 61 = .ok (.iconst (-1), 1)) (by decide)) rfl, xq_67_36⟩
theorem xq_67_34 : xOKs xsg xm_67 xk_67_0 xk_67_34 := ⟨xok_get (by decide +kernel : decode xm_67.2.1 58 = .ok (.getfield 317, 3)) (rfl : vwCl[12]? = some (RX12, TX12, 125)) inX12 (by decide) (xT_c6 87 rfl rfl) rfl, xq_67_35⟩
theorem xq_67_33 : xOKs xsg xm_67 xk_67_0 xk_67_33 := ⟨xok_ld (xl_aload_n (by decide +kernel : decode xm_67.2.1 57 = .ok (.aload_n 0, 1))) rfl, xq_67_34⟩
theorem xq_67_32 : xOKs xsg xm_67 xk_67_0 xk_67_32 := ⟨xok_get (by decide +kernel : decode xm_67.2.1 54 = .ok (.getfield 56, 3)) (rfl : vwCl[12]? = some (RX12, TX12, 125)) inX12 (by decide) (xT_c6 81 rfl rfl) rfl, xq_67_33⟩
theorem xq_67_31 : xOKs xsg xm_67 xk_67_0 xk_67_31 := ⟨xok_ld (xl_aload_n (by decide +kernel : decode xm_67.2.1 53 = .ok (.aload_n 0, 1))) rfl, xq_67_32⟩
theorem xq_67_30 : xOKs xsg xm_67 xk_67_0 xk_67_30 := ⟨xok_ias (by decide +kernel : decode xm_67.2.1 52 = .ok (.iastore, 1)) rfl, xq_67_31⟩
theorem xq_67_29 : xOKs xsg xm_67 xk_67_0 xk_67_29 := ⟨xok_p (xp_iconst (v := 0) (by decide +kernel : decode xm_67.2.1 51 = .ok (.iconst 0, 1)) (by decide)) rfl, xq_67_30⟩
theorem xq_67_28 : xOKs xsg xm_67 xk_67_0 xk_67_28 := ⟨xok_get (by decide +kernel : decode xm_67.2.1 48 = .ok (.getfield 317, 3)) (rfl : vwCl[12]? = some (RX12, TX12, 125)) inX12 (by decide) (xT_c6 87 rfl rfl) rfl, xq_67_29⟩
theorem xq_67_27 : xOKs xsg xm_67 xk_67_0 xk_67_27 := ⟨xok_ld (xl_aload_n (by decide +kernel : decode xm_67.2.1 47 = .ok (.aload_n 0, 1))) rfl, xq_67_28⟩
theorem xq_67_26 : xOKs xsg xm_67 xk_67_0 xk_67_26 := ⟨xok_get (by decide +kernel : decode xm_67.2.1 44 = .ok (.getfield 53, 3)) (rfl : vwCl[12]? = some (RX12, TX12, 125)) inX12 (by decide) (xT_c6 80 rfl rfl) rfl, xq_67_27⟩
theorem xq_67_25 : xOKs xsg xm_67 xk_67_0 xk_67_25 := ⟨xok_ld (xl_aload_n (by decide +kernel : decode xm_67.2.1 43 = .ok (.aload_n 0, 1))) rfl, xq_67_26⟩
theorem xq_67_24 : xOKs xsg xm_67 xk_67_0 xk_67_24 := ⟨xok_ias (by decide +kernel : decode xm_67.2.1 42 = .ok (.iastore, 1)) rfl, xq_67_25⟩
theorem xq_67_23 : xOKs xsg xm_67 xk_67_0 xk_67_23 := ⟨xok_p (xp_iconst (v := -1) (by decide +kernel : decode xm_67.2.1 41 = .ok (.iconst (-1), 1)) (by decide)) rfl, xq_67_24⟩
theorem xq_67_22 : xOKs xsg xm_67 xk_67_0 xk_67_22 := ⟨xok_get (by decide +kernel : decode xm_67.2.1 38 = .ok (.getfield 317, 3)) (rfl : vwCl[12]? = some (RX12, TX12, 125)) inX12 (by decide) (xT_c6 87 rfl rfl) rfl, xq_67_23⟩
theorem xq_67_21 : xOKs xsg xm_67 xk_67_0 xk_67_21 := ⟨xok_ld (xl_aload_n (by decide +kernel : decode xm_67.2.1 37 = .ok (.aload_n 0, 1))) rfl, xq_67_22⟩
theorem xq_67_20 : xOKs xsg xm_67 xk_67_0 xk_67_20 := ⟨xok_get (by decide +kernel : decode xm_67.2.1 34 = .ok (.getfield 50, 3)) (rfl : vwCl[12]? = some (RX12, TX12, 125)) inX12 (by decide) (xT_c6 79 rfl rfl) rfl, xq_67_21⟩
theorem xq_67_19 : xOKs xsg xm_67 xk_67_0 xk_67_19 := ⟨xok_ld (xl_aload_n (by decide +kernel : decode xm_67.2.1 33 = .ok (.aload_n 0, 1))) rfl, xq_67_20⟩
theorem xq_67_18 : xOKs xsg xm_67 xk_67_0 xk_67_18 := ⟨xok_ias (by decide +kernel : decode xm_67.2.1 32 = .ok (.iastore, 1)) rfl, xq_67_19⟩
theorem xq_67_17 : xOKs xsg xm_67 xk_67_0 xk_67_17 := ⟨xok_p (xp_iconst (v := -1) (by decide +kernel : decode xm_67.2.1 31 = .ok (.iconst (-1), 1)) (by decide)) rfl, xq_67_18⟩
theorem xq_67_16 : xOKs xsg xm_67 xk_67_0 xk_67_16 := ⟨xok_get (by decide +kernel : decode xm_67.2.1 28 = .ok (.getfield 317, 3)) (rfl : vwCl[12]? = some (RX12, TX12, 125)) inX12 (by decide) (xT_c6 87 rfl rfl) rfl, xq_67_17⟩
theorem xq_67_15 : xOKs xsg xm_67 xk_67_0 xk_67_15 := ⟨xok_ld (xl_aload_n (by decide +kernel : decode xm_67.2.1 27 = .ok (.aload_n 0, 1))) rfl, xq_67_16⟩
theorem xq_67_14 : xOKs xsg xm_67 xk_67_0 xk_67_14 := ⟨xok_get (by decide +kernel : decode xm_67.2.1 24 = .ok (.getfield 47, 3)) (rfl : vwCl[12]? = some (RX12, TX12, 125)) inX12 (by decide) (xT_c6 78 rfl rfl) rfl, xq_67_15⟩
theorem xq_67_13 : xOKs xsg xm_67 xk_67_0 xk_67_13 := ⟨xok_ld (xl_aload_n (by decide +kernel : decode xm_67.2.1 23 = .ok (.aload_n 0, 1))) rfl, xq_67_14⟩
theorem xq_67_12 : xOKs xsg xm_67 xk_67_0 xk_67_12 := ⟨xok_ias (by decide +kernel : decode xm_67.2.1 22 = .ok (.iastore, 1)) rfl, xq_67_13⟩
theorem xq_67_11 : xOKs xsg xm_67 xk_67_0 xk_67_11 := ⟨xok_get (by decide +kernel : decode xm_67.2.1 19 = .ok (.getfield 297, 3)) (rfl : vwCl[12]? = some (RX12, TX12, 125)) inX12 (by decide) (xT_c6 68 rfl rfl) rfl, xq_67_12⟩
theorem xq_67_10 : xOKs xsg xm_67 xk_67_0 xk_67_10 := ⟨xok_ld (xl_aload_n (by decide +kernel : decode xm_67.2.1 18 = .ok (.aload_n 0, 1))) rfl, xq_67_11⟩
theorem xq_67_9 : xOKs xsg xm_67 xk_67_0 xk_67_9 := ⟨xok_get (by decide +kernel : decode xm_67.2.1 15 = .ok (.getfield 317, 3)) (rfl : vwCl[12]? = some (RX12, TX12, 125)) inX12 (by decide) (xT_c6 87 rfl rfl) rfl, xq_67_10⟩
theorem xq_67_8 : xOKs xsg xm_67 xk_67_0 xk_67_8 := ⟨xok_ld (xl_aload_n (by decide +kernel : decode xm_67.2.1 14 = .ok (.aload_n 0, 1))) rfl, xq_67_9⟩
theorem xq_67_7 : xOKs xsg xm_67 xk_67_0 xk_67_7 := ⟨xok_get (by decide +kernel : decode xm_67.2.1 11 = .ok (.getfield 41, 3)) (rfl : vwCl[12]? = some (RX12, TX12, 125)) inX12 (by decide) (xT_c6 76 rfl rfl) rfl, xq_67_8⟩
theorem xq_67_6 : xOKs xsg xm_67 xk_67_0 xk_67_6 := ⟨xok_ld (xl_aload_n (by decide +kernel : decode xm_67.2.1 10 = .ok (.aload_n 0, 1))) rfl, xq_67_7⟩
theorem xq_67_5 : xOKs xsg xm_67 xk_67_0 xk_67_5 := ⟨xok_ias (by decide +kernel : decode xm_67.2.1 9 = .ok (.iastore, 1)) rfl, xq_67_6⟩
theorem xq_67_4 : xOKs xsg xm_67 xk_67_0 xk_67_4 := ⟨xok_ld (xl_iload_n (by decide +kernel : decode xm_67.2.1 8 = .ok (.iload_n 1, 1))) rfl, xq_67_5⟩
theorem xq_67_3 : xOKs xsg xm_67 xk_67_0 xk_67_3 := ⟨xok_get (by decide +kernel : decode xm_67.2.1 5 = .ok (.getfield 317, 3)) (rfl : vwCl[12]? = some (RX12, TX12, 125)) inX12 (by decide) (xT_c6 87 rfl rfl) rfl, xq_67_4⟩
theorem xq_67_2 : xOKs xsg xm_67 xk_67_0 xk_67_2 := ⟨xok_ld (xl_aload_n (by decide +kernel : decode xm_67.2.1 4 = .ok (.aload_n 0, 1))) rfl, xq_67_3⟩
theorem xq_67_1 : xOKs xsg xm_67 xk_67_0 xk_67_1 := ⟨xok_get (by decide +kernel : decode xm_67.2.1 1 = .ok (.getfield 38, 3)) (rfl : vwCl[12]? = some (RX12, TX12, 125)) inX12 (by decide) (xT_c6 75 rfl rfl) rfl, xq_67_2⟩
theorem xq_67_0 : xOKs xsg xm_67 xk_67_0 xk_67_0 := ⟨xok_ld (xl_aload_n (by decide +kernel : decode xm_67.2.1 0 = .ok (.aload_n 0, 1))) rfl, xq_67_1⟩
theorem xz_67 : xwf xsg xm_67 xk_67_0 := ⟨xq_67_0, rfl, by decide⟩
/-! FeatherBenchModel.within(Z)V -/
theorem xq_68_24 : xOKs xsg xm_68 xk_68_0 xk_68_24 := trivial
theorem xq_68_23 : xOKs xsg xm_68 xk_68_0 xk_68_23 := ⟨xok_ret0 (by decide +kernel : decode xm_68.2.1 44 = .ok (.return_, 1)) rfl, xq_68_24⟩
theorem xq_68_22 : xOKs xsg xm_68 xk_68_0 xk_68_22 := ⟨xok_put (by decide +kernel : decode xm_68.2.1 41 = .ok (.putfield 320, 3)) (rfl : vwCl[12]? = some (RX12, TX12, 125)) inX12 tyX12_ok nmX12 (k := 27) (by decide) rfl (xT_c6 88 rfl rfl) rfl, xq_68_23⟩
theorem xq_68_21 : xOKs xsg xm_68 xk_68_0 xk_68_21 := ⟨xok_p (xp_iadd (by decide +kernel : decode xm_68.2.1 40 = .ok (.iadd, 1))) rfl, xq_68_22⟩
theorem xq_68_20 : xOKs xsg xm_68 xk_68_0 xk_68_20 := ⟨xok_p (xp_iconst (v := 1) (by decide +kernel : decode xm_68.2.1 39 = .ok (.iconst 1, 1)) (by decide)) rfl, xq_68_21⟩
theorem xq_68_19 : xOKs xsg xm_68 xk_68_0 xk_68_19 := ⟨xok_get (by decide +kernel : decode xm_68.2.1 36 = .ok (.getfield 320, 3)) (rfl : vwCl[12]? = some (RX12, TX12, 125)) inX12 (by decide) (xT_c6 88 rfl rfl) rfl, xq_68_20⟩
theorem xq_68_18 : xOKs xsg xm_68 xk_68_0 xk_68_18 := ⟨xok_p (xp_dup (by decide +kernel : decode xm_68.2.1 35 = .ok (.dup, 1))) rfl, xq_68_19⟩
theorem xq_68_17 : xOKs xsg xm_68 xk_68_0 xk_68_17 := ⟨xok_ld (xl_aload_n (by decide +kernel : decode xm_68.2.1 34 = .ok (.aload_n 0, 1))) rfl, xq_68_18⟩
theorem xq_68_16 : xOKs xsg xm_68 xk_68_0 xk_68_16 := ⟨xok_none, xq_68_17⟩
theorem xq_68_15 : xOKs xsg xm_68 xk_68_0 xk_68_15 := ⟨xok_none, xq_68_16⟩
theorem xq_68_14 : xOKs xsg xm_68 xk_68_0 xk_68_14 := ⟨xok_none, xq_68_15⟩
theorem xq_68_13 : xOKs xsg xm_68 xk_68_0 xk_68_13 := ⟨xok_none, xq_68_14⟩
theorem xq_68_12 : xOKs xsg xm_68 xk_68_0 xk_68_12 := ⟨xok_none, xq_68_13⟩
theorem xq_68_11 : xOKs xsg xm_68 xk_68_0 xk_68_11 := ⟨xok_none, xq_68_12⟩
theorem xq_68_10 : xOKs xsg xm_68 xk_68_0 xk_68_10 := ⟨xok_none, xq_68_11⟩
theorem xq_68_9 : xOKs xsg xm_68 xk_68_0 xk_68_9 := ⟨xok_none, xq_68_10⟩
theorem xq_68_8 : xOKs xsg xm_68 xk_68_0 xk_68_8 := ⟨xok_none, xq_68_9⟩
theorem xq_68_7 : xOKs xsg xm_68 xk_68_0 xk_68_7 := ⟨xok_br (tgt := 34) (xb_go (by decide +kernel : decode xm_68.2.1 13 = .ok (.goto 21, 3)) (by decide)) (by decide +kernel) rfl, xq_68_8⟩
theorem xq_68_6 : xOKs xsg xm_68 xk_68_0 xk_68_6 := ⟨xok_callV (M' := xm_61) rfl (rfl : vwCl[12]? = some (RX12, TX12, 125)) (by decide +kernel : decode xm_68.2.1 10 = .ok (.invokevirtual 306, 3)) xn_61 (xT_c8 10 rfl rfl) (xT_c0 74 rfl rfl) (xT_c8 8 rfl rfl) rfl, xq_68_7⟩
theorem xq_68_5 : xOKs xsg xm_68 xk_68_0 xk_68_5 := ⟨xok_get (by decide +kernel : decode xm_68.2.1 7 = .ok (.getfield 297, 3)) (rfl : vwCl[12]? = some (RX12, TX12, 125)) inX12 (by decide) (xT_c6 68 rfl rfl) rfl, xq_68_6⟩
theorem xq_68_4 : xOKs xsg xm_68 xk_68_0 xk_68_4 := ⟨xok_ld (xl_aload_n (by decide +kernel : decode xm_68.2.1 6 = .ok (.aload_n 0, 1))) rfl, xq_68_5⟩
theorem xq_68_3 : xOKs xsg xm_68 xk_68_0 xk_68_3 := ⟨xok_p (xp_iconst (v := 1) (by decide +kernel : decode xm_68.2.1 5 = .ok (.iconst 1, 1)) (by decide)) rfl, xq_68_4⟩
theorem xq_68_2 : xOKs xsg xm_68 xk_68_0 xk_68_2 := ⟨xok_ld (xl_aload_n (by decide +kernel : decode xm_68.2.1 4 = .ok (.aload_n 0, 1))) rfl, xq_68_3⟩
theorem xq_68_1 : xOKs xsg xm_68 xk_68_0 xk_68_1 := ⟨xok_br (tgt := 16) (xb_ne (by decide +kernel : decode xm_68.2.1 1 = .ok (.ifCond .ne 15, 3)) (by decide)) (by decide +kernel) rfl, xq_68_2⟩
theorem xq_68_0 : xOKs xsg xm_68 xk_68_0 xk_68_0 := ⟨xok_ld (xl_iload_n (by decide +kernel : decode xm_68.2.1 0 = .ok (.iload_n 1, 1))) rfl, xq_68_1⟩
theorem xz_68 : xwf xsg xm_68 xk_68_0 := ⟨xq_68_0, rfl, by decide⟩
/-! FeatherBenchModel.takeType()I -/
theorem xq_69_38 : xOKs xsg xm_69 xk_69_0 xk_69_38 := trivial
theorem xq_69_37 : xOKs xsg xm_69 xk_69_0 xk_69_37 := ⟨xok_retI (by decide +kernel : decode xm_69.2.1 64 = .ok (.ireturn, 1)) rfl, xq_69_38⟩
theorem xq_69_36 : xOKs xsg xm_69 xk_69_0 xk_69_36 := ⟨xok_ld (xl_iload_n (by decide +kernel : decode xm_69.2.1 63 = .ok (.iload_n 1, 1))) rfl, xq_69_37⟩
theorem xq_69_35 : xOKs xsg xm_69 xk_69_0 xk_69_35 := ⟨xok_put (by decide +kernel : decode xm_69.2.1 60 = .ok (.putfield 320, 3)) (rfl : vwCl[12]? = some (RX12, TX12, 125)) inX12 tyX12_ok nmX12 (k := 27) (by decide) rfl (xT_c6 88 rfl rfl) rfl, xq_69_36⟩
theorem xq_69_34 : xOKs xsg xm_69 xk_69_0 xk_69_34 := ⟨xok_p (xp_isub (by decide +kernel : decode xm_69.2.1 59 = .ok (.isub, 1))) rfl, xq_69_35⟩
theorem xq_69_33 : xOKs xsg xm_69 xk_69_0 xk_69_33 := ⟨xok_p (xp_iconst (v := 1) (by decide +kernel : decode xm_69.2.1 58 = .ok (.iconst 1, 1)) (by decide)) rfl, xq_69_34⟩
theorem xq_69_32 : xOKs xsg xm_69 xk_69_0 xk_69_32 := ⟨xok_get (by decide +kernel : decode xm_69.2.1 55 = .ok (.getfield 320, 3)) (rfl : vwCl[12]? = some (RX12, TX12, 125)) inX12 (by decide) (xT_c6 88 rfl rfl) rfl, xq_69_33⟩
theorem xq_69_31 : xOKs xsg xm_69 xk_69_0 xk_69_31 := ⟨xok_p (xp_dup (by decide +kernel : decode xm_69.2.1 54 = .ok (.dup, 1))) rfl, xq_69_32⟩
theorem xq_69_30 : xOKs xsg xm_69 xk_69_0 xk_69_30 := ⟨xok_ld (xl_aload_n (by decide +kernel : decode xm_69.2.1 53 = .ok (.aload_n 0, 1))) rfl, xq_69_31⟩
theorem xq_69_29 : xOKs xsg xm_69 xk_69_0 xk_69_29 := ⟨xok_none, xq_69_30⟩
theorem xq_69_28 : xOKs xsg xm_69 xk_69_0 xk_69_28 := ⟨xok_none, xq_69_29⟩
theorem xq_69_27 : xOKs xsg xm_69 xk_69_0 xk_69_27 := ⟨xok_none, xq_69_28⟩
theorem xq_69_26 : xOKs xsg xm_69 xk_69_0 xk_69_26 := ⟨xok_none, xq_69_27⟩
theorem xq_69_25 : xOKs xsg xm_69 xk_69_0 xk_69_25 := ⟨xok_none, xq_69_26⟩
theorem xq_69_24 : xOKs xsg xm_69 xk_69_0 xk_69_24 := ⟨xok_none, xq_69_25⟩
theorem xq_69_23 : xOKs xsg xm_69 xk_69_0 xk_69_23 := ⟨xok_none, xq_69_24⟩
theorem xq_69_22 : xOKs xsg xm_69 xk_69_0 xk_69_22 := ⟨xok_none, xq_69_23⟩
theorem xq_69_21 : xOKs xsg xm_69 xk_69_0 xk_69_21 := ⟨xok_none, xq_69_22⟩
theorem xq_69_20 : xOKs xsg xm_69 xk_69_0 xk_69_20 := ⟨xok_none, xq_69_21⟩
theorem xq_69_19 : xOKs xsg xm_69 xk_69_0 xk_69_19 := ⟨xok_none, xq_69_20⟩
theorem xq_69_18 : xOKs xsg xm_69 xk_69_0 xk_69_18 := ⟨xok_none, xq_69_19⟩
theorem xq_69_17 : xOKs xsg xm_69 xk_69_0 xk_69_17 := ⟨xok_br (tgt := 53) (xb_eq (by decide +kernel : decode xm_69.2.1 30 = .ok (.ifCond .eq 23, 3)) (by decide)) (by decide +kernel) rfl, xq_69_18⟩
theorem xq_69_16 : xOKs xsg xm_69 xk_69_0 xk_69_16 := ⟨xok_callV (M' := xm_62) rfl (rfl : vwCl[12]? = some (RX12, TX12, 125)) (by decide +kernel : decode xm_69.2.1 27 = .ok (.invokevirtual 303, 3)) xn_62 (xT_c8 22 rfl rfl) (xT_c0 77 rfl rfl) (xT_c8 20 rfl rfl) rfl, xq_69_17⟩
theorem xq_69_15 : xOKs xsg xm_69 xk_69_0 xk_69_15 := ⟨xok_p (xp_bipush (v := 91) (by decide +kernel : decode xm_69.2.1 25 = .ok (.bipush 91, 2)) (by decide)) rfl, xq_69_16⟩
theorem xq_69_14 : xOKs xsg xm_69 xk_69_0 xk_69_14 := ⟨xok_ld (xl_aload_n (by decide +kernel : decode xm_69.2.1 24 = .ok (.aload_n 0, 1))) rfl, xq_69_15⟩
theorem xq_69_13 : xOKs xsg xm_69 xk_69_0 xk_69_13 := ⟨xok_put (by decide +kernel : decode xm_69.2.1 21 = .ok (.putfield 297, 3)) (rfl : vwCl[12]? = some (RX12, TX12, 125)) inX12 tyX12_ok nmX12 (k := 7) (by decide) rfl (xT_c6 68 rfl rfl) rfl, xq_69_14⟩
theorem xq_69_12 : xOKs xsg xm_69 xk_69_0 xk_69_12 := ⟨xok_p (xp_iadd (by decide +kernel : decode xm_69.2.1 20 = .ok (.iadd, 1))) rfl, xq_69_13⟩
theorem xq_69_11 : xOKs xsg xm_69 xk_69_0 xk_69_11 := ⟨xok_p (xp_iconst (v := 1) (by decide +kernel : decode xm_69.2.1 19 = .ok (.iconst 1, 1)) (by decide)) rfl, xq_69_12⟩
theorem xq_69_10 : xOKs xsg xm_69 xk_69_0 xk_69_10 := ⟨xok_get (by decide +kernel : decode xm_69.2.1 16 = .ok (.getfield 297, 3)) (rfl : vwCl[12]? = some (RX12, TX12, 125)) inX12 (by decide) (xT_c6 68 rfl rfl) rfl, xq_69_11⟩
theorem xq_69_9 : xOKs xsg xm_69 xk_69_0 xk_69_9 := ⟨xok_p (xp_dup (by decide +kernel : decode xm_69.2.1 15 = .ok (.dup, 1))) rfl, xq_69_10⟩
theorem xq_69_8 : xOKs xsg xm_69 xk_69_0 xk_69_8 := ⟨xok_ld (xl_aload_n (by decide +kernel : decode xm_69.2.1 14 = .ok (.aload_n 0, 1))) rfl, xq_69_9⟩
theorem xq_69_7 : xOKs xsg xm_69 xk_69_0 xk_69_7 := ⟨xok_st (xs_istore_n (by decide +kernel : decode xm_69.2.1 13 = .ok (.istore_n 1, 1)) (by decide)) rfl, xq_69_8⟩
theorem xq_69_6 : xOKs xsg xm_69 xk_69_0 xk_69_6 := ⟨xok_callV (M' := xm_67) rfl (rfl : vwCl[12]? = some (RX12, TX12, 125)) (by decide +kernel : decode xm_69.2.1 10 = .ok (.invokevirtual 327, 3)) xn_67 (xT_c8 42 rfl rfl) (xT_c0 82 rfl rfl) (xT_c8 40 rfl rfl) rfl, xq_69_7⟩
theorem xq_69_5 : xOKs xsg xm_69 xk_69_0 xk_69_5 := ⟨xok_p (xp_iconst (v := 0) (by decide +kernel : decode xm_69.2.1 9 = .ok (.iconst 0, 1)) (by decide)) rfl, xq_69_6⟩
theorem xq_69_4 : xOKs xsg xm_69 xk_69_0 xk_69_4 := ⟨xok_ld (xl_aload_n (by decide +kernel : decode xm_69.2.1 8 = .ok (.aload_n 0, 1))) rfl, xq_69_5⟩
theorem xq_69_3 : xOKs xsg xm_69 xk_69_0 xk_69_3 := ⟨xok_callV (M' := xm_68) rfl (rfl : vwCl[12]? = some (RX12, TX12, 125)) (by decide +kernel : decode xm_69.2.1 5 = .ok (.invokevirtual 323, 3)) xn_68 (xT_c8 38 rfl rfl) (xT_c0 81 rfl rfl) (xT_c8 36 rfl rfl) rfl, xq_69_4⟩
theorem xq_69_2 : xOKs xsg xm_69 xk_69_0 xk_69_2 := ⟨xok_callV (M' := xm_64) rfl (rfl : vwCl[12]? = some (RX12, TX12, 125)) (by decide +kernel : decode xm_69.2.1 2 = .ok (.invokevirtual 313, 3)) xn_64 (xT_c8 18 rfl rfl) (xT_c0 76 rfl rfl) (xT_c8 16 rfl rfl) rfl, xq_69_3⟩
theorem xq_69_1 : xOKs xsg xm_69 xk_69_0 xk_69_1 := ⟨xok_ld (xl_aload_n (by decide +kernel : decode xm_69.2.1 1 = .ok (.aload_n 0, 1))) rfl, xq_69_2⟩
theorem xq_69_0 : xOKs xsg xm_69 xk_69_0 xk_69_0 := ⟨xok_ld (xl_aload_n (by decide +kernel : decode xm_69.2.1 0 = .ok (.aload_n 0, 1))) rfl, xq_69_1⟩
theorem xz_69 : xwf xsg xm_69 xk_69_0 := ⟨xq_69_0, rfl, by decide⟩
/-! FeatherBenchModel.readAll()V -/
theorem xq_70_63 : xOKs xsg xm_70 xk_70_0 xk_70_63 := trivial
theorem xq_70_62 : xOKs xsg xm_70 xk_70_0 xk_70_62 := ⟨xok_ret0 (by decide +kernel : decode xm_70.2.1 125 = .ok (.return_, 1)) rfl, xq_70_63⟩
theorem xq_70_61 : xOKs xsg xm_70 xk_70_0 xk_70_61 := ⟨xok_none, xq_70_62⟩
theorem xq_70_60 : xOKs xsg xm_70 xk_70_0 xk_70_60 := ⟨xok_none, xq_70_61⟩
theorem xq_70_59 : xOKs xsg xm_70 xk_70_0 xk_70_59 := ⟨xok_none, xq_70_60⟩
theorem xq_70_58 : xOKs xsg xm_70 xk_70_0 xk_70_58 := ⟨xok_none, xq_70_59⟩
theorem xq_70_57 : xOKs xsg xm_70 xk_70_0 xk_70_57 := ⟨xok_none, xq_70_58⟩
theorem xq_70_56 : xOKs xsg xm_70 xk_70_0 xk_70_56 := ⟨xok_none, xq_70_57⟩
theorem xq_70_55 : xOKs xsg xm_70 xk_70_0 xk_70_55 := ⟨xok_none, xq_70_56⟩
theorem xq_70_54 : xOKs xsg xm_70 xk_70_0 xk_70_54 := ⟨xok_none, xq_70_55⟩
theorem xq_70_53 : xOKs xsg xm_70 xk_70_0 xk_70_53 := ⟨xok_none, xq_70_54⟩
theorem xq_70_52 : xOKs xsg xm_70 xk_70_0 xk_70_52 := ⟨xok_none, xq_70_53⟩
theorem xq_70_51 : xOKs xsg xm_70 xk_70_0 xk_70_51 := ⟨xok_none, xq_70_52⟩
theorem xq_70_50 : xOKs xsg xm_70 xk_70_0 xk_70_50 := ⟨xok_br (tgt := 125) (xb_ne (by decide +kernel : decode xm_70.2.1 101 = .ok (.ifCond .ne 24, 3)) (by decide)) (by decide +kernel) rfl, xq_70_51⟩
theorem xq_70_49 : xOKs xsg xm_70 xk_70_0 xk_70_49 := ⟨xok_get (by decide +kernel : decode xm_70.2.1 98 = .ok (.getfield 300, 3)) (rfl : vwCl[12]? = some (RX12, TX12, 125)) inX12 (by decide) (xT_c6 69 rfl rfl) rfl, xq_70_50⟩
theorem xq_70_48 : xOKs xsg xm_70 xk_70_0 xk_70_48 := ⟨xok_ld (xl_aload_n (by decide +kernel : decode xm_70.2.1 97 = .ok (.aload_n 0, 1))) rfl, xq_70_49⟩
theorem xq_70_47 : xOKs xsg xm_70 xk_70_0 xk_70_47 := ⟨xok_callV (M' := xm_65) rfl (rfl : vwCl[12]? = some (RX12, TX12, 125)) (by decide +kernel : decode xm_70.2.1 94 = .ok (.invokevirtual 336, 3)) xn_65 (xT_c8 30 rfl rfl) (xT_c0 79 rfl rfl) (xT_c8 28 rfl rfl) rfl, xq_70_48⟩
theorem xq_70_46 : xOKs xsg xm_70 xk_70_0 xk_70_46 := ⟨xok_p (xp_bipush (v := 59) (by decide +kernel : decode xm_70.2.1 92 = .ok (.bipush 59, 2)) (by decide)) rfl, xq_70_47⟩
theorem xq_70_45 : xOKs xsg xm_70 xk_70_0 xk_70_45 := ⟨xok_ld (xl_aload_n (by decide +kernel : decode xm_70.2.1 91 = .ok (.aload_n 0, 1))) rfl, xq_70_46⟩
theorem xq_70_44 : xOKs xsg xm_70 xk_70_0 xk_70_44 := ⟨xok_ias (by decide +kernel : decode xm_70.2.1 90 = .ok (.iastore, 1)) rfl, xq_70_45⟩
theorem xq_70_43 : xOKs xsg xm_70 xk_70_0 xk_70_43 := ⟨xok_p (xp_iconst (v := -1) (by decide +kernel : decode xm_70.2.1 89 = .ok (.iconst (-1), 1)) (by decide)) rfl, xq_70_44⟩
theorem xq_70_42 : xOKs xsg xm_70 xk_70_0 xk_70_42 := ⟨xok_none, xq_70_43⟩
theorem xq_70_41 : xOKs xsg xm_70 xk_70_0 xk_70_41 := ⟨xok_none, xq_70_42⟩
theorem xq_70_40 : xOKs xsg xm_70 xk_70_0 xk_70_40 := ⟨xok_none, xq_70_41⟩
theorem xq_70_39 : xOKs xsg xm_70 xk_70_0 xk_70_39 := ⟨xok_br (tgt := 89) (xb_ne (by decide +kernel : decode xm_70.2.1 79 = .ok (.ifCond .ne 10, 3)) (by decide)) (by decide +kernel) rfl, xq_70_40⟩
theorem xq_70_38 : xOKs xsg xm_70 xk_70_0 xk_70_38 := ⟨xok_get (by decide +kernel : decode xm_70.2.1 76 = .ok (.getfield 300, 3)) (rfl : vwCl[12]? = some (RX12, TX12, 125)) inX12 (by decide) (xT_c6 69 rfl rfl) rfl, xq_70_39⟩
theorem xq_70_37 : xOKs xsg xm_70 xk_70_0 xk_70_37 := ⟨xok_ld (xl_aload_n (by decide +kernel : decode xm_70.2.1 75 = .ok (.aload_n 0, 1))) rfl, xq_70_38⟩
theorem xq_70_36 : xOKs xsg xm_70 xk_70_0 xk_70_36 := ⟨xok_get (by decide +kernel : decode xm_70.2.1 72 = .ok (.getfield 364, 3)) (rfl : vwCl[12]? = some (RX12, TX12, 125)) inX12 (by decide) (xT_c6 91 rfl rfl) rfl, xq_70_37⟩
theorem xq_70_35 : xOKs xsg xm_70 xk_70_0 xk_70_35 := ⟨xok_ld (xl_aload_n (by decide +kernel : decode xm_70.2.1 71 = .ok (.aload_n 0, 1))) rfl, xq_70_36⟩
theorem xq_70_34 : xOKs xsg xm_70 xk_70_0 xk_70_34 := ⟨xok_get (by decide +kernel : decode xm_70.2.1 68 = .ok (.getfield 153, 3)) (rfl : vwCl[12]? = some (RX12, TX12, 125)) inX12 (by decide) (xT_c6 119 rfl rfl) rfl, xq_70_35⟩
theorem xq_70_33 : xOKs xsg xm_70 xk_70_0 xk_70_33 := ⟨xok_ld (xl_aload_n (by decide +kernel : decode xm_70.2.1 67 = .ok (.aload_n 0, 1))) rfl, xq_70_34⟩
theorem xq_70_32 : xOKs xsg xm_70 xk_70_0 xk_70_32 := ⟨xok_put (by decide +kernel : decode xm_70.2.1 64 = .ok (.putfield 320, 3)) (rfl : vwCl[12]? = some (RX12, TX12, 125)) inX12 tyX12_ok nmX12 (k := 27) (by decide) rfl (xT_c6 88 rfl rfl) rfl, xq_70_33⟩
theorem xq_70_31 : xOKs xsg xm_70 xk_70_0 xk_70_31 := ⟨xok_p (xp_iconst (v := 0) (by decide +kernel : decode xm_70.2.1 63 = .ok (.iconst 0, 1)) (by decide)) rfl, xq_70_32⟩
theorem xq_70_30 : xOKs xsg xm_70 xk_70_0 xk_70_30 := ⟨xok_ld (xl_aload_n (by decide +kernel : decode xm_70.2.1 62 = .ok (.aload_n 0, 1))) rfl, xq_70_31⟩
theorem xq_70_29 : xOKs xsg xm_70 xk_70_0 xk_70_29 := ⟨xok_callV (M' := xm_66) rfl (rfl : vwCl[12]? = some (RX12, TX12, 125)) (by decide +kernel : decode xm_70.2.1 59 = .ok (.invokevirtual 361, 3)) xn_66 (xT_c8 54 rfl rfl) (xT_c0 85 rfl rfl) (xT_c8 52 rfl rfl) rfl, xq_70_30⟩
theorem xq_70_28 : xOKs xsg xm_70 xk_70_0 xk_70_28 := ⟨xok_p (xp_iconst (v := 5) (by decide +kernel : decode xm_70.2.1 58 = .ok (.iconst 5, 1)) (by decide)) rfl, xq_70_29⟩
theorem xq_70_27 : xOKs xsg xm_70 xk_70_0 xk_70_27 := ⟨xok_ld (xl_aload_n (by decide +kernel : decode xm_70.2.1 57 = .ok (.aload_n 0, 1))) rfl, xq_70_28⟩
theorem xq_70_26 : xOKs xsg xm_70 xk_70_0 xk_70_26 := ⟨xok_br (tgt := 0) (xb_go (by decide +kernel : decode xm_70.2.1 54 = .ok (.goto (-54), 3)) (by decide)) (by decide +kernel) rfl, xq_70_27⟩
theorem xq_70_25 : xOKs xsg xm_70 xk_70_0 xk_70_25 := ⟨xok_callV (M' := xm_61) rfl (rfl : vwCl[12]? = some (RX12, TX12, 125)) (by decide +kernel : decode xm_70.2.1 51 = .ok (.invokevirtual 306, 3)) xn_61 (xT_c8 10 rfl rfl) (xT_c0 74 rfl rfl) (xT_c8 8 rfl rfl) rfl, xq_70_26⟩
theorem xq_70_24 : xOKs xsg xm_70 xk_70_0 xk_70_24 := ⟨xok_get (by decide +kernel : decode xm_70.2.1 48 = .ok (.getfield 297, 3)) (rfl : vwCl[12]? = some (RX12, TX12, 125)) inX12 (by decide) (xT_c6 68 rfl rfl) rfl, xq_70_25⟩
theorem xq_70_23 : xOKs xsg xm_70 xk_70_0 xk_70_23 := ⟨xok_ld (xl_aload_n (by decide +kernel : decode xm_70.2.1 47 = .ok (.aload_n 0, 1))) rfl, xq_70_24⟩
theorem xq_70_22 : xOKs xsg xm_70 xk_70_0 xk_70_22 := ⟨xok_p (xp_iconst (v := 1) (by decide +kernel : decode xm_70.2.1 46 = .ok (.iconst 1, 1)) (by decide)) rfl, xq_70_23⟩
theorem xq_70_21 : xOKs xsg xm_70 xk_70_0 xk_70_21 := ⟨xok_ld (xl_aload_n (by decide +kernel : decode xm_70.2.1 45 = .ok (.aload_n 0, 1))) rfl, xq_70_22⟩
theorem xq_70_20 : xOKs xsg xm_70 xk_70_0 xk_70_20 := ⟨xok_none, xq_70_21⟩
theorem xq_70_19 : xOKs xsg xm_70 xk_70_0 xk_70_19 := ⟨xok_none, xq_70_20⟩
theorem xq_70_18 : xOKs xsg xm_70 xk_70_0 xk_70_18 := ⟨xok_none, xq_70_19⟩
theorem xq_70_17 : xOKs xsg xm_70 xk_70_0 xk_70_17 := ⟨xok_br (tgt := 45) (xb_eq (by decide +kernel : decode xm_70.2.1 35 = .ok (.ifCond .eq 10, 3)) (by decide)) (by decide +kernel) rfl, xq_70_18⟩
theorem xq_70_16 : xOKs xsg xm_70 xk_70_0 xk_70_16 := ⟨xok_callV (M' := xm_63) rfl (rfl : vwCl[12]? = some (RX12, TX12, 125)) (by decide +kernel : decode xm_70.2.1 32 = .ok (.invokevirtual 310, 3)) xn_63 (xT_c8 2 rfl rfl) (xT_c0 72 rfl rfl) (xT_c8 0 rfl rfl) rfl, xq_70_17⟩
theorem xq_70_15 : xOKs xsg xm_70 xk_70_0 xk_70_15 := ⟨xok_p (xp_iconst (v := 3) (by decide +kernel : decode xm_70.2.1 31 = .ok (.iconst 3, 1)) (by decide)) rfl, xq_70_16⟩
theorem xq_70_14 : xOKs xsg xm_70 xk_70_0 xk_70_14 := ⟨xok_ld (xl_aload_n (by decide +kernel : decode xm_70.2.1 30 = .ok (.aload_n 0, 1))) rfl, xq_70_15⟩
theorem xq_70_13 : xOKs xsg xm_70 xk_70_0 xk_70_13 := ⟨xok_none, xq_70_14⟩
theorem xq_70_12 : xOKs xsg xm_70 xk_70_0 xk_70_12 := ⟨xok_none, xq_70_13⟩
theorem xq_70_11 : xOKs xsg xm_70 xk_70_0 xk_70_11 := ⟨xok_none, xq_70_12⟩
theorem xq_70_10 : xOKs xsg xm_70 xk_70_0 xk_70_10 := ⟨xok_br (tgt := 30) (xb_eq (by decide +kernel : decode xm_70.2.1 20 = .ok (.ifCond .eq 10, 3)) (by decide)) (by decide +kernel) rfl, xq_70_11⟩
theorem xq_70_9 : xOKs xsg xm_70 xk_70_0 xk_70_9 := ⟨xok_callV (M' := xm_63) rfl (rfl : vwCl[12]? = some (RX12, TX12, 125)) (by decide +kernel : decode xm_70.2.1 17 = .ok (.invokevirtual 310, 3)) xn_63 (xT_c8 2 rfl rfl) (xT_c0 72 rfl rfl) (xT_c8 0 rfl rfl) rfl, xq_70_10⟩
theorem xq_70_8 : xOKs xsg xm_70 xk_70_0 xk_70_8 := ⟨xok_p (xp_iconst (v := 0) (by decide +kernel : decode xm_70.2.1 16 = .ok (.iconst 0, 1)) (by decide)) rfl, xq_70_9⟩
theorem xq_70_7 : xOKs xsg xm_70 xk_70_0 xk_70_7 := ⟨xok_ld (xl_aload_n (by decide +kernel : decode xm_70.2.1 15 = .ok (.aload_n 0, 1))) rfl, xq_70_8⟩
theorem xq_70_6 : xOKs xsg xm_70 xk_70_0 xk_70_6 := ⟨xok_br (tgt := 57) (xb_ne (by decide +kernel : decode xm_70.2.1 12 = .ok (.ifCond .ne 45, 3)) (by decide)) (by decide +kernel) rfl, xq_70_7⟩
theorem xq_70_5 : xOKs xsg xm_70 xk_70_0 xk_70_5 := ⟨xok_callV (M' := xm_63) rfl (rfl : vwCl[12]? = some (RX12, TX12, 125)) (by decide +kernel : decode xm_70.2.1 9 = .ok (.invokevirtual 310, 3)) xn_63 (xT_c8 2 rfl rfl) (xT_c0 72 rfl rfl) (xT_c8 0 rfl rfl) rfl, xq_70_6⟩
theorem xq_70_4 : xOKs xsg xm_70 xk_70_0 xk_70_4 := ⟨xok_p (xp_iconst (v := 5) (by decide +kernel : decode xm_70.2.1 8 = .ok (.iconst 5, 1)) (by decide)) rfl, xq_70_5⟩
theorem xq_70_3 : xOKs xsg xm_70 xk_70_0 xk_70_3 := ⟨xok_ld (xl_aload_n (by decide +kernel : decode xm_70.2.1 7 = .ok (.aload_n 0, 1))) rfl, xq_70_4⟩
theorem xq_70_2 : xOKs xsg xm_70 xk_70_0 xk_70_2 := ⟨xok_br (tgt := 57) (xb_ne (by decide +kernel : decode xm_70.2.1 4 = .ok (.ifCond .ne 53, 3)) (by decide)) (by decide +kernel) rfl, xq_70_3⟩
theorem xq_70_1 : xOKs xsg xm_70 xk_70_0 xk_70_1 := ⟨xok_get (by decide +kernel : decode xm_70.2.1 1 = .ok (.getfield 300, 3)) (rfl : vwCl[12]? = some (RX12, TX12, 125)) inX12 (by decide) (xT_c6 69 rfl rfl) rfl, xq_70_2⟩
theorem xq_70_0 : xOKs xsg xm_70 xk_70_0 xk_70_0 := ⟨xok_ld (xl_aload_n (by decide +kernel : decode xm_70.2.1 0 = .ok (.aload_n 0, 1))) rfl, xq_70_1⟩
theorem xz_70 : xwf xsg xm_70 xk_70_0 := ⟨xq_70_0, rfl, by decide⟩
