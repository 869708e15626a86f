/-! FeatherBenchModel.feed(JJJ)I -/
theorem xq_55_15 : xOKs xsg xm_55 xk_55_0 xk_55_15 := trivial
theorem xq_55_14 : xOKs xsg xm_55 xk_55_0 xk_55_14 := ⟨xok_retI (by decide +kernel : decode xm_55.2.1 25 = .ok (.ireturn, 1)) rfl, xq_55_15⟩
theorem xq_55_13 : xOKs xsg xm_55 xk_55_0 xk_55_13 := ⟨xok_get (by decide +kernel : decode xm_55.2.1 22 = .ok (.getfield 259, 3)) (rfl : vwCl[12]? = some (RX12, TX12, 125)) inX12 (by decide) (xT_c6 63 rfl rfl) rfl, xq_55_14⟩
theorem xq_55_12 : xOKs xsg xm_55 xk_55_0 xk_55_12 := ⟨xok_ld (xl_aload_n (by decide +kernel : decode xm_55.2.1 21 = .ok (.aload_n 0, 1))) rfl, xq_55_13⟩
theorem xq_55_11 : xOKs xsg xm_55 xk_55_0 xk_55_11 := ⟨xok_callV (M' := xm_56) rfl (rfl : vwCl[12]? = some (RX12, TX12, 125)) (by decide +kernel : decode xm_55.2.1 18 = .ok (.invokevirtual 255, 3)) xn_56 (xT_c7 203 rfl rfl) (xT_c0 67 rfl rfl) (xT_c7 201 rfl rfl) rfl, xq_55_12⟩
theorem xq_55_10 : xOKs xsg xm_55 xk_55_0 xk_55_10 := ⟨xok_ld (xl_lload (by decide +kernel : decode xm_55.2.1 16 = .ok (.lload 5, 2))) rfl, xq_55_11⟩
theorem xq_55_9 : xOKs xsg xm_55 xk_55_0 xk_55_9 := ⟨xok_ld (xl_aload_n (by decide +kernel : decode xm_55.2.1 15 = .ok (.aload_n 0, 1))) rfl, xq_55_10⟩
theorem xq_55_8 : xOKs xsg xm_55 xk_55_0 xk_55_8 := ⟨xok_callV (M' := xm_56) rfl (rfl : vwCl[12]? = some (RX12, TX12, 125)) (by decide +kernel : decode xm_55.2.1 12 = .ok (.invokevirtual 255, 3)) xn_56 (xT_c7 203 rfl rfl) (xT_c0 67 rfl rfl) (xT_c7 201 rfl rfl) rfl, xq_55_9⟩
theorem xq_55_7 : xOKs xsg xm_55 xk_55_0 xk_55_7 := ⟨xok_ld (xl_lload_n (by decide +kernel : decode xm_55.2.1 11 = .ok (.lload_n 3, 1))) rfl, xq_55_8⟩
theorem xq_55_6 : xOKs xsg xm_55 xk_55_0 xk_55_6 := ⟨xok_ld (xl_aload_n (by decide +kernel : decode xm_55.2.1 10 = .ok (.aload_n 0, 1))) rfl, xq_55_7⟩
theorem xq_55_5 : xOKs xsg xm_55 xk_55_0 xk_55_5 := ⟨xok_callV (M' := xm_56) rfl (rfl : vwCl[12]? = some (RX12, TX12, 125)) (by decide +kernel : decode xm_55.2.1 7 = .ok (.invokevirtual 255, 3)) xn_56 (xT_c7 203 rfl rfl) (xT_c0 67 rfl rfl) (xT_c7 201 rfl rfl) rfl, xq_55_6⟩
theorem xq_55_4 : xOKs xsg xm_55 xk_55_0 xk_55_4 := ⟨xok_ld (xl_lload_n (by decide +kernel : decode xm_55.2.1 6 = .ok (.lload_n 1, 1))) rfl, xq_55_5⟩
theorem xq_55_3 : xOKs xsg xm_55 xk_55_0 xk_55_3 := ⟨xok_ld (xl_aload_n (by decide +kernel : decode xm_55.2.1 5 = .ok (.aload_n 0, 1))) rfl, xq_55_4⟩
theorem xq_55_2 : xOKs xsg xm_55 xk_55_0 xk_55_2 := ⟨xok_put (by decide +kernel : decode xm_55.2.1 2 = .ok (.putfield 252, 3)) (rfl : vwCl[12]? = some (RX12, TX12, 125)) inX12 tyX12_ok nmX12 (k := 0) (by decide) rfl (xT_c6 61 rfl rfl) rfl, xq_55_3⟩
theorem xq_55_1 : xOKs xsg xm_55 xk_55_0 xk_55_1 := ⟨xok_p (xp_iconst (v := 0) (by decide +kernel : decode xm_55.2.1 1 = .ok (.iconst 0, 1)) (by decide)) rfl, xq_55_2⟩
theorem xq_55_0 : xOKs xsg xm_55 xk_55_0 xk_55_0 := ⟨xok_ld (xl_aload_n (by decide +kernel : decode xm_55.2.1 0 = .ok (.aload_n 0, 1))) rfl, xq_55_1⟩
theorem xz_55 : xwf xsg xm_55 xk_55_0 := ⟨xq_55_0, rfl, by decide⟩
/-! FeatherBenchModel.lay(J)V -/
theorem xq_56_39 : xOKs xsg xm_56 xk_56_0 xk_56_39 := trivial
theorem xq_56_38 : xOKs xsg xm_56 xk_56_0 xk_56_38 := ⟨xok_ret0 (by decide +kernel : decode xm_56.2.1 75 = .ok (.return_, 1)) rfl, xq_56_39⟩
theorem xq_56_37 : xOKs xsg xm_56 xk_56_0 xk_56_37 := ⟨xok_br (tgt := 3) (xb_go (by decide +kernel : decode xm_56.2.1 72 = .ok (.goto (-69), 3)) (by decide)) (by decide +kernel) rfl, xq_56_38⟩
theorem xq_56_36 : xOKs xsg xm_56 xk_56_0 xk_56_36 := ⟨xok_inc (by decide +kernel : decode xm_56.2.1 69 = .ok (.iinc 3 (-8), 3)) (by decide) rfl, xq_56_37⟩
theorem xq_56_35 : xOKs xsg xm_56 xk_56_0 xk_56_35 := ⟨xok_put (by decide +kernel : decode xm_56.2.1 66 = .ok (.putfield 259, 3)) (rfl : vwCl[12]? = some (RX12, TX12, 125)) inX12 tyX12_ok nmX12 (k := 2) (by decide) rfl (xT_c6 63 rfl rfl) rfl, xq_56_36⟩
theorem xq_56_34 : xOKs xsg xm_56 xk_56_0 xk_56_34 := ⟨xok_p (xp_iadd (by decide +kernel : decode xm_56.2.1 65 = .ok (.iadd, 1))) rfl, xq_56_35⟩
theorem xq_56_33 : xOKs xsg xm_56 xk_56_0 xk_56_33 := ⟨xok_p (xp_iconst (v := 1) (by decide +kernel : decode xm_56.2.1 64 = .ok (.iconst 1, 1)) (by decide)) rfl, xq_56_34⟩
theorem xq_56_32 : xOKs xsg xm_56 xk_56_0 xk_56_32 := ⟨xok_get (by decide +kernel : decode xm_56.2.1 61 = .ok (.getfield 259, 3)) (rfl : vwCl[12]? = some (RX12, TX12, 125)) inX12 (by decide) (xT_c6 63 rfl rfl) rfl, xq_56_33⟩
theorem xq_56_31 : xOKs xsg xm_56 xk_56_0 xk_56_31 := ⟨xok_p (xp_dup (by decide +kernel : decode xm_56.2.1 60 = .ok (.dup, 1))) rfl, xq_56_32⟩
theorem xq_56_30 : xOKs xsg xm_56 xk_56_0 xk_56_30 := ⟨xok_ld (xl_aload_n (by decide +kernel : decode xm_56.2.1 59 = .ok (.aload_n 0, 1))) rfl, xq_56_31⟩
theorem xq_56_29 : xOKs xsg xm_56 xk_56_0 xk_56_29 := ⟨xok_ias (by decide +kernel : decode xm_56.2.1 58 = .ok (.iastore, 1)) rfl, xq_56_30⟩
theorem xq_56_28 : xOKs xsg xm_56 xk_56_0 xk_56_28 := ⟨xok_ld (xl_iload (by decide +kernel : decode xm_56.2.1 56 = .ok (.iload 4, 2))) rfl, xq_56_29⟩
theorem xq_56_27 : xOKs xsg xm_56 xk_56_0 xk_56_27 := ⟨xok_get (by decide +kernel : decode xm_56.2.1 53 = .ok (.getfield 259, 3)) (rfl : vwCl[12]? = some (RX12, TX12, 125)) inX12 (by decide) (xT_c6 63 rfl rfl) rfl, xq_56_28⟩
theorem xq_56_26 : xOKs xsg xm_56 xk_56_0 xk_56_26 := ⟨xok_ld (xl_aload_n (by decide +kernel : decode xm_56.2.1 52 = .ok (.aload_n 0, 1))) rfl, xq_56_27⟩
theorem xq_56_25 : xOKs xsg xm_56 xk_56_0 xk_56_25 := ⟨xok_get (by decide +kernel : decode xm_56.2.1 49 = .ok (.getfield 7, 3)) (rfl : vwCl[12]? = some (RX12, TX12, 125)) inX12 (by decide) (xT_c6 62 rfl rfl) rfl, xq_56_26⟩
theorem xq_56_24 : xOKs xsg xm_56 xk_56_0 xk_56_24 := ⟨xok_ld (xl_aload_n (by decide +kernel : decode xm_56.2.1 48 = .ok (.aload_n 0, 1))) rfl, xq_56_25⟩
theorem xq_56_23 : xOKs xsg xm_56 xk_56_0 xk_56_23 := ⟨xok_br (tgt := 69) (xb_ige (by decide +kernel : decode xm_56.2.1 45 = .ok (.if_icmp .ge 24, 3)) (by decide)) (by decide +kernel) rfl, xq_56_24⟩
theorem xq_56_22 : xOKs xsg xm_56 xk_56_0 xk_56_22 := ⟨xok_p (xp_sipush (v := 4000) (by decide +kernel : decode xm_56.2.1 42 = .ok (.sipush 4000, 3)) (by decide)) rfl, xq_56_23⟩
theorem xq_56_21 : xOKs xsg xm_56 xk_56_0 xk_56_21 := ⟨xok_get (by decide +kernel : decode xm_56.2.1 39 = .ok (.getfield 259, 3)) (rfl : vwCl[12]? = some (RX12, TX12, 125)) inX12 (by decide) (xT_c6 63 rfl rfl) rfl, xq_56_22⟩
theorem xq_56_20 : xOKs xsg xm_56 xk_56_0 xk_56_20 := ⟨xok_ld (xl_aload_n (by decide +kernel : decode xm_56.2.1 38 = .ok (.aload_n 0, 1))) rfl, xq_56_21⟩
theorem xq_56_19 : xOKs xsg xm_56 xk_56_0 xk_56_19 := ⟨xok_br (tgt := 69) (xb_igt (by decide +kernel : decode xm_56.2.1 35 = .ok (.if_icmp .gt 34, 3)) (by decide)) (by decide +kernel) rfl, xq_56_20⟩
theorem xq_56_18 : xOKs xsg xm_56 xk_56_0 xk_56_18 := ⟨xok_p (xp_bipush (v := 126) (by decide +kernel : decode xm_56.2.1 33 = .ok (.bipush 126, 2)) (by decide)) rfl, xq_56_19⟩
theorem xq_56_17 : xOKs xsg xm_56 xk_56_0 xk_56_17 := ⟨xok_ld (xl_iload (by decide +kernel : decode xm_56.2.1 31 = .ok (.iload 4, 2))) rfl, xq_56_18⟩
theorem xq_56_16 : xOKs xsg xm_56 xk_56_0 xk_56_16 := ⟨xok_br (tgt := 69) (xb_ilt (by decide +kernel : decode xm_56.2.1 28 = .ok (.if_icmp .lt 41, 3)) (by decide)) (by decide +kernel) rfl, xq_56_17⟩
theorem xq_56_15 : xOKs xsg xm_56 xk_56_0 xk_56_15 := ⟨xok_p (xp_bipush (v := 32) (by decide +kernel : decode xm_56.2.1 26 = .ok (.bipush 32, 2)) (by decide)) rfl, xq_56_16⟩
theorem xq_56_14 : xOKs xsg xm_56 xk_56_0 xk_56_14 := ⟨xok_ld (xl_iload (by decide +kernel : decode xm_56.2.1 24 = .ok (.iload 4, 2))) rfl, xq_56_15⟩
theorem xq_56_13 : xOKs xsg xm_56 xk_56_0 xk_56_13 := ⟨xok_br (tgt := 38) (xb_ieq (by decide +kernel : decode xm_56.2.1 21 = .ok (.if_icmp .eq 17, 3)) (by decide)) (by decide +kernel) rfl, xq_56_14⟩
theorem xq_56_12 : xOKs xsg xm_56 xk_56_0 xk_56_12 := ⟨xok_p (xp_bipush (v := 10) (by decide +kernel : decode xm_56.2.1 19 = .ok (.bipush 10, 2)) (by decide)) rfl, xq_56_13⟩
theorem xq_56_11 : xOKs xsg xm_56 xk_56_0 xk_56_11 := ⟨xok_ld (xl_iload (by decide +kernel : decode xm_56.2.1 17 = .ok (.iload 4, 2))) rfl, xq_56_12⟩
theorem xq_56_10 : xOKs xsg xm_56 xk_56_0 xk_56_10 := ⟨xok_st (xs_istore (by decide +kernel : decode xm_56.2.1 15 = .ok (.istore 4, 2)) (by decide)) rfl, xq_56_11⟩
theorem xq_56_9 : xOKs xsg xm_56 xk_56_0 xk_56_9 := ⟨xok_p (xp_iand (by decide +kernel : decode xm_56.2.1 14 = .ok (.iand, 1))) rfl, xq_56_10⟩
theorem xq_56_8 : xOKs xsg xm_56 xk_56_0 xk_56_8 := ⟨xok_p (xp_sipush (v := 255) (by decide +kernel : decode xm_56.2.1 11 = .ok (.sipush 255, 3)) (by decide)) rfl, xq_56_9⟩
theorem xq_56_7 : xOKs xsg xm_56 xk_56_0 xk_56_7 := ⟨xok_p (xp_l2i (by decide +kernel : decode xm_56.2.1 10 = .ok (.l2i, 1))) rfl, xq_56_8⟩
theorem xq_56_6 : xOKs xsg xm_56 xk_56_0 xk_56_6 := ⟨xok_p (xp_lshr (by decide +kernel : decode xm_56.2.1 9 = .ok (.lshr, 1))) rfl, xq_56_7⟩
theorem xq_56_5 : xOKs xsg xm_56 xk_56_0 xk_56_5 := ⟨xok_ld (xl_iload_n (by decide +kernel : decode xm_56.2.1 8 = .ok (.iload_n 3, 1))) rfl, xq_56_6⟩
theorem xq_56_4 : xOKs xsg xm_56 xk_56_0 xk_56_4 := ⟨xok_ld (xl_lload_n (by decide +kernel : decode xm_56.2.1 7 = .ok (.lload_n 1, 1))) rfl, xq_56_5⟩
theorem xq_56_3 : xOKs xsg xm_56 xk_56_0 xk_56_3 := ⟨xok_br (tgt := 75) (xb_lt (by decide +kernel : decode xm_56.2.1 4 = .ok (.ifCond .lt 71, 3)) (by decide)) (by decide +kernel) rfl, xq_56_4⟩
theorem xq_56_2 : xOKs xsg xm_56 xk_56_0 xk_56_2 := ⟨xok_ld (xl_iload_n (by decide +kernel : decode xm_56.2.1 3 = .ok (.iload_n 3, 1))) rfl, xq_56_3⟩
theorem xq_56_1 : xOKs xsg xm_56 xk_56_0 xk_56_1 := ⟨xok_st (xs_istore_n (by decide +kernel : decode xm_56.2.1 2 = .ok (.istore_n 3, 1)) (by decide)) rfl, xq_56_2⟩
theorem xq_56_0 : xOKs xsg xm_56 xk_56_0 xk_56_0 := ⟨xok_p (xp_bipush (v := 56) (by decide +kernel : decode xm_56.2.1 0 = .ok (.bipush 56, 2)) (by decide)) rfl, xq_56_1⟩
theorem xz_56 : xwf xsg xm_56 xk_56_0 := ⟨xq_56_0, rfl, by decide⟩
/-! FeatherBenchModel.rank(I)I -/
theorem xq_57_24 : xOKs xsg xm_57 xk_57_0 xk_57_24 := trivial
theorem xq_57_23 : xOKs xsg xm_57 xk_57_0 xk_57_23 := ⟨xok_retI (by decide +kernel : decode xm_57.2.1 38 = .ok (.ireturn, 1)) rfl, xq_57_24⟩
theorem xq_57_22 : xOKs xsg xm_57 xk_57_0 xk_57_22 := ⟨xok_none, xq_57_23⟩
theorem xq_57_21 : xOKs xsg xm_57 xk_57_0 xk_57_21 := ⟨xok_none, xq_57_22⟩
theorem xq_57_20 : xOKs xsg xm_57 xk_57_0 xk_57_20 := ⟨xok_none, xq_57_21⟩
theorem xq_57_19 : xOKs xsg xm_57 xk_57_0 xk_57_19 := ⟨xok_none, xq_57_20⟩
theorem xq_57_18 : xOKs xsg xm_57 xk_57_0 xk_57_18 := ⟨xok_none, xq_57_19⟩
theorem xq_57_17 : xOKs xsg xm_57 xk_57_0 xk_57_17 := ⟨xok_none, xq_57_18⟩
theorem xq_57_16 : xOKs xsg xm_57 xk_57_0 xk_57_16 := ⟨xok_none, xq_57_17⟩
theorem xq_57_15 : xOKs xsg xm_57 xk_57_0 xk_57_15 := ⟨xok_none, xq_57_16⟩
theorem xq_57_14 : xOKs xsg xm_57 xk_57_0 xk_57_14 := ⟨xok_none, xq_57_15⟩
theorem xq_57_13 : xOKs xsg xm_57 xk_57_0 xk_57_13 := ⟨xok_none, xq_57_14⟩
theorem xq_57_12 : xOKs xsg xm_57 xk_57_0 xk_57_12 := ⟨xok_none, xq_57_13⟩
theorem xq_57_11 : xOKs xsg xm_57 xk_57_0 xk_57_11 := ⟨xok_none, xq_57_12⟩
theorem xq_57_10 : xOKs xsg xm_57 xk_57_0 xk_57_10 := ⟨xok_none, xq_57_11⟩
theorem xq_57_9 : xOKs xsg xm_57 xk_57_0 xk_57_9 := ⟨xok_none, xq_57_10⟩
theorem xq_57_8 : xOKs xsg xm_57 xk_57_0 xk_57_8 := ⟨xok_br (tgt := 38) (xb_go (by decide +kernel : decode xm_57.2.1 12 = .ok (.goto 26, 3)) (by decide)) (by decide +kernel) rfl, xq_57_9⟩
theorem xq_57_7 : xOKs xsg xm_57 xk_57_0 xk_57_7 := ⟨xok_p (xp_iadd (by decide +kernel : decode xm_57.2.1 11 = .ok (.iadd, 1))) rfl, xq_57_8⟩
theorem xq_57_6 : xOKs xsg xm_57 xk_57_0 xk_57_6 := ⟨xok_p (xp_iconst (v := 1) (by decide +kernel : decode xm_57.2.1 10 = .ok (.iconst 1, 1)) (by decide)) rfl, xq_57_7⟩
theorem xq_57_5 : xOKs xsg xm_57 xk_57_0 xk_57_5 := ⟨xok_p (xp_isub (by decide +kernel : decode xm_57.2.1 9 = .ok (.isub, 1))) rfl, xq_57_6⟩
theorem xq_57_4 : xOKs xsg xm_57 xk_57_0 xk_57_4 := ⟨xok_p (xp_bipush (v := 97) (by decide +kernel : decode xm_57.2.1 7 = .ok (.bipush 97, 2)) (by decide)) rfl, xq_57_5⟩
theorem xq_57_3 : xOKs xsg xm_57 xk_57_0 xk_57_3 := ⟨xok_ld (xl_iload_n (by decide +kernel : decode xm_57.2.1 6 = .ok (.iload_n 0, 1))) rfl, xq_57_4⟩
theorem xq_57_2 : xOKs xsg xm_57 xk_57_0 xk_57_2 := ⟨xok_br (tgt := 15) (xb_ilt (by decide +kernel : decode xm_57.2.1 3 = .ok (.if_icmp .lt 12, 3)) (by decide)) (by decide +kernel) rfl, xq_57_3⟩
theorem xq_57_1 : xOKs xsg xm_57 xk_57_0 xk_57_1 := ⟨xok_p (xp_bipush (v := 97) (by decide +kernel : decode xm_57.2.1 1 = .ok (.bipush 97, 2)) (by decide)) rfl, xq_57_2⟩
theorem xq_57_0 : xOKs xsg xm_57 xk_57_0 xk_57_0 := ⟨xok_ld (xl_iload_n (by decide +kernel : decode xm_57.2.1 0 = .ok (.iload_n 0, 1))) rfl, xq_57_1⟩
theorem xz_57 : xwf xsg xm_57 xk_57_0 := ⟨xq_57_0, rfl, by decide⟩
/-! FeatherBenchModel.wordOf(JJ)I -/
theorem xq_58_75 : xOKs xsg xm_58 xk_58_0 xk_58_75 := trivial
theorem xq_58_74 : xOKs xsg xm_58 xk_58_0 xk_58_74 := ⟨xok_retI (by decide +kernel : decode xm_58.2.1 126 = .ok (.ireturn, 1)) rfl, xq_58_75⟩
theorem xq_58_73 : xOKs xsg xm_58 xk_58_0 xk_58_73 := ⟨xok_p (xp_isub (by decide +kernel : decode xm_58.2.1 125 = .ok (.isub, 1))) rfl, xq_58_74⟩
theorem xq_58_72 : xOKs xsg xm_58 xk_58_0 xk_58_72 := ⟨xok_p (xp_iconst (v := 1) (by decide +kernel : decode xm_58.2.1 124 = .ok (.iconst 1, 1)) (by decide)) rfl, xq_58_73⟩
theorem xq_58_71 : xOKs xsg xm_58 xk_58_0 xk_58_71 := ⟨xok_ial (by decide +kernel : decode xm_58.2.1 123 = .ok (.iaload, 1)) rfl, xq_58_72⟩
theorem xq_58_70 : xOKs xsg xm_58 xk_58_0 xk_58_70 := ⟨xok_get (by decide +kernel : decode xm_58.2.1 120 = .ok (.getfield 262, 3)) (rfl : vwCl[12]? = some (RX12, TX12, 125)) inX12 (by decide) (xT_c6 70 rfl rfl) rfl, xq_58_71⟩
theorem xq_58_69 : xOKs xsg xm_58 xk_58_0 xk_58_69 := ⟨xok_ld (xl_aload_n (by decide +kernel : decode xm_58.2.1 119 = .ok (.aload_n 0, 1))) rfl, xq_58_70⟩
theorem xq_58_68 : xOKs xsg xm_58 xk_58_0 xk_58_68 := ⟨xok_get (by decide +kernel : decode xm_58.2.1 116 = .ok (.getfield 29, 3)) (rfl : vwCl[12]? = some (RX12, TX12, 125)) inX12 (by decide) (xT_c6 73 rfl rfl) rfl, xq_58_69⟩
theorem xq_58_67 : xOKs xsg xm_58 xk_58_0 xk_58_67 := ⟨xok_ld (xl_aload_n (by decide +kernel : decode xm_58.2.1 115 = .ok (.aload_n 0, 1))) rfl, xq_58_68⟩
theorem xq_58_66 : xOKs xsg xm_58 xk_58_0 xk_58_66 := ⟨xok_ias (by decide +kernel : decode xm_58.2.1 114 = .ok (.iastore, 1)) rfl, xq_58_67⟩
theorem xq_58_65 : xOKs xsg xm_58 xk_58_0 xk_58_65 := ⟨xok_p (xp_iadd (by decide +kernel : decode xm_58.2.1 113 = .ok (.iadd, 1))) rfl, xq_58_66⟩
theorem xq_58_64 : xOKs xsg xm_58 xk_58_0 xk_58_64 := ⟨xok_p (xp_iconst (v := 1) (by decide +kernel : decode xm_58.2.1 112 = .ok (.iconst 1, 1)) (by decide)) rfl, xq_58_65⟩
theorem xq_58_63 : xOKs xsg xm_58 xk_58_0 xk_58_63 := ⟨xok_ial (by decide +kernel : decode xm_58.2.1 111 = .ok (.iaload, 1)) rfl, xq_58_64⟩
theorem xq_58_62 : xOKs xsg xm_58 xk_58_0 xk_58_62 := ⟨xok_p (xp_dup2 (by decide +kernel : decode xm_58.2.1 110 = .ok (.dup2, 1))) rfl, xq_58_63⟩
theorem xq_58_61 : xOKs xsg xm_58 xk_58_0 xk_58_61 := ⟨xok_get (by decide +kernel : decode xm_58.2.1 107 = .ok (.getfield 262, 3)) (rfl : vwCl[12]? = some (RX12, TX12, 125)) inX12 (by decide) (xT_c6 70 rfl rfl) rfl, xq_58_62⟩
theorem xq_58_60 : xOKs xsg xm_58 xk_58_0 xk_58_60 := ⟨xok_ld (xl_aload_n (by decide +kernel : decode xm_58.2.1 106 = .ok (.aload_n 0, 1))) rfl, xq_58_61⟩
theorem xq_58_59 : xOKs xsg xm_58 xk_58_0 xk_58_59 := ⟨xok_get (by decide +kernel : decode xm_58.2.1 103 = .ok (.getfield 29, 3)) (rfl : vwCl[12]? = some (RX12, TX12, 125)) inX12 (by decide) (xT_c6 73 rfl rfl) rfl, xq_58_60⟩
theorem xq_58_58 : xOKs xsg xm_58 xk_58_0 xk_58_58 := ⟨xok_ld (xl_aload_n (by decide +kernel : decode xm_58.2.1 102 = .ok (.aload_n 0, 1))) rfl, xq_58_59⟩
theorem xq_58_57 : xOKs xsg xm_58 xk_58_0 xk_58_57 := ⟨xok_las (by decide +kernel : decode xm_58.2.1 101 = .ok (.lastore, 1)) rfl, xq_58_58⟩
theorem xq_58_56 : xOKs xsg xm_58 xk_58_0 xk_58_56 := ⟨xok_ld (xl_lload_n (by decide +kernel : decode xm_58.2.1 100 = .ok (.lload_n 3, 1))) rfl, xq_58_57⟩
theorem xq_58_55 : xOKs xsg xm_58 xk_58_0 xk_58_55 := ⟨xok_p (xp_iadd (by decide +kernel : decode xm_58.2.1 99 = .ok (.iadd, 1))) rfl, xq_58_56⟩
theorem xq_58_54 : xOKs xsg xm_58 xk_58_0 xk_58_54 := ⟨xok_ial (by decide +kernel : decode xm_58.2.1 98 = .ok (.iaload, 1)) rfl, xq_58_55⟩
theorem xq_58_53 : xOKs xsg xm_58 xk_58_0 xk_58_53 := ⟨xok_get (by decide +kernel : decode xm_58.2.1 95 = .ok (.getfield 262, 3)) (rfl : vwCl[12]? = some (RX12, TX12, 125)) inX12 (by decide) (xT_c6 70 rfl rfl) rfl, xq_58_54⟩
theorem xq_58_52 : xOKs xsg xm_58 xk_58_0 xk_58_52 := ⟨xok_ld (xl_aload_n (by decide +kernel : decode xm_58.2.1 94 = .ok (.aload_n 0, 1))) rfl, xq_58_53⟩
theorem xq_58_51 : xOKs xsg xm_58 xk_58_0 xk_58_51 := ⟨xok_get (by decide +kernel : decode xm_58.2.1 91 = .ok (.getfield 29, 3)) (rfl : vwCl[12]? = some (RX12, TX12, 125)) inX12 (by decide) (xT_c6 73 rfl rfl) rfl, xq_58_52⟩
theorem xq_58_50 : xOKs xsg xm_58 xk_58_0 xk_58_50 := ⟨xok_ld (xl_aload_n (by decide +kernel : decode xm_58.2.1 90 = .ok (.aload_n 0, 1))) rfl, xq_58_51⟩
theorem xq_58_49 : xOKs xsg xm_58 xk_58_0 xk_58_49 := ⟨xok_ld (xl_iload (by decide +kernel : decode xm_58.2.1 88 = .ok (.iload 5, 2))) rfl, xq_58_50⟩
theorem xq_58_48 : xOKs xsg xm_58 xk_58_0 xk_58_48 := ⟨xok_get (by decide +kernel : decode xm_58.2.1 85 = .ok (.getfield 26, 3)) (rfl : vwCl[12]? = some (RX12, TX12, 125)) inX12 (by decide) (xT_c6 72 rfl rfl) rfl, xq_58_49⟩
theorem xq_58_47 : xOKs xsg xm_58 xk_58_0 xk_58_47 := ⟨xok_ld (xl_aload_n (by decide +kernel : decode xm_58.2.1 84 = .ok (.aload_n 0, 1))) rfl, xq_58_48⟩
theorem xq_58_46 : xOKs xsg xm_58 xk_58_0 xk_58_46 := ⟨xok_las (by decide +kernel : decode xm_58.2.1 83 = .ok (.lastore, 1)) rfl, xq_58_47⟩
theorem xq_58_45 : xOKs xsg xm_58 xk_58_0 xk_58_45 := ⟨xok_ld (xl_lload_n (by decide +kernel : decode xm_58.2.1 82 = .ok (.lload_n 1, 1))) rfl, xq_58_46⟩
theorem xq_58_44 : xOKs xsg xm_58 xk_58_0 xk_58_44 := ⟨xok_p (xp_iadd (by decide +kernel : decode xm_58.2.1 81 = .ok (.iadd, 1))) rfl, xq_58_45⟩
theorem xq_58_43 : xOKs xsg xm_58 xk_58_0 xk_58_43 := ⟨xok_ial (by decide +kernel : decode xm_58.2.1 80 = .ok (.iaload, 1)) rfl, xq_58_44⟩
theorem xq_58_42 : xOKs xsg xm_58 xk_58_0 xk_58_42 := ⟨xok_get (by decide +kernel : decode xm_58.2.1 77 = .ok (.getfield 262, 3)) (rfl : vwCl[12]? = some (RX12, TX12, 125)) inX12 (by decide) (xT_c6 70 rfl rfl) rfl, xq_58_43⟩
theorem xq_58_41 : xOKs xsg xm_58 xk_58_0 xk_58_41 := ⟨xok_ld (xl_aload_n (by decide +kernel : decode xm_58.2.1 76 = .ok (.aload_n 0, 1))) rfl, xq_58_42⟩
theorem xq_58_40 : xOKs xsg xm_58 xk_58_0 xk_58_40 := ⟨xok_get (by decide +kernel : decode xm_58.2.1 73 = .ok (.getfield 29, 3)) (rfl : vwCl[12]? = some (RX12, TX12, 125)) inX12 (by decide) (xT_c6 73 rfl rfl) rfl, xq_58_41⟩
theorem xq_58_39 : xOKs xsg xm_58 xk_58_0 xk_58_39 := ⟨xok_ld (xl_aload_n (by decide +kernel : decode xm_58.2.1 72 = .ok (.aload_n 0, 1))) rfl, xq_58_40⟩
theorem xq_58_38 : xOKs xsg xm_58 xk_58_0 xk_58_38 := ⟨xok_ld (xl_iload (by decide +kernel : decode xm_58.2.1 70 = .ok (.iload 5, 2))) rfl, xq_58_39⟩
theorem xq_58_37 : xOKs xsg xm_58 xk_58_0 xk_58_37 := ⟨xok_get (by decide +kernel : decode xm_58.2.1 67 = .ok (.getfield 22, 3)) (rfl : vwCl[12]? = some (RX12, TX12, 125)) inX12 (by decide) (xT_c6 71 rfl rfl) rfl, xq_58_38⟩
theorem xq_58_36 : xOKs xsg xm_58 xk_58_0 xk_58_36 := ⟨xok_ld (xl_aload_n (by decide +kernel : decode xm_58.2.1 66 = .ok (.aload_n 0, 1))) rfl, xq_58_37⟩
theorem xq_58_35 : xOKs xsg xm_58 xk_58_0 xk_58_35 := ⟨xok_br (tgt := 13) (xb_go (by decide +kernel : decode xm_58.2.1 63 = .ok (.goto (-50), 3)) (by decide)) (by decide +kernel) rfl, xq_58_36⟩
theorem xq_58_34 : xOKs xsg xm_58 xk_58_0 xk_58_34 := ⟨xok_inc (by decide +kernel : decode xm_58.2.1 60 = .ok (.iinc 6 1, 3)) (by decide) rfl, xq_58_35⟩
theorem xq_58_33 : xOKs xsg xm_58 xk_58_0 xk_58_33 := ⟨xok_none, xq_58_34⟩
theorem xq_58_32 : xOKs xsg xm_58 xk_58_0 xk_58_32 := ⟨xok_none, xq_58_33⟩
theorem xq_58_31 : xOKs xsg xm_58 xk_58_0 xk_58_31 := ⟨xok_none, xq_58_32⟩
theorem xq_58_30 : xOKs xsg xm_58 xk_58_0 xk_58_30 := ⟨xok_none, xq_58_31⟩
theorem xq_58_29 : xOKs xsg xm_58 xk_58_0 xk_58_29 := ⟨xok_none, xq_58_30⟩
theorem xq_58_28 : xOKs xsg xm_58 xk_58_0 xk_58_28 := ⟨xok_none, xq_58_29⟩
theorem xq_58_27 : xOKs xsg xm_58 xk_58_0 xk_58_27 := ⟨xok_none, xq_58_28⟩
theorem xq_58_26 : xOKs xsg xm_58 xk_58_0 xk_58_26 := ⟨xok_none, xq_58_27⟩
theorem xq_58_25 : xOKs xsg xm_58 xk_58_0 xk_58_25 := ⟨xok_none, xq_58_26⟩
theorem xq_58_24 : xOKs xsg xm_58 xk_58_0 xk_58_24 := ⟨xok_none, xq_58_25⟩
theorem xq_58_23 : xOKs xsg xm_58 xk_58_0 xk_58_23 := ⟨xok_none, xq_58_24⟩
theorem xq_58_22 : xOKs xsg xm_58 xk_58_0 xk_58_22 := ⟨xok_br (tgt := 60) (xb_ne (by decide +kernel : decode xm_58.2.1 39 = .ok (.ifCond .ne 21, 3)) (by decide)) (by decide +kernel) rfl, xq_58_23⟩
theorem xq_58_21 : xOKs xsg xm_58 xk_58_0 xk_58_21 := ⟨xok_p (xp_lcmp (by decide +kernel : decode xm_58.2.1 38 = .ok (.lcmp, 1))) rfl, xq_58_22⟩
theorem xq_58_20 : xOKs xsg xm_58 xk_58_0 xk_58_20 := ⟨xok_ld (xl_lload_n (by decide +kernel : decode xm_58.2.1 37 = .ok (.lload_n 1, 1))) rfl, xq_58_21⟩
theorem xq_58_19 : xOKs xsg xm_58 xk_58_0 xk_58_19 := ⟨xok_lal (by decide +kernel : decode xm_58.2.1 36 = .ok (.laload, 1)) rfl, xq_58_20⟩
theorem xq_58_18 : xOKs xsg xm_58 xk_58_0 xk_58_18 := ⟨xok_p (xp_iadd (by decide +kernel : decode xm_58.2.1 35 = .ok (.iadd, 1))) rfl, xq_58_19⟩
theorem xq_58_17 : xOKs xsg xm_58 xk_58_0 xk_58_17 := ⟨xok_ld (xl_iload (by decide +kernel : decode xm_58.2.1 33 = .ok (.iload 6, 2))) rfl, xq_58_18⟩
theorem xq_58_16 : xOKs xsg xm_58 xk_58_0 xk_58_16 := ⟨xok_ld (xl_iload (by decide +kernel : decode xm_58.2.1 31 = .ok (.iload 5, 2))) rfl, xq_58_17⟩
theorem xq_58_15 : xOKs xsg xm_58 xk_58_0 xk_58_15 := ⟨xok_get (by decide +kernel : decode xm_58.2.1 28 = .ok (.getfield 22, 3)) (rfl : vwCl[12]? = some (RX12, TX12, 125)) inX12 (by decide) (xT_c6 71 rfl rfl) rfl, xq_58_16⟩
theorem xq_58_14 : xOKs xsg xm_58 xk_58_0 xk_58_14 := ⟨xok_ld (xl_aload_n (by decide +kernel : decode xm_58.2.1 27 = .ok (.aload_n 0, 1))) rfl, xq_58_15⟩
theorem xq_58_13 : xOKs xsg xm_58 xk_58_0 xk_58_13 := ⟨xok_br (tgt := 66) (xb_ige (by decide +kernel : decode xm_58.2.1 24 = .ok (.if_icmp .ge 42, 3)) (by decide)) (by decide +kernel) rfl, xq_58_14⟩
theorem xq_58_12 : xOKs xsg xm_58 xk_58_0 xk_58_12 := ⟨xok_ial (by decide +kernel : decode xm_58.2.1 23 = .ok (.iaload, 1)) rfl, xq_58_13⟩
theorem xq_58_11 : xOKs xsg xm_58 xk_58_0 xk_58_11 := ⟨xok_get (by decide +kernel : decode xm_58.2.1 20 = .ok (.getfield 262, 3)) (rfl : vwCl[12]? = some (RX12, TX12, 125)) inX12 (by decide) (xT_c6 70 rfl rfl) rfl, xq_58_12⟩
theorem xq_58_10 : xOKs xsg xm_58 xk_58_0 xk_58_10 := ⟨xok_ld (xl_aload_n (by decide +kernel : decode xm_58.2.1 19 = .ok (.aload_n 0, 1))) rfl, xq_58_11⟩
theorem xq_58_9 : xOKs xsg xm_58 xk_58_0 xk_58_9 := ⟨xok_get (by decide +kernel : decode xm_58.2.1 16 = .ok (.getfield 29, 3)) (rfl : vwCl[12]? = some (RX12, TX12, 125)) inX12 (by decide) (xT_c6 73 rfl rfl) rfl, xq_58_10⟩
theorem xq_58_8 : xOKs xsg xm_58 xk_58_0 xk_58_8 := ⟨xok_ld (xl_aload_n (by decide +kernel : decode xm_58.2.1 15 = .ok (.aload_n 0, 1))) rfl, xq_58_9⟩
theorem xq_58_7 : xOKs xsg xm_58 xk_58_0 xk_58_7 := ⟨xok_ld (xl_iload (by decide +kernel : decode xm_58.2.1 13 = .ok (.iload 6, 2))) rfl, xq_58_8⟩
theorem xq_58_6 : xOKs xsg xm_58 xk_58_0 xk_58_6 := ⟨xok_st (xs_istore (by decide +kernel : decode xm_58.2.1 11 = .ok (.istore 6, 2)) (by decide)) rfl, xq_58_7⟩
theorem xq_58_5 : xOKs xsg xm_58 xk_58_0 xk_58_5 := ⟨xok_p (xp_iconst (v := 0) (by decide +kernel : decode xm_58.2.1 10 = .ok (.iconst 0, 1)) (by decide)) rfl, xq_58_6⟩
theorem xq_58_4 : xOKs xsg xm_58 xk_58_0 xk_58_4 := ⟨xok_st (xs_istore (by decide +kernel : decode xm_58.2.1 8 = .ok (.istore 5, 2)) (by decide)) rfl, xq_58_5⟩
theorem xq_58_3 : xOKs xsg xm_58 xk_58_0 xk_58_3 := ⟨xok_p (xp_imul (by decide +kernel : decode xm_58.2.1 7 = .ok (.imul, 1))) rfl, xq_58_4⟩
theorem xq_58_2 : xOKs xsg xm_58 xk_58_0 xk_58_2 := ⟨xok_get (by decide +kernel : decode xm_58.2.1 4 = .ok (.getfield 262, 3)) (rfl : vwCl[12]? = some (RX12, TX12, 125)) inX12 (by decide) (xT_c6 70 rfl rfl) rfl, xq_58_3⟩
theorem xq_58_1 : xOKs xsg xm_58 xk_58_0 xk_58_1 := ⟨xok_ld (xl_aload_n (by decide +kernel : decode xm_58.2.1 3 = .ok (.aload_n 0, 1))) rfl, xq_58_2⟩
theorem xq_58_0 : xOKs xsg xm_58 xk_58_0 xk_58_0 := ⟨xok_p (xp_sipush (v := 2100) (by decide +kernel : decode xm_58.2.1 0 = .ok (.sipush 2100, 3)) (by decide)) rfl, xq_58_1⟩
theorem xz_58 : xwf xsg xm_58 xk_58_0 := ⟨xq_58_0, rfl, by decide⟩
/-! FeatherBenchModel.keptWords()V -/
theorem xq_59_40 : xOKs xsg xm_59 xk_59_0 xk_59_40 := trivial
theorem xq_59_39 : xOKs xsg xm_59 xk_59_0 xk_59_39 := ⟨xok_ret0 (by decide +kernel : decode xm_59.2.1 70 = .ok (.return_, 1)) rfl, xq_59_40⟩
theorem xq_59_38 : xOKs xsg xm_59 xk_59_0 xk_59_38 := ⟨xok_br (tgt := 14) (xb_go (by decide +kernel : decode xm_59.2.1 67 = .ok (.goto (-53), 3)) (by decide)) (by decide +kernel) rfl, xq_59_39⟩
theorem xq_59_37 : xOKs xsg xm_59 xk_59_0 xk_59_37 := ⟨xok_inc (by decide +kernel : decode xm_59.2.1 64 = .ok (.iinc 3 1, 3)) (by decide) rfl, xq_59_38⟩
theorem xq_59_36 : xOKs xsg xm_59 xk_59_0 xk_59_36 := ⟨xok_st (xs_lstore_n (by decide +kernel : decode xm_59.2.1 63 = .ok (.lstore_n 1, 1)) (by decide)) rfl, xq_59_37⟩
theorem xq_59_35 : xOKs xsg xm_59 xk_59_0 xk_59_35 := ⟨xok_p (xp_ladd (by decide +kernel : decode xm_59.2.1 62 = .ok (.ladd, 1))) rfl, xq_59_36⟩
theorem xq_59_34 : xOKs xsg xm_59 xk_59_0 xk_59_34 := ⟨xok_p (xp_i2l (by decide +kernel : decode xm_59.2.1 61 = .ok (.i2l, 1))) rfl, xq_59_35⟩
theorem xq_59_33 : xOKs xsg xm_59 xk_59_0 xk_59_33 := ⟨xok_callS (M' := xm_57) rfl (by decide +kernel : decode xm_59.2.1 58 = .ok (.invokestatic 280, 3)) xn_57 (xT_c7 221 rfl rfl) (xT_c7 220 rfl rfl) rfl, xq_59_34⟩
theorem xq_59_32 : xOKs xsg xm_59 xk_59_0 xk_59_32 := ⟨xok_ld (xl_iload (by decide +kernel : decode xm_59.2.1 56 = .ok (.iload 4, 2))) rfl, xq_59_33⟩
theorem xq_59_31 : xOKs xsg xm_59 xk_59_0 xk_59_31 := ⟨xok_p (xp_lmul (by decide +kernel : decode xm_59.2.1 55 = .ok (.lmul, 1))) rfl, xq_59_32⟩
theorem xq_59_30 : xOKs xsg xm_59 xk_59_0 xk_59_30 := ⟨xok_ld (xl_lload_n (by decide +kernel : decode xm_59.2.1 54 = .ok (.lload_n 1, 1))) rfl, xq_59_31⟩
theorem xq_59_29 : xOKs xsg xm_59 xk_59_0 xk_59_29 := ⟨xok_p (xp_ldc2 (v := 64) (by decide +kernel : decode xm_59.2.1 51 = .ok (.ldc2_w 278, 3)) (xT_c7 219 rfl rfl)) rfl, xq_59_30⟩
theorem xq_59_28 : xOKs xsg xm_59 xk_59_0 xk_59_28 := ⟨xok_br (tgt := 64) (xb_go (by decide +kernel : decode xm_59.2.1 48 = .ok (.goto 16, 3)) (by decide)) (by decide +kernel) rfl, xq_59_29⟩
theorem xq_59_27 : xOKs xsg xm_59 xk_59_0 xk_59_27 := ⟨xok_st (xs_lstore_n (by decide +kernel : decode xm_59.2.1 47 = .ok (.lstore_n 1, 1)) (by decide)) rfl, xq_59_28⟩
theorem xq_59_26 : xOKs xsg xm_59 xk_59_0 xk_59_26 := ⟨xok_p (xp_lconst (v := 0) (by decide +kernel : decode xm_59.2.1 46 = .ok (.lconst 0, 1)) (by decide)) rfl, xq_59_27⟩
theorem xq_59_25 : xOKs xsg xm_59 xk_59_0 xk_59_25 := ⟨xok_st (xs_istore (by decide +kernel : decode xm_59.2.1 44 = .ok (.istore 5, 2)) (by decide)) rfl, xq_59_26⟩
theorem xq_59_24 : xOKs xsg xm_59 xk_59_0 xk_59_24 := ⟨xok_callV (M' := xm_58) rfl (rfl : vwCl[12]? = some (RX12, TX12, 125)) (by decide +kernel : decode xm_59.2.1 41 = .ok (.invokevirtual 274, 3)) xn_58 (xT_c7 217 rfl rfl) (xT_c0 69 rfl rfl) (xT_c7 215 rfl rfl) rfl, xq_59_25⟩
theorem xq_59_23 : xOKs xsg xm_59 xk_59_0 xk_59_23 := ⟨xok_p (xp_lconst (v := 0) (by decide +kernel : decode xm_59.2.1 40 = .ok (.lconst 0, 1)) (by decide)) rfl, xq_59_24⟩
theorem xq_59_22 : xOKs xsg xm_59 xk_59_0 xk_59_22 := ⟨xok_ld (xl_lload_n (by decide +kernel : decode xm_59.2.1 39 = .ok (.lload_n 1, 1))) rfl, xq_59_23⟩
theorem xq_59_21 : xOKs xsg xm_59 xk_59_0 xk_59_21 := ⟨xok_ld (xl_aload_n (by decide +kernel : decode xm_59.2.1 38 = .ok (.aload_n 0, 1))) rfl, xq_59_22⟩
theorem xq_59_20 : xOKs xsg xm_59 xk_59_0 xk_59_20 := ⟨xok_br (tgt := 51) (xb_ine (by decide +kernel : decode xm_59.2.1 35 = .ok (.if_icmp .ne 16, 3)) (by decide)) (by decide +kernel) rfl, xq_59_21⟩
theorem xq_59_19 : xOKs xsg xm_59 xk_59_0 xk_59_19 := ⟨xok_p (xp_bipush (v := 32) (by decide +kernel : decode xm_59.2.1 33 = .ok (.bipush 32, 2)) (by decide)) rfl, xq_59_20⟩
theorem xq_59_18 : xOKs xsg xm_59 xk_59_0 xk_59_18 := ⟨xok_ld (xl_iload (by decide +kernel : decode xm_59.2.1 31 = .ok (.iload 4, 2))) rfl, xq_59_19⟩
theorem xq_59_17 : xOKs xsg xm_59 xk_59_0 xk_59_17 := ⟨xok_st (xs_istore (by decide +kernel : decode xm_59.2.1 29 = .ok (.istore 4, 2)) (by decide)) rfl, xq_59_18⟩
theorem xq_59_16 : xOKs xsg xm_59 xk_59_0 xk_59_16 := ⟨xok_chS (by decide +kernel : decode xm_59.2.1 26 = .ok (.invokevirtual 270, 3)) (xT_c7 214 rfl rfl) rfl, xq_59_17⟩
theorem xq_59_15 : xOKs xsg xm_59 xk_59_0 xk_59_15 := ⟨xok_ld (xl_iload_n (by decide +kernel : decode xm_59.2.1 25 = .ok (.iload_n 3, 1))) rfl, xq_59_16⟩
theorem xq_59_14 : xOKs xsg xm_59 xk_59_0 xk_59_14 := ⟨xok_p (xp_ldcS (by decide +kernel : decode xm_59.2.1 23 = .ok (.ldc 32, 2)) rfl) rfl, xq_59_15⟩
theorem xq_59_13 : xOKs xsg xm_59 xk_59_0 xk_59_13 := ⟨xok_br (tgt := 70) (xb_ige (by decide +kernel : decode xm_59.2.1 20 = .ok (.if_icmp .ge 50, 3)) (by decide)) (by decide +kernel) rfl, xq_59_14⟩
theorem xq_59_12 : xOKs xsg xm_59 xk_59_0 xk_59_12 := ⟨xok_lenS (by decide +kernel : decode xm_59.2.1 17 = .ok (.invokevirtual 265, 3)) (xT_c7 213 rfl rfl) rfl, xq_59_13⟩
theorem xq_59_11 : xOKs xsg xm_59 xk_59_0 xk_59_11 := ⟨xok_p (xp_ldcS (by decide +kernel : decode xm_59.2.1 15 = .ok (.ldc 32, 2)) rfl) rfl, xq_59_12⟩
theorem xq_59_10 : xOKs xsg xm_59 xk_59_0 xk_59_10 := ⟨xok_ld (xl_iload_n (by decide +kernel : decode xm_59.2.1 14 = .ok (.iload_n 3, 1))) rfl, xq_59_11⟩
theorem xq_59_9 : xOKs xsg xm_59 xk_59_0 xk_59_9 := ⟨xok_st (xs_istore_n (by decide +kernel : decode xm_59.2.1 13 = .ok (.istore_n 3, 1)) (by decide)) rfl, xq_59_10⟩
theorem xq_59_8 : xOKs xsg xm_59 xk_59_0 xk_59_8 := ⟨xok_p (xp_iconst (v := 0) (by decide +kernel : decode xm_59.2.1 12 = .ok (.iconst 0, 1)) (by decide)) rfl, xq_59_9⟩
theorem xq_59_7 : xOKs xsg xm_59 xk_59_0 xk_59_7 := ⟨xok_st (xs_lstore_n (by decide +kernel : decode xm_59.2.1 11 = .ok (.lstore_n 1, 1)) (by decide)) rfl, xq_59_8⟩
theorem xq_59_6 : xOKs xsg xm_59 xk_59_0 xk_59_6 := ⟨xok_p (xp_lconst (v := 0) (by decide +kernel : decode xm_59.2.1 10 = .ok (.lconst 0, 1)) (by decide)) rfl, xq_59_7⟩
theorem xq_59_5 : xOKs xsg xm_59 xk_59_0 xk_59_5 := ⟨xok_ias (by decide +kernel : decode xm_59.2.1 9 = .ok (.iastore, 1)) rfl, xq_59_6⟩
theorem xq_59_4 : xOKs xsg xm_59 xk_59_0 xk_59_4 := ⟨xok_p (xp_iconst (v := 0) (by decide +kernel : decode xm_59.2.1 8 = .ok (.iconst 0, 1)) (by decide)) rfl, xq_59_5⟩
theorem xq_59_3 : xOKs xsg xm_59 xk_59_0 xk_59_3 := ⟨xok_get (by decide +kernel : decode xm_59.2.1 5 = .ok (.getfield 262, 3)) (rfl : vwCl[12]? = some (RX12, TX12, 125)) inX12 (by decide) (xT_c6 70 rfl rfl) rfl, xq_59_4⟩
theorem xq_59_2 : xOKs xsg xm_59 xk_59_0 xk_59_2 := ⟨xok_ld (xl_aload_n (by decide +kernel : decode xm_59.2.1 4 = .ok (.aload_n 0, 1))) rfl, xq_59_3⟩
theorem xq_59_1 : xOKs xsg xm_59 xk_59_0 xk_59_1 := ⟨xok_get (by decide +kernel : decode xm_59.2.1 1 = .ok (.getfield 29, 3)) (rfl : vwCl[12]? = some (RX12, TX12, 125)) inX12 (by decide) (xT_c6 73 rfl rfl) rfl, xq_59_2⟩
theorem xq_59_0 : xOKs xsg xm_59 xk_59_0 xk_59_0 := ⟨xok_ld (xl_aload_n (by decide +kernel : decode xm_59.2.1 0 = .ok (.aload_n 0, 1))) rfl, xq_59_1⟩
theorem xz_59 : xwf xsg xm_59 xk_59_0 := ⟨xq_59_0, rfl, by decide⟩
/-! FeatherBenchModel.cutAll()V -/
theorem xq_60_179 : xOKs xsg xm_60 xk_60_0 xk_60_179 := trivial
theorem xq_60_178 : xOKs xsg xm_60 xk_60_0 xk_60_178 := ⟨xok_ret0 (by decide +kernel : decode xm_60.2.1 326 = .ok (.return_, 1)) rfl, xq_60_179⟩
theorem xq_60_177 : xOKs xsg xm_60 xk_60_0 xk_60_177 := ⟨xok_put (by decide +kernel : decode xm_60.2.1 323 = .ok (.putfield 300, 3)) (rfl : vwCl[12]? = some (RX12, TX12, 125)) inX12 tyX12_ok nmX12 (k := 8) (by decide) rfl (xT_c6 69 rfl rfl) rfl, xq_60_178⟩
theorem xq_60_176 : xOKs xsg xm_60 xk_60_0 xk_60_176 := ⟨xok_p (xp_iconst (v := 0) (by decide +kernel : decode xm_60.2.1 322 = .ok (.iconst 0, 1)) (by decide)) rfl, xq_60_177⟩
theorem xq_60_175 : xOKs xsg xm_60 xk_60_0 xk_60_175 := ⟨xok_ld (xl_aload_n (by decide +kernel : decode xm_60.2.1 321 = .ok (.aload_n 0, 1))) rfl, xq_60_176⟩
theorem xq_60_174 : xOKs xsg xm_60 xk_60_0 xk_60_174 := ⟨xok_put (by decide +kernel : decode xm_60.2.1 318 = .ok (.putfield 297, 3)) (rfl : vwCl[12]? = some (RX12, TX12, 125)) inX12 tyX12_ok nmX12 (k := 7) (by decide) rfl (xT_c6 68 rfl rfl) rfl, xq_60_175⟩
theorem xq_60_173 : xOKs xsg xm_60 xk_60_0 xk_60_173 := ⟨xok_p (xp_imul (by decide +kernel : decode xm_60.2.1 317 = .ok (.imul, 1))) rfl, xq_60_174⟩
theorem xq_60_172 : xOKs xsg xm_60 xk_60_0 xk_60_172 := ⟨xok_get (by decide +kernel : decode xm_60.2.1 314 = .ok (.getfield 262, 3)) (rfl : vwCl[12]? = some (RX12, TX12, 125)) inX12 (by decide) (xT_c6 70 rfl rfl) rfl, xq_60_173⟩
theorem xq_60_171 : xOKs xsg xm_60 xk_60_0 xk_60_171 := ⟨xok_ld (xl_aload_n (by decide +kernel : decode xm_60.2.1 313 = .ok (.aload_n 0, 1))) rfl, xq_60_172⟩
theorem xq_60_170 : xOKs xsg xm_60 xk_60_0 xk_60_170 := ⟨xok_p (xp_sipush (v := 4002) (by decide +kernel : decode xm_60.2.1 310 = .ok (.sipush 4002, 3)) (by decide)) rfl, xq_60_171⟩
theorem xq_60_169 : xOKs xsg xm_60 xk_60_0 xk_60_169 := ⟨xok_ld (xl_aload_n (by decide +kernel : decode xm_60.2.1 309 = .ok (.aload_n 0, 1))) rfl, xq_60_170⟩
theorem xq_60_168 : xOKs xsg xm_60 xk_60_0 xk_60_168 := ⟨xok_ias (by decide +kernel : decode xm_60.2.1 308 = .ok (.iastore, 1)) rfl, xq_60_169⟩
theorem xq_60_167 : xOKs xsg xm_60 xk_60_0 xk_60_167 := ⟨xok_p (xp_iconst (v := -1) (by decide +kernel : decode xm_60.2.1 307 = .ok (.iconst (-1), 1)) (by decide)) rfl, xq_60_168⟩
theorem xq_60_166 : xOKs xsg xm_60 xk_60_0 xk_60_166 := ⟨xok_ld (xl_iload_n (by decide +kernel : decode xm_60.2.1 306 = .ok (.iload_n 1, 1))) rfl, xq_60_167⟩
theorem xq_60_165 : xOKs xsg xm_60 xk_60_0 xk_60_165 := ⟨xok_get (by decide +kernel : decode xm_60.2.1 303 = .ok (.getfield 19, 3)) (rfl : vwCl[12]? = some (RX12, TX12, 125)) inX12 (by decide) (xT_c6 67 rfl rfl) rfl, xq_60_166⟩
theorem xq_60_164 : xOKs xsg xm_60 xk_60_0 xk_60_164 := ⟨xok_ld (xl_aload_n (by decide +kernel : decode xm_60.2.1 302 = .ok (.aload_n 0, 1))) rfl, xq_60_165⟩
theorem xq_60_163 : xOKs xsg xm_60 xk_60_0 xk_60_163 := ⟨xok_ias (by decide +kernel : decode xm_60.2.1 301 = .ok (.iastore, 1)) rfl, xq_60_164⟩
theorem xq_60_162 : xOKs xsg xm_60 xk_60_0 xk_60_162 := ⟨xok_get (by decide +kernel : decode xm_60.2.1 298 = .ok (.getfield 284, 3)) (rfl : vwCl[12]? = some (RX12, TX12, 125)) inX12 (by decide) (xT_c6 64 rfl rfl) rfl, xq_60_163⟩
theorem xq_60_161 : xOKs xsg xm_60 xk_60_0 xk_60_161 := ⟨xok_ld (xl_aload_n (by decide +kernel : decode xm_60.2.1 297 = .ok (.aload_n 0, 1))) rfl, xq_60_162⟩
theorem xq_60_160 : xOKs xsg xm_60 xk_60_0 xk_60_160 := ⟨xok_ld (xl_iload_n (by decide +kernel : decode xm_60.2.1 296 = .ok (.iload_n 1, 1))) rfl, xq_60_161⟩
theorem xq_60_159 : xOKs xsg xm_60 xk_60_0 xk_60_159 := ⟨xok_get (by decide +kernel : decode xm_60.2.1 293 = .ok (.getfield 16, 3)) (rfl : vwCl[12]? = some (RX12, TX12, 125)) inX12 (by decide) (xT_c6 66 rfl rfl) rfl, xq_60_160⟩
theorem xq_60_158 : xOKs xsg xm_60 xk_60_0 xk_60_158 := ⟨xok_ld (xl_aload_n (by decide +kernel : decode xm_60.2.1 292 = .ok (.aload_n 0, 1))) rfl, xq_60_159⟩
theorem xq_60_157 : xOKs xsg xm_60 xk_60_0 xk_60_157 := ⟨xok_ias (by decide +kernel : decode xm_60.2.1 291 = .ok (.iastore, 1)) rfl, xq_60_158⟩
theorem xq_60_156 : xOKs xsg xm_60 xk_60_0 xk_60_156 := ⟨xok_p (xp_iconst (v := 0) (by decide +kernel : decode xm_60.2.1 290 = .ok (.iconst 0, 1)) (by decide)) rfl, xq_60_157⟩
theorem xq_60_155 : xOKs xsg xm_60 xk_60_0 xk_60_155 := ⟨xok_ld (xl_iload_n (by decide +kernel : decode xm_60.2.1 289 = .ok (.iload_n 1, 1))) rfl, xq_60_156⟩
theorem xq_60_154 : xOKs xsg xm_60 xk_60_0 xk_60_154 := ⟨xok_get (by decide +kernel : decode xm_60.2.1 286 = .ok (.getfield 13, 3)) (rfl : vwCl[12]? = some (RX12, TX12, 125)) inX12 (by decide) (xT_c6 65 rfl rfl) rfl, xq_60_155⟩
theorem xq_60_153 : xOKs xsg xm_60 xk_60_0 xk_60_153 := ⟨xok_ld (xl_aload_n (by decide +kernel : decode xm_60.2.1 285 = .ok (.aload_n 0, 1))) rfl, xq_60_154⟩
theorem xq_60_152 : xOKs xsg xm_60 xk_60_0 xk_60_152 := ⟨xok_none, xq_60_153⟩
theorem xq_60_151 : xOKs xsg xm_60 xk_60_0 xk_60_151 := ⟨xok_none, xq_60_152⟩
theorem xq_60_150 : xOKs xsg xm_60 xk_60_0 xk_60_150 := ⟨xok_none, xq_60_151⟩
theorem xq_60_149 : xOKs xsg xm_60 xk_60_0 xk_60_149 := ⟨xok_none, xq_60_150⟩
theorem xq_60_148 : xOKs xsg xm_60 xk_60_0 xk_60_148 := ⟨xok_none, xq_60_149⟩
theorem xq_60_147 : xOKs xsg xm_60 xk_60_0 xk_60_147 := ⟨xok_none, xq_60_148⟩
theorem xq_60_146 : xOKs xsg xm_60 xk_60_0 xk_60_146 := ⟨xok_none, xq_60_147⟩
theorem xq_60_145 : xOKs xsg xm_60 xk_60_0 xk_60_145 := ⟨xok_none, xq_60_146⟩
theorem xq_60_144 : xOKs xsg xm_60 xk_60_0 xk_60_144 := ⟨xok_none, xq_60_145⟩
theorem xq_60_143 : xOKs xsg xm_60 xk_60_0 xk_60_143 := ⟨xok_none, xq_60_144⟩
theorem xq_60_142 : xOKs xsg xm_60 xk_60_0 xk_60_142 := ⟨xok_none, xq_60_143⟩
theorem xq_60_141 : xOKs xsg xm_60 xk_60_0 xk_60_141 := ⟨xok_none, xq_60_142⟩
theorem xq_60_140 : xOKs xsg xm_60 xk_60_0 xk_60_140 := ⟨xok_none, xq_60_141⟩
theorem xq_60_139 : xOKs xsg xm_60 xk_60_0 xk_60_139 := ⟨xok_none, xq_60_140⟩
theorem xq_60_138 : xOKs xsg xm_60 xk_60_0 xk_60_138 := ⟨xok_none, xq_60_139⟩
theorem xq_60_137 : xOKs xsg xm_60 xk_60_0 xk_60_137 := ⟨xok_none, xq_60_138⟩
theorem xq_60_136 : xOKs xsg xm_60 xk_60_0 xk_60_136 := ⟨xok_none, xq_60_137⟩
theorem xq_60_135 : xOKs xsg xm_60 xk_60_0 xk_60_135 := ⟨xok_none, xq_60_136⟩
theorem xq_60_134 : xOKs xsg xm_60 xk_60_0 xk_60_134 := ⟨xok_none, xq_60_135⟩
theorem xq_60_133 : xOKs xsg xm_60 xk_60_0 xk_60_133 := ⟨xok_none, xq_60_134⟩
theorem xq_60_132 : xOKs xsg xm_60 xk_60_0 xk_60_132 := ⟨xok_none, xq_60_133⟩
theorem xq_60_131 : xOKs xsg xm_60 xk_60_0 xk_60_131 := ⟨xok_none, xq_60_132⟩
theorem xq_60_130 : xOKs xsg xm_60 xk_60_0 xk_60_130 := ⟨xok_none, xq_60_131⟩
theorem xq_60_129 : xOKs xsg xm_60 xk_60_0 xk_60_129 := ⟨xok_none, xq_60_130⟩
theorem xq_60_128 : xOKs xsg xm_60 xk_60_0 xk_60_128 := ⟨xok_none, xq_60_129⟩
theorem xq_60_127 : xOKs xsg xm_60 xk_60_0 xk_60_127 := ⟨xok_none, xq_60_128⟩
theorem xq_60_126 : xOKs xsg xm_60 xk_60_0 xk_60_126 := ⟨xok_none, xq_60_127⟩
theorem xq_60_125 : xOKs xsg xm_60 xk_60_0 xk_60_125 := ⟨xok_none, xq_60_126⟩
theorem xq_60_124 : xOKs xsg xm_60 xk_60_0 xk_60_124 := ⟨xok_none, xq_60_125⟩
theorem xq_60_123 : xOKs xsg xm_60 xk_60_0 xk_60_123 := ⟨xok_none, xq_60_124⟩
theorem xq_60_122 : xOKs xsg xm_60 xk_60_0 xk_60_122 := ⟨xok_none, xq_60_123⟩
theorem xq_60_121 : xOKs xsg xm_60 xk_60_0 xk_60_121 := ⟨xok_none, xq_60_122⟩
theorem xq_60_120 : xOKs xsg xm_60 xk_60_0 xk_60_120 := ⟨xok_none, xq_60_121⟩
theorem xq_60_119 : xOKs xsg xm_60 xk_60_0 xk_60_119 := ⟨xok_none, xq_60_120⟩
theorem xq_60_118 : xOKs xsg xm_60 xk_60_0 xk_60_118 := ⟨xok_none, xq_60_119⟩
theorem xq_60_117 : xOKs xsg xm_60 xk_60_0 xk_60_117 := ⟨xok_none, xq_60_118⟩
theorem xq_60_116 : xOKs xsg xm_60 xk_60_0 xk_60_116 := ⟨xok_none, xq_60_117⟩
theorem xq_60_115 : xOKs xsg xm_60 xk_60_0 xk_60_115 := ⟨xok_none, xq_60_116⟩
theorem xq_60_114 : xOKs xsg xm_60 xk_60_0 xk_60_114 := ⟨xok_none, xq_60_115⟩
theorem xq_60_113 : xOKs xsg xm_60 xk_60_0 xk_60_113 := ⟨xok_none, xq_60_114⟩
theorem xq_60_112 : xOKs xsg xm_60 xk_60_0 xk_60_112 := ⟨xok_none, xq_60_113⟩
theorem xq_60_111 : xOKs xsg xm_60 xk_60_0 xk_60_111 := ⟨xok_none, xq_60_112⟩
theorem xq_60_110 : xOKs xsg xm_60 xk_60_0 xk_60_110 := ⟨xok_none, xq_60_111⟩
theorem xq_60_109 : xOKs xsg xm_60 xk_60_0 xk_60_109 := ⟨xok_none, xq_60_110⟩
theorem xq_60_108 : xOKs xsg xm_60 xk_60_0 xk_60_108 := ⟨xok_none, xq_60_109⟩
theorem xq_60_107 : xOKs xsg xm_60 xk_60_0 xk_60_107 := ⟨xok_none, xq_60_108⟩
theorem xq_60_106 : xOKs xsg xm_60 xk_60_0 xk_60_106 := ⟨xok_none, xq_60_107⟩
theorem xq_60_105 : xOKs xsg xm_60 xk_60_0 xk_60_105 := ⟨xok_none, xq_60_106⟩
theorem xq_60_104 : xOKs xsg xm_60 xk_60_0 xk_60_104 := ⟨xok_none, xq_60_105⟩
theorem xq_60_103 : xOKs xsg xm_60 xk_60_0 xk_60_103 := ⟨xok_none, xq_60_104⟩
theorem xq_60_102 : xOKs xsg xm_60 xk_60_0 xk_60_102 := ⟨xok_none, xq_60_103⟩
theorem xq_60_101 : xOKs xsg xm_60 xk_60_0 xk_60_101 := ⟨xok_none, xq_60_102⟩
theorem xq_60_100 : xOKs xsg xm_60 xk_60_0 xk_60_100 := ⟨xok_none, xq_60_101⟩
theorem xq_60_99 : xOKs xsg xm_60 xk_60_0 xk_60_99 := ⟨xok_none, xq_60_100⟩
theorem xq_60_98 : xOKs xsg xm_60 xk_60_0 xk_60_98 := ⟨xok_none, xq_60_99⟩
theorem xq_60_97 : xOKs xsg xm_60 xk_60_0 xk_60_97 := ⟨xok_none, xq_60_98⟩
theorem xq_60_96 : xOKs xsg xm_60 xk_60_0 xk_60_96 := ⟨xok_none, xq_60_97⟩
theorem xq_60_95 : xOKs xsg xm_60 xk_60_0 xk_60_95 := ⟨xok_none, xq_60_96⟩
theorem xq_60_94 : xOKs xsg xm_60 xk_60_0 xk_60_94 := ⟨xok_none, xq_60_95⟩
theorem xq_60_93 : xOKs xsg xm_60 xk_60_0 xk_60_93 := ⟨xok_none, xq_60_94⟩
theorem xq_60_92 : xOKs xsg xm_60 xk_60_0 xk_60_92 := ⟨xok_none, xq_60_93⟩
theorem xq_60_91 : xOKs xsg xm_60 xk_60_0 xk_60_91 := ⟨xok_none, xq_60_92⟩
theorem xq_60_90 : xOKs xsg xm_60 xk_60_0 xk_60_90 := ⟨xok_none, xq_60_91⟩
theorem xq_60_89 : xOKs xsg xm_60 xk_60_0 xk_60_89 := ⟨xok_none, xq_60_90⟩
theorem xq_60_88 : xOKs xsg xm_60 xk_60_0 xk_60_88 := ⟨xok_none, xq_60_89⟩
theorem xq_60_87 : xOKs xsg xm_60 xk_60_0 xk_60_87 := ⟨xok_none, xq_60_88⟩
theorem xq_60_86 : xOKs xsg xm_60 xk_60_0 xk_60_86 := ⟨xok_none, xq_60_87⟩
theorem xq_60_85 : xOKs xsg xm_60 xk_60_0 xk_60_85 := ⟨xok_none, xq_60_86⟩
theorem xq_60_84 : xOKs xsg xm_60 xk_60_0 xk_60_84 := ⟨xok_none, xq_60_85⟩
theorem xq_60_83 : xOKs xsg xm_60 xk_60_0 xk_60_83 := ⟨xok_none, xq_60_84⟩
theorem xq_60_82 : xOKs xsg xm_60 xk_60_0 xk_60_82 := ⟨xok_none, xq_60_83⟩
theorem xq_60_81 : xOKs xsg xm_60 xk_60_0 xk_60_81 := ⟨xok_none, xq_60_82⟩
theorem xq_60_80 : xOKs xsg xm_60 xk_60_0 xk_60_80 := ⟨xok_none, xq_60_81⟩
theorem xq_60_79 : xOKs xsg xm_60 xk_60_0 xk_60_79 := ⟨xok_none, xq_60_80⟩
theorem xq_60_78 : xOKs xsg xm_60 xk_60_0 xk_60_78 := ⟨xok_none, xq_60_79⟩
theorem xq_60_77 : xOKs xsg xm_60 xk_60_0 xk_60_77 := ⟨xok_none, xq_60_78⟩
theorem xq_60_76 : xOKs xsg xm_60 xk_60_0 xk_60_76 := ⟨xok_none, xq_60_77⟩
theorem xq_60_75 : xOKs xsg xm_60 xk_60_0 xk_60_75 := ⟨xok_none, xq_60_76⟩
theorem xq_60_74 : xOKs xsg xm_60 xk_60_0 xk_60_74 := ⟨xok_none, xq_60_75⟩
theorem xq_60_73 : xOKs xsg xm_60 xk_60_0 xk_60_73 := ⟨xok_none, xq_60_74⟩
theorem xq_60_72 : xOKs xsg xm_60 xk_60_0 xk_60_72 := ⟨xok_none, xq_60_73⟩
theorem xq_60_71 : xOKs xsg xm_60 xk_60_0 xk_60_71 := ⟨xok_none, xq_60_72⟩
theorem xq_60_70 : xOKs xsg xm_60 xk_60_0 xk_60_70 := ⟨xok_none, xq_60_71⟩
theorem xq_60_69 : xOKs xsg xm_60 xk_60_0 xk_60_69 := ⟨xok_none, xq_60_70⟩
theorem xq_60_68 : xOKs xsg xm_60 xk_60_0 xk_60_68 := ⟨xok_none, xq_60_69⟩
theorem xq_60_67 : xOKs xsg xm_60 xk_60_0 xk_60_67 := ⟨xok_none, xq_60_68⟩
theorem xq_60_66 : xOKs xsg xm_60 xk_60_0 xk_60_66 := ⟨xok_none, xq_60_67⟩
theorem xq_60_65 : xOKs xsg xm_60 xk_60_0 xk_60_65 := ⟨xok_none, xq_60_66⟩
theorem xq_60_64 : xOKs xsg xm_60 xk_60_0 xk_60_64 := ⟨xok_none, xq_60_65⟩
theorem xq_60_63 : xOKs xsg xm_60 xk_60_0 xk_60_63 := ⟨xok_none, xq_60_64⟩
theorem xq_60_62 : xOKs xsg xm_60 xk_60_0 xk_60_62 := ⟨xok_none, xq_60_63⟩
theorem xq_60_61 : xOKs xsg xm_60 xk_60_0 xk_60_61 := ⟨xok_none, xq_60_62⟩
theorem xq_60_60 : xOKs xsg xm_60 xk_60_0 xk_60_60 := ⟨xok_none, xq_60_61⟩
theorem xq_60_59 : xOKs xsg xm_60 xk_60_0 xk_60_59 := ⟨xok_none, xq_60_60⟩
theorem xq_60_58 : xOKs xsg xm_60 xk_60_0 xk_60_58 := ⟨xok_none, xq_60_59⟩
theorem xq_60_57 : xOKs xsg xm_60 xk_60_0 xk_60_57 := ⟨xok_none, xq_60_58⟩
theorem xq_60_56 : xOKs xsg xm_60 xk_60_0 xk_60_56 := ⟨xok_none, xq_60_57⟩
theorem xq_60_55 : xOKs xsg xm_60 xk_60_0 xk_60_55 := ⟨xok_none, xq_60_56⟩
theorem xq_60_54 : xOKs xsg xm_60 xk_60_0 xk_60_54 := ⟨xok_none, xq_60_55⟩
theorem xq_60_53 : xOKs xsg xm_60 xk_60_0 xk_60_53 := ⟨xok_none, xq_60_54⟩
theorem xq_60_52 : xOKs xsg xm_60 xk_60_0 xk_60_52 := ⟨xok_none, xq_60_53⟩
theorem xq_60_51 : xOKs xsg xm_60 xk_60_0 xk_60_51 := ⟨xok_none, xq_60_52⟩
theorem xq_60_50 : xOKs xsg xm_60 xk_60_0 xk_60_50 := ⟨xok_none, xq_60_51⟩
theorem xq_60_49 : xOKs xsg xm_60 xk_60_0 xk_60_49 := ⟨xok_none, xq_60_50⟩
theorem xq_60_48 : xOKs xsg xm_60 xk_60_0 xk_60_48 := ⟨xok_none, xq_60_49⟩
theorem xq_60_47 : xOKs xsg xm_60 xk_60_0 xk_60_47 := ⟨xok_none, xq_60_48⟩
theorem xq_60_46 : xOKs xsg xm_60 xk_60_0 xk_60_46 := ⟨xok_none, xq_60_47⟩
theorem xq_60_45 : xOKs xsg xm_60 xk_60_0 xk_60_45 := ⟨xok_none, xq_60_46⟩
theorem xq_60_44 : xOKs xsg xm_60 xk_60_0 xk_60_44 := ⟨xok_none, xq_60_45⟩
theorem xq_60_43 : xOKs xsg xm_60 xk_60_0 xk_60_43 := ⟨xok_none, xq_60_44⟩
theorem xq_60_42 : xOKs xsg xm_60 xk_60_0 xk_60_42 := ⟨xok_none, xq_60_43⟩
theorem xq_60_41 : xOKs xsg xm_60 xk_60_0 xk_60_41 := ⟨xok_none, xq_60_42⟩
theorem xq_60_40 : xOKs xsg xm_60 xk_60_0 xk_60_40 := ⟨xok_none, xq_60_41⟩
theorem xq_60_39 : xOKs xsg xm_60 xk_60_0 xk_60_39 := ⟨xok_none, xq_60_40⟩
theorem xq_60_38 : xOKs xsg xm_60 xk_60_0 xk_60_38 := ⟨xok_none, xq_60_39⟩
theorem xq_60_37 : xOKs xsg xm_60 xk_60_0 xk_60_37 := ⟨xok_none, xq_60_38⟩
theorem xq_60_36 : xOKs xsg xm_60 xk_60_0 xk_60_36 := ⟨xok_none, xq_60_37⟩
theorem xq_60_35 : xOKs xsg xm_60 xk_60_0 xk_60_35 := ⟨xok_none, xq_60_36⟩
theorem xq_60_34 : xOKs xsg xm_60 xk_60_0 xk_60_34 := ⟨xok_none, xq_60_35⟩
theorem xq_60_33 : xOKs xsg xm_60 xk_60_0 xk_60_33 := ⟨xok_none, xq_60_34⟩
theorem xq_60_32 : xOKs xsg xm_60 xk_60_0 xk_60_32 := ⟨xok_none, xq_60_33⟩
theorem xq_60_31 : xOKs xsg xm_60 xk_60_0 xk_60_31 := ⟨xok_none, xq_60_32⟩
theorem xq_60_30 : xOKs xsg xm_60 xk_60_0 xk_60_30 := ⟨xok_none, xq_60_31⟩
theorem xq_60_29 : xOKs xsg xm_60 xk_60_0 xk_60_29 := ⟨xok_none, xq_60_30⟩
theorem xq_60_28 : xOKs xsg xm_60 xk_60_0 xk_60_28 := ⟨xok_none, xq_60_29⟩
theorem xq_60_27 : xOKs xsg xm_60 xk_60_0 xk_60_27 := ⟨xok_none, xq_60_28⟩
theorem xq_60_26 : xOKs xsg xm_60 xk_60_0 xk_60_26 := ⟨xok_none, xq_60_27⟩
theorem xq_60_25 : xOKs xsg xm_60 xk_60_0 xk_60_25 := ⟨xok_none, xq_60_26⟩
theorem xq_60_24 : xOKs xsg xm_60 xk_60_0 xk_60_24 := ⟨xok_none, xq_60_25⟩
theorem xq_60_23 : xOKs xsg xm_60 xk_60_0 xk_60_23 := ⟨xok_none, xq_60_24⟩
theorem xq_60_22 : xOKs xsg xm_60 xk_60_0 xk_60_22 := ⟨xok_none, xq_60_23⟩
theorem xq_60_21 : xOKs xsg xm_60 xk_60_0 xk_60_21 := ⟨xok_none, xq_60_22⟩
theorem xq_60_20 : xOKs xsg xm_60 xk_60_0 xk_60_20 := ⟨xok_none, xq_60_21⟩
theorem xq_60_19 : xOKs xsg xm_60 xk_60_0 xk_60_19 := ⟨xok_none, xq_60_20⟩
theorem xq_60_18 : xOKs xsg xm_60 xk_60_0 xk_60_18 := ⟨xok_none, xq_60_19⟩
theorem xq_60_17 : xOKs xsg xm_60 xk_60_0 xk_60_17 := ⟨xok_br (tgt := 285) (xb_ige (by decide +kernel : decode xm_60.2.1 29 = .ok (.if_icmp .ge 256, 3)) (by decide)) (by decide +kernel) rfl, xq_60_18⟩
theorem xq_60_16 : xOKs xsg xm_60 xk_60_0 xk_60_16 := ⟨xok_get (by decide +kernel : decode xm_60.2.1 26 = .ok (.getfield 284, 3)) (rfl : vwCl[12]? = some (RX12, TX12, 125)) inX12 (by decide) (xT_c6 64 rfl rfl) rfl, xq_60_17⟩
theorem xq_60_15 : xOKs xsg xm_60 xk_60_0 xk_60_15 := ⟨xok_ld (xl_aload_n (by decide +kernel : decode xm_60.2.1 25 = .ok (.aload_n 0, 1))) rfl, xq_60_16⟩
theorem xq_60_14 : xOKs xsg xm_60 xk_60_0 xk_60_14 := ⟨xok_ld (xl_iload_n (by decide +kernel : decode xm_60.2.1 24 = .ok (.iload_n 2, 1))) rfl, xq_60_15⟩
theorem xq_60_13 : xOKs xsg xm_60 xk_60_0 xk_60_13 := ⟨xok_st (xs_istore_n (by decide +kernel : decode xm_60.2.1 23 = .ok (.istore_n 2, 1)) (by decide)) rfl, xq_60_14⟩
theorem xq_60_12 : xOKs xsg xm_60 xk_60_0 xk_60_12 := ⟨xok_p (xp_iconst (v := 0) (by decide +kernel : decode xm_60.2.1 22 = .ok (.iconst 0, 1)) (by decide)) rfl, xq_60_13⟩
theorem xq_60_11 : xOKs xsg xm_60 xk_60_0 xk_60_11 := ⟨xok_st (xs_istore_n (by decide +kernel : decode xm_60.2.1 21 = .ok (.istore_n 1, 1)) (by decide)) rfl, xq_60_12⟩
theorem xq_60_10 : xOKs xsg xm_60 xk_60_0 xk_60_10 := ⟨xok_p (xp_imul (by decide +kernel : decode xm_60.2.1 20 = .ok (.imul, 1))) rfl, xq_60_11⟩
theorem xq_60_9 : xOKs xsg xm_60 xk_60_0 xk_60_9 := ⟨xok_get (by decide +kernel : decode xm_60.2.1 17 = .ok (.getfield 262, 3)) (rfl : vwCl[12]? = some (RX12, TX12, 125)) inX12 (by decide) (xT_c6 70 rfl rfl) rfl, xq_60_10⟩
theorem xq_60_8 : xOKs xsg xm_60 xk_60_0 xk_60_8 := ⟨xok_ld (xl_aload_n (by decide +kernel : decode xm_60.2.1 16 = .ok (.aload_n 0, 1))) rfl, xq_60_9⟩
theorem xq_60_7 : xOKs xsg xm_60 xk_60_0 xk_60_7 := ⟨xok_p (xp_sipush (v := 4002) (by decide +kernel : decode xm_60.2.1 13 = .ok (.sipush 4002, 3)) (by decide)) rfl, xq_60_8⟩
theorem xq_60_6 : xOKs xsg xm_60 xk_60_0 xk_60_6 := ⟨xok_put (by decide +kernel : decode xm_60.2.1 10 = .ok (.putfield 259, 3)) (rfl : vwCl[12]? = some (RX12, TX12, 125)) inX12 tyX12_ok nmX12 (k := 2) (by decide) rfl (xT_c6 63 rfl rfl) rfl, xq_60_7⟩
theorem xq_60_5 : xOKs xsg xm_60 xk_60_0 xk_60_5 := ⟨xok_p (xp_iconst (v := 0) (by decide +kernel : decode xm_60.2.1 9 = .ok (.iconst 0, 1)) (by decide)) rfl, xq_60_6⟩
theorem xq_60_4 : xOKs xsg xm_60 xk_60_0 xk_60_4 := ⟨xok_ld (xl_aload_n (by decide +kernel : decode xm_60.2.1 8 = .ok (.aload_n 0, 1))) rfl, xq_60_5⟩
theorem xq_60_3 : xOKs xsg xm_60 xk_60_0 xk_60_3 := ⟨xok_put (by decide +kernel : decode xm_60.2.1 5 = .ok (.putfield 284, 3)) (rfl : vwCl[12]? = some (RX12, TX12, 125)) inX12 tyX12_ok nmX12 (k := 3) (by decide) rfl (xT_c6 64 rfl rfl) rfl, xq_60_4⟩
theorem xq_60_2 : xOKs xsg xm_60 xk_60_0 xk_60_2 := ⟨xok_get (by decide +kernel : decode xm_60.2.1 2 = .ok (.getfield 259, 3)) (rfl : vwCl[12]? = some (RX12, TX12, 125)) inX12 (by decide) (xT_c6 63 rfl rfl) rfl, xq_60_3⟩
theorem xq_60_1 : xOKs xsg xm_60 xk_60_0 xk_60_1 := ⟨xok_ld (xl_aload_n (by decide +kernel : decode xm_60.2.1 1 = .ok (.aload_n 0, 1))) rfl, xq_60_2⟩
theorem xq_60_0 : xOKs xsg xm_60 xk_60_0 xk_60_0 := ⟨xok_ld (xl_aload_n (by decide +kernel : decode xm_60.2.1 0 = .ok (.aload_n 0, 1))) rfl, xq_60_1⟩
theorem xz_60 : xwf xsg xm_60 xk_60_0 := ⟨xq_60_0, rfl, by decide⟩
