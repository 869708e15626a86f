/-! FeatherBench$Told.findTwice(LFeatherBench$Program;)V -/
theorem xq_50_11 : xOKs xsg xm_50 xk_50_0 xk_50_11 := trivial
theorem xq_50_10 : xOKs xsg xm_50 xk_50_0 xk_50_10 := ⟨xok_none, xq_50_11⟩
theorem xq_50_9 : xOKs xsg xm_50 xk_50_0 xk_50_9 := ⟨xok_ret0 (by decide +kernel : decode xm_50.2.1 19 = .ok (.return_, 1)) rfl, xq_50_10⟩
theorem xq_50_8 : xOKs xsg xm_50 xk_50_0 xk_50_8 := ⟨xok_br (tgt := 20) (xb_eq (by decide +kernel : decode xm_50.2.1 16 = .ok (.ifCond .eq 4, 3)) (by decide)) (by decide +kernel) rfl, xq_50_9⟩
theorem xq_50_7 : xOKs xsg xm_50 xk_50_0 xk_50_7 := ⟨xok_getN (by decide +kernel : decode xm_50.2.1 13 = .ok (.getfield 30, 3)) (rfl : vwCl[4]? = some (RX4, TX4, 15)) inX4 (by decide) (xN_c1 186 rfl rfl) rfl, xq_50_8⟩
theorem xq_50_6 : xOKs xsg xm_50 xk_50_0 xk_50_6 := ⟨xok_get (by decide +kernel : decode xm_50.2.1 10 = .ok (.getfield 9, 3)) (rfl : vwCl[10]? = some (RX10, TX10, 3)) inX10 (by decide) (xT_c2 54 rfl rfl) rfl, xq_50_7⟩
theorem xq_50_5 : xOKs xsg xm_50 xk_50_0 xk_50_5 := ⟨xok_ld (xl_aload_n (by decide +kernel : decode xm_50.2.1 9 = .ok (.aload_n 0, 1))) rfl, xq_50_6⟩
theorem xq_50_4 : xOKs xsg xm_50 xk_50_0 xk_50_4 := ⟨xok_callV (M' := xm_49) rfl (rfl : vwCl[10]? = some (RX10, TX10, 3)) (by decide +kernel : decode xm_50.2.1 6 = .ok (.invokevirtual 26, 3)) xn_49 (xT_c4 62 rfl rfl) (xT_c4 63 rfl rfl) (xT_c4 61 rfl rfl) rfl, xq_50_5⟩
theorem xq_50_3 : xOKs xsg xm_50 xk_50_0 xk_50_3 := ⟨xok_getN (by decide +kernel : decode xm_50.2.1 3 = .ok (.getfield 19, 3)) (rfl : vwCl[4]? = some (RX4, TX4, 15)) inX4 (by decide) (xN_c1 139 rfl rfl) rfl, xq_50_4⟩
theorem xq_50_2 : xOKs xsg xm_50 xk_50_0 xk_50_2 := ⟨xok_ld (xl_aload_n (by decide +kernel : decode xm_50.2.1 2 = .ok (.aload_n 1, 1))) rfl, xq_50_3⟩
theorem xq_50_1 : xOKs xsg xm_50 xk_50_0 xk_50_1 := ⟨xok_ld (xl_aload_n (by decide +kernel : decode xm_50.2.1 1 = .ok (.aload_n 1, 1))) rfl, xq_50_2⟩
theorem xq_50_0 : xOKs xsg xm_50 xk_50_0 xk_50_0 := ⟨xok_ld (xl_aload_n (by decide +kernel : decode xm_50.2.1 0 = .ok (.aload_n 0, 1))) rfl, xq_50_1⟩
theorem xz_50 : xwf xsg xm_50 xk_50_0 := ⟨xq_50_0, rfl, by decide⟩
/-! FeatherBench$Told.tellAll(LFeatherBench$Program;)V -/
theorem xq_51_57 : xOKs xsg xm_51 xk_51_0 xk_51_57 := trivial
theorem xq_51_56 : xOKs xsg xm_51 xk_51_0 xk_51_56 := ⟨xok_ret0 (by decide +kernel : decode xm_51.2.1 111 = .ok (.return_, 1)) rfl, xq_51_57⟩
theorem xq_51_55 : xOKs xsg xm_51 xk_51_0 xk_51_55 := ⟨xok_none, xq_51_56⟩
theorem xq_51_54 : xOKs xsg xm_51 xk_51_0 xk_51_54 := ⟨xok_none, xq_51_55⟩
theorem xq_51_53 : xOKs xsg xm_51 xk_51_0 xk_51_53 := ⟨xok_none, xq_51_54⟩
theorem xq_51_52 : xOKs xsg xm_51 xk_51_0 xk_51_52 := ⟨xok_none, xq_51_53⟩
theorem xq_51_51 : xOKs xsg xm_51 xk_51_0 xk_51_51 := ⟨xok_none, xq_51_52⟩
theorem xq_51_50 : xOKs xsg xm_51 xk_51_0 xk_51_50 := ⟨xok_none, xq_51_51⟩
theorem xq_51_49 : xOKs xsg xm_51 xk_51_0 xk_51_49 := ⟨xok_none, xq_51_50⟩
theorem xq_51_48 : xOKs xsg xm_51 xk_51_0 xk_51_48 := ⟨xok_none, xq_51_49⟩
theorem xq_51_47 : xOKs xsg xm_51 xk_51_0 xk_51_47 := ⟨xok_none, xq_51_48⟩
theorem xq_51_46 : xOKs xsg xm_51 xk_51_0 xk_51_46 := ⟨xok_none, xq_51_47⟩
theorem xq_51_45 : xOKs xsg xm_51 xk_51_0 xk_51_45 := ⟨xok_none, xq_51_46⟩
theorem xq_51_44 : xOKs xsg xm_51 xk_51_0 xk_51_44 := ⟨xok_none, xq_51_45⟩
theorem xq_51_43 : xOKs xsg xm_51 xk_51_0 xk_51_43 := ⟨xok_none, xq_51_44⟩
theorem xq_51_42 : xOKs xsg xm_51 xk_51_0 xk_51_42 := ⟨xok_none, xq_51_43⟩
theorem xq_51_41 : xOKs xsg xm_51 xk_51_0 xk_51_41 := ⟨xok_none, xq_51_42⟩
theorem xq_51_40 : xOKs xsg xm_51 xk_51_0 xk_51_40 := ⟨xok_none, xq_51_41⟩
theorem xq_51_39 : xOKs xsg xm_51 xk_51_0 xk_51_39 := ⟨xok_none, xq_51_40⟩
theorem xq_51_38 : xOKs xsg xm_51 xk_51_0 xk_51_38 := ⟨xok_none, xq_51_39⟩
theorem xq_51_37 : xOKs xsg xm_51 xk_51_0 xk_51_37 := ⟨xok_none, xq_51_38⟩
theorem xq_51_36 : xOKs xsg xm_51 xk_51_0 xk_51_36 := ⟨xok_none, xq_51_37⟩
theorem xq_51_35 : xOKs xsg xm_51 xk_51_0 xk_51_35 := ⟨xok_none, xq_51_36⟩
theorem xq_51_34 : xOKs xsg xm_51 xk_51_0 xk_51_34 := ⟨xok_none, xq_51_35⟩
theorem xq_51_33 : xOKs xsg xm_51 xk_51_0 xk_51_33 := ⟨xok_none, xq_51_34⟩
theorem xq_51_32 : xOKs xsg xm_51 xk_51_0 xk_51_32 := ⟨xok_none, xq_51_33⟩
theorem xq_51_31 : xOKs xsg xm_51 xk_51_0 xk_51_31 := ⟨xok_none, xq_51_32⟩
theorem xq_51_30 : xOKs xsg xm_51 xk_51_0 xk_51_30 := ⟨xok_none, xq_51_31⟩
theorem xq_51_29 : xOKs xsg xm_51 xk_51_0 xk_51_29 := ⟨xok_none, xq_51_30⟩
theorem xq_51_28 : xOKs xsg xm_51 xk_51_0 xk_51_28 := ⟨xok_none, xq_51_29⟩
theorem xq_51_27 : xOKs xsg xm_51 xk_51_0 xk_51_27 := ⟨xok_none, xq_51_28⟩
theorem xq_51_26 : xOKs xsg xm_51 xk_51_0 xk_51_26 := ⟨xok_none, xq_51_27⟩
theorem xq_51_25 : xOKs xsg xm_51 xk_51_0 xk_51_25 := ⟨xok_none, xq_51_26⟩
theorem xq_51_24 : xOKs xsg xm_51 xk_51_0 xk_51_24 := ⟨xok_none, xq_51_25⟩
theorem xq_51_23 : xOKs xsg xm_51 xk_51_0 xk_51_23 := ⟨xok_none, xq_51_24⟩
theorem xq_51_22 : xOKs xsg xm_51 xk_51_0 xk_51_22 := ⟨xok_none, xq_51_23⟩
theorem xq_51_21 : xOKs xsg xm_51 xk_51_0 xk_51_21 := ⟨xok_none, xq_51_22⟩
theorem xq_51_20 : xOKs xsg xm_51 xk_51_0 xk_51_20 := ⟨xok_none, xq_51_21⟩
theorem xq_51_19 : xOKs xsg xm_51 xk_51_0 xk_51_19 := ⟨xok_none, xq_51_20⟩
theorem xq_51_18 : xOKs xsg xm_51 xk_51_0 xk_51_18 := ⟨xok_none, xq_51_19⟩
theorem xq_51_17 : xOKs xsg xm_51 xk_51_0 xk_51_17 := ⟨xok_none, xq_51_18⟩
theorem xq_51_16 : xOKs xsg xm_51 xk_51_0 xk_51_16 := ⟨xok_none, xq_51_17⟩
theorem xq_51_15 : xOKs xsg xm_51 xk_51_0 xk_51_15 := ⟨xok_br (tgt := 111) (xb_ne (by decide +kernel : decode xm_51.2.1 29 = .ok (.ifCond .ne 82, 3)) (by decide)) (by decide +kernel) rfl, xq_51_16⟩
theorem xq_51_14 : xOKs xsg xm_51 xk_51_0 xk_51_14 := ⟨xok_getN (by decide +kernel : decode xm_51.2.1 26 = .ok (.getfield 30, 3)) (rfl : vwCl[4]? = some (RX4, TX4, 15)) inX4 (by decide) (xN_c1 186 rfl rfl) rfl, xq_51_15⟩
theorem xq_51_13 : xOKs xsg xm_51 xk_51_0 xk_51_13 := ⟨xok_get (by decide +kernel : decode xm_51.2.1 23 = .ok (.getfield 9, 3)) (rfl : vwCl[10]? = some (RX10, TX10, 3)) inX10 (by decide) (xT_c2 54 rfl rfl) rfl, xq_51_14⟩
theorem xq_51_12 : xOKs xsg xm_51 xk_51_0 xk_51_12 := ⟨xok_ld (xl_aload_n (by decide +kernel : decode xm_51.2.1 22 = .ok (.aload_n 0, 1))) rfl, xq_51_13⟩
theorem xq_51_11 : xOKs xsg xm_51 xk_51_0 xk_51_11 := ⟨xok_br (tgt := 111) (xb_ige (by decide +kernel : decode xm_51.2.1 19 = .ok (.if_icmp .ge 92, 3)) (by decide)) (by decide +kernel) rfl, xq_51_12⟩
theorem xq_51_10 : xOKs xsg xm_51 xk_51_0 xk_51_10 := ⟨xok_callV (M' := xm_26) rfl (rfl : vwCl[4]? = some (RX4, TX4, 15)) (by decide +kernel : decode xm_51.2.1 16 = .ok (.invokevirtual 35, 3)) xn_26 (xT_c4 67 rfl rfl) (xT_c4 68 rfl rfl) (xT_c4 66 rfl rfl) rfl, xq_51_11⟩
theorem xq_51_9 : xOKs xsg xm_51 xk_51_0 xk_51_9 := ⟨xok_get (by decide +kernel : decode xm_51.2.1 13 = .ok (.getfield 9, 3)) (rfl : vwCl[10]? = some (RX10, TX10, 3)) inX10 (by decide) (xT_c2 54 rfl rfl) rfl, xq_51_10⟩
theorem xq_51_8 : xOKs xsg xm_51 xk_51_0 xk_51_8 := ⟨xok_ld (xl_aload_n (by decide +kernel : decode xm_51.2.1 12 = .ok (.aload_n 0, 1))) rfl, xq_51_9⟩
theorem xq_51_7 : xOKs xsg xm_51 xk_51_0 xk_51_7 := ⟨xok_ld (xl_iload_n (by decide +kernel : decode xm_51.2.1 11 = .ok (.iload_n 2, 1))) rfl, xq_51_8⟩
theorem xq_51_6 : xOKs xsg xm_51 xk_51_0 xk_51_6 := ⟨xok_st (xs_istore_n (by decide +kernel : decode xm_51.2.1 10 = .ok (.istore_n 2, 1)) (by decide)) rfl, xq_51_7⟩
theorem xq_51_5 : xOKs xsg xm_51 xk_51_0 xk_51_5 := ⟨xok_p (xp_iconst (v := 0) (by decide +kernel : decode xm_51.2.1 9 = .ok (.iconst 0, 1)) (by decide)) rfl, xq_51_6⟩
theorem xq_51_4 : xOKs xsg xm_51 xk_51_0 xk_51_4 := ⟨xok_callV (M' := xm_49) rfl (rfl : vwCl[10]? = some (RX10, TX10, 3)) (by decide +kernel : decode xm_51.2.1 6 = .ok (.invokevirtual 26, 3)) xn_49 (xT_c4 62 rfl rfl) (xT_c4 63 rfl rfl) (xT_c4 61 rfl rfl) rfl, xq_51_5⟩
theorem xq_51_3 : xOKs xsg xm_51 xk_51_0 xk_51_3 := ⟨xok_getN (by decide +kernel : decode xm_51.2.1 3 = .ok (.getfield 19, 3)) (rfl : vwCl[4]? = some (RX4, TX4, 15)) inX4 (by decide) (xN_c1 139 rfl rfl) rfl, xq_51_4⟩
theorem xq_51_2 : xOKs xsg xm_51 xk_51_0 xk_51_2 := ⟨xok_ld (xl_aload_n (by decide +kernel : decode xm_51.2.1 2 = .ok (.aload_n 1, 1))) rfl, xq_51_3⟩
theorem xq_51_1 : xOKs xsg xm_51 xk_51_0 xk_51_1 := ⟨xok_ld (xl_aload_n (by decide +kernel : decode xm_51.2.1 1 = .ok (.aload_n 1, 1))) rfl, xq_51_2⟩
theorem xq_51_0 : xOKs xsg xm_51 xk_51_0 xk_51_0 := ⟨xok_ld (xl_aload_n (by decide +kernel : decode xm_51.2.1 0 = .ok (.aload_n 0, 1))) rfl, xq_51_1⟩
theorem xz_51 : xwf xsg xm_51 xk_51_0 := ⟨xq_51_0, rfl, by decide⟩
/-! FeatherBench$Told.lookAtAll(LFeatherBench$Program;)V -/
theorem xq_52_68 : xOKs xsg xm_52 xk_52_0 xk_52_68 := trivial
theorem xq_52_67 : xOKs xsg xm_52 xk_52_0 xk_52_67 := ⟨xok_ret0 (by decide +kernel : decode xm_52.2.1 137 = .ok (.return_, 1)) rfl, xq_52_68⟩
theorem xq_52_66 : xOKs xsg xm_52 xk_52_0 xk_52_66 := ⟨xok_none, xq_52_67⟩
theorem xq_52_65 : xOKs xsg xm_52 xk_52_0 xk_52_65 := ⟨xok_none, xq_52_66⟩
theorem xq_52_64 : xOKs xsg xm_52 xk_52_0 xk_52_64 := ⟨xok_none, xq_52_65⟩
theorem xq_52_63 : xOKs xsg xm_52 xk_52_0 xk_52_63 := ⟨xok_none, xq_52_64⟩
theorem xq_52_62 : xOKs xsg xm_52 xk_52_0 xk_52_62 := ⟨xok_none, xq_52_63⟩
theorem xq_52_61 : xOKs xsg xm_52 xk_52_0 xk_52_61 := ⟨xok_none, xq_52_62⟩
theorem xq_52_60 : xOKs xsg xm_52 xk_52_0 xk_52_60 := ⟨xok_none, xq_52_61⟩
theorem xq_52_59 : xOKs xsg xm_52 xk_52_0 xk_52_59 := ⟨xok_none, xq_52_60⟩
theorem xq_52_58 : xOKs xsg xm_52 xk_52_0 xk_52_58 := ⟨xok_none, xq_52_59⟩
theorem xq_52_57 : xOKs xsg xm_52 xk_52_0 xk_52_57 := ⟨xok_none, xq_52_58⟩
theorem xq_52_56 : xOKs xsg xm_52 xk_52_0 xk_52_56 := ⟨xok_none, xq_52_57⟩
theorem xq_52_55 : xOKs xsg xm_52 xk_52_0 xk_52_55 := ⟨xok_none, xq_52_56⟩
theorem xq_52_54 : xOKs xsg xm_52 xk_52_0 xk_52_54 := ⟨xok_none, xq_52_55⟩
theorem xq_52_53 : xOKs xsg xm_52 xk_52_0 xk_52_53 := ⟨xok_none, xq_52_54⟩
theorem xq_52_52 : xOKs xsg xm_52 xk_52_0 xk_52_52 := ⟨xok_none, xq_52_53⟩
theorem xq_52_51 : xOKs xsg xm_52 xk_52_0 xk_52_51 := ⟨xok_none, xq_52_52⟩
theorem xq_52_50 : xOKs xsg xm_52 xk_52_0 xk_52_50 := ⟨xok_none, xq_52_51⟩
theorem xq_52_49 : xOKs xsg xm_52 xk_52_0 xk_52_49 := ⟨xok_none, xq_52_50⟩
theorem xq_52_48 : xOKs xsg xm_52 xk_52_0 xk_52_48 := ⟨xok_none, xq_52_49⟩
theorem xq_52_47 : xOKs xsg xm_52 xk_52_0 xk_52_47 := ⟨xok_none, xq_52_48⟩
theorem xq_52_46 : xOKs xsg xm_52 xk_52_0 xk_52_46 := ⟨xok_none, xq_52_47⟩
theorem xq_52_45 : xOKs xsg xm_52 xk_52_0 xk_52_45 := ⟨xok_none, xq_52_46⟩
theorem xq_52_44 : xOKs xsg xm_52 xk_52_0 xk_52_44 := ⟨xok_none, xq_52_45⟩
theorem xq_52_43 : xOKs xsg xm_52 xk_52_0 xk_52_43 := ⟨xok_none, xq_52_44⟩
theorem xq_52_42 : xOKs xsg xm_52 xk_52_0 xk_52_42 := ⟨xok_none, xq_52_43⟩
theorem xq_52_41 : xOKs xsg xm_52 xk_52_0 xk_52_41 := ⟨xok_none, xq_52_42⟩
theorem xq_52_40 : xOKs xsg xm_52 xk_52_0 xk_52_40 := ⟨xok_none, xq_52_41⟩
theorem xq_52_39 : xOKs xsg xm_52 xk_52_0 xk_52_39 := ⟨xok_none, xq_52_40⟩
theorem xq_52_38 : xOKs xsg xm_52 xk_52_0 xk_52_38 := ⟨xok_none, xq_52_39⟩
theorem xq_52_37 : xOKs xsg xm_52 xk_52_0 xk_52_37 := ⟨xok_none, xq_52_38⟩
theorem xq_52_36 : xOKs xsg xm_52 xk_52_0 xk_52_36 := ⟨xok_none, xq_52_37⟩
theorem xq_52_35 : xOKs xsg xm_52 xk_52_0 xk_52_35 := ⟨xok_none, xq_52_36⟩
theorem xq_52_34 : xOKs xsg xm_52 xk_52_0 xk_52_34 := ⟨xok_none, xq_52_35⟩
theorem xq_52_33 : xOKs xsg xm_52 xk_52_0 xk_52_33 := ⟨xok_none, xq_52_34⟩
theorem xq_52_32 : xOKs xsg xm_52 xk_52_0 xk_52_32 := ⟨xok_none, xq_52_33⟩
theorem xq_52_31 : xOKs xsg xm_52 xk_52_0 xk_52_31 := ⟨xok_none, xq_52_32⟩
theorem xq_52_30 : xOKs xsg xm_52 xk_52_0 xk_52_30 := ⟨xok_none, xq_52_31⟩
theorem xq_52_29 : xOKs xsg xm_52 xk_52_0 xk_52_29 := ⟨xok_none, xq_52_30⟩
theorem xq_52_28 : xOKs xsg xm_52 xk_52_0 xk_52_28 := ⟨xok_none, xq_52_29⟩
theorem xq_52_27 : xOKs xsg xm_52 xk_52_0 xk_52_27 := ⟨xok_none, xq_52_28⟩
theorem xq_52_26 : xOKs xsg xm_52 xk_52_0 xk_52_26 := ⟨xok_none, xq_52_27⟩
theorem xq_52_25 : xOKs xsg xm_52 xk_52_0 xk_52_25 := ⟨xok_none, xq_52_26⟩
theorem xq_52_24 : xOKs xsg xm_52 xk_52_0 xk_52_24 := ⟨xok_none, xq_52_25⟩
theorem xq_52_23 : xOKs xsg xm_52 xk_52_0 xk_52_23 := ⟨xok_none, xq_52_24⟩
theorem xq_52_22 : xOKs xsg xm_52 xk_52_0 xk_52_22 := ⟨xok_none, xq_52_23⟩
theorem xq_52_21 : xOKs xsg xm_52 xk_52_0 xk_52_21 := ⟨xok_none, xq_52_22⟩
theorem xq_52_20 : xOKs xsg xm_52 xk_52_0 xk_52_20 := ⟨xok_none, xq_52_21⟩
theorem xq_52_19 : xOKs xsg xm_52 xk_52_0 xk_52_19 := ⟨xok_none, xq_52_20⟩
theorem xq_52_18 : xOKs xsg xm_52 xk_52_0 xk_52_18 := ⟨xok_none, xq_52_19⟩
theorem xq_52_17 : xOKs xsg xm_52 xk_52_0 xk_52_17 := ⟨xok_none, xq_52_18⟩
theorem xq_52_16 : xOKs xsg xm_52 xk_52_0 xk_52_16 := ⟨xok_none, xq_52_17⟩
theorem xq_52_15 : xOKs xsg xm_52 xk_52_0 xk_52_15 := ⟨xok_br (tgt := 137) (xb_ne (by decide +kernel : decode xm_52.2.1 29 = .ok (.ifCond .ne 108, 3)) (by decide)) (by decide +kernel) rfl, xq_52_16⟩
theorem xq_52_14 : xOKs xsg xm_52 xk_52_0 xk_52_14 := ⟨xok_getN (by decide +kernel : decode xm_52.2.1 26 = .ok (.getfield 30, 3)) (rfl : vwCl[4]? = some (RX4, TX4, 15)) inX4 (by decide) (xN_c1 186 rfl rfl) rfl, xq_52_15⟩
theorem xq_52_13 : xOKs xsg xm_52 xk_52_0 xk_52_13 := ⟨xok_get (by decide +kernel : decode xm_52.2.1 23 = .ok (.getfield 9, 3)) (rfl : vwCl[10]? = some (RX10, TX10, 3)) inX10 (by decide) (xT_c2 54 rfl rfl) rfl, xq_52_14⟩
theorem xq_52_12 : xOKs xsg xm_52 xk_52_0 xk_52_12 := ⟨xok_ld (xl_aload_n (by decide +kernel : decode xm_52.2.1 22 = .ok (.aload_n 0, 1))) rfl, xq_52_13⟩
theorem xq_52_11 : xOKs xsg xm_52 xk_52_0 xk_52_11 := ⟨xok_br (tgt := 137) (xb_ige (by decide +kernel : decode xm_52.2.1 19 = .ok (.if_icmp .ge 118, 3)) (by decide)) (by decide +kernel) rfl, xq_52_12⟩
theorem xq_52_10 : xOKs xsg xm_52 xk_52_0 xk_52_10 := ⟨xok_callV (M' := xm_26) rfl (rfl : vwCl[4]? = some (RX4, TX4, 15)) (by decide +kernel : decode xm_52.2.1 16 = .ok (.invokevirtual 35, 3)) xn_26 (xT_c4 67 rfl rfl) (xT_c4 68 rfl rfl) (xT_c4 66 rfl rfl) rfl, xq_52_11⟩
theorem xq_52_9 : xOKs xsg xm_52 xk_52_0 xk_52_9 := ⟨xok_get (by decide +kernel : decode xm_52.2.1 13 = .ok (.getfield 9, 3)) (rfl : vwCl[10]? = some (RX10, TX10, 3)) inX10 (by decide) (xT_c2 54 rfl rfl) rfl, xq_52_10⟩
theorem xq_52_8 : xOKs xsg xm_52 xk_52_0 xk_52_8 := ⟨xok_ld (xl_aload_n (by decide +kernel : decode xm_52.2.1 12 = .ok (.aload_n 0, 1))) rfl, xq_52_9⟩
theorem xq_52_7 : xOKs xsg xm_52 xk_52_0 xk_52_7 := ⟨xok_ld (xl_iload_n (by decide +kernel : decode xm_52.2.1 11 = .ok (.iload_n 2, 1))) rfl, xq_52_8⟩
theorem xq_52_6 : xOKs xsg xm_52 xk_52_0 xk_52_6 := ⟨xok_st (xs_istore_n (by decide +kernel : decode xm_52.2.1 10 = .ok (.istore_n 2, 1)) (by decide)) rfl, xq_52_7⟩
theorem xq_52_5 : xOKs xsg xm_52 xk_52_0 xk_52_5 := ⟨xok_p (xp_iconst (v := 0) (by decide +kernel : decode xm_52.2.1 9 = .ok (.iconst 0, 1)) (by decide)) rfl, xq_52_6⟩
theorem xq_52_4 : xOKs xsg xm_52 xk_52_0 xk_52_4 := ⟨xok_callV (M' := xm_49) rfl (rfl : vwCl[10]? = some (RX10, TX10, 3)) (by decide +kernel : decode xm_52.2.1 6 = .ok (.invokevirtual 26, 3)) xn_49 (xT_c4 62 rfl rfl) (xT_c4 63 rfl rfl) (xT_c4 61 rfl rfl) rfl, xq_52_5⟩
theorem xq_52_3 : xOKs xsg xm_52 xk_52_0 xk_52_3 := ⟨xok_getN (by decide +kernel : decode xm_52.2.1 3 = .ok (.getfield 19, 3)) (rfl : vwCl[4]? = some (RX4, TX4, 15)) inX4 (by decide) (xN_c1 139 rfl rfl) rfl, xq_52_4⟩
theorem xq_52_2 : xOKs xsg xm_52 xk_52_0 xk_52_2 := ⟨xok_ld (xl_aload_n (by decide +kernel : decode xm_52.2.1 2 = .ok (.aload_n 1, 1))) rfl, xq_52_3⟩
theorem xq_52_1 : xOKs xsg xm_52 xk_52_0 xk_52_1 := ⟨xok_ld (xl_aload_n (by decide +kernel : decode xm_52.2.1 1 = .ok (.aload_n 1, 1))) rfl, xq_52_2⟩
theorem xq_52_0 : xOKs xsg xm_52 xk_52_0 xk_52_0 := ⟨xok_ld (xl_aload_n (by decide +kernel : decode xm_52.2.1 0 = .ok (.aload_n 0, 1))) rfl, xq_52_1⟩
theorem xz_52 : xwf xsg xm_52 xk_52_0 := ⟨xq_52_0, rfl, by decide⟩
/-! FeatherBench$Told.findHoldingItself(LFeatherBench$Program;)V -/
theorem xq_53_68 : xOKs xsg xm_53 xk_53_0 xk_53_68 := trivial
theorem xq_53_67 : xOKs xsg xm_53 xk_53_0 xk_53_67 := ⟨xok_ret0 (by decide +kernel : decode xm_53.2.1 129 = .ok (.return_, 1)) rfl, xq_53_68⟩
theorem xq_53_66 : xOKs xsg xm_53 xk_53_0 xk_53_66 := ⟨xok_none, xq_53_67⟩
theorem xq_53_65 : xOKs xsg xm_53 xk_53_0 xk_53_65 := ⟨xok_none, xq_53_66⟩
theorem xq_53_64 : xOKs xsg xm_53 xk_53_0 xk_53_64 := ⟨xok_none, xq_53_65⟩
theorem xq_53_63 : xOKs xsg xm_53 xk_53_0 xk_53_63 := ⟨xok_none, xq_53_64⟩
theorem xq_53_62 : xOKs xsg xm_53 xk_53_0 xk_53_62 := ⟨xok_none, xq_53_63⟩
theorem xq_53_61 : xOKs xsg xm_53 xk_53_0 xk_53_61 := ⟨xok_none, xq_53_62⟩
theorem xq_53_60 : xOKs xsg xm_53 xk_53_0 xk_53_60 := ⟨xok_none, xq_53_61⟩
theorem xq_53_59 : xOKs xsg xm_53 xk_53_0 xk_53_59 := ⟨xok_none, xq_53_60⟩
theorem xq_53_58 : xOKs xsg xm_53 xk_53_0 xk_53_58 := ⟨xok_none, xq_53_59⟩
theorem xq_53_57 : xOKs xsg xm_53 xk_53_0 xk_53_57 := ⟨xok_none, xq_53_58⟩
theorem xq_53_56 : xOKs xsg xm_53 xk_53_0 xk_53_56 := ⟨xok_none, xq_53_57⟩
theorem xq_53_55 : xOKs xsg xm_53 xk_53_0 xk_53_55 := ⟨xok_none, xq_53_56⟩
theorem xq_53_54 : xOKs xsg xm_53 xk_53_0 xk_53_54 := ⟨xok_none, xq_53_55⟩
theorem xq_53_53 : xOKs xsg xm_53 xk_53_0 xk_53_53 := ⟨xok_none, xq_53_54⟩
theorem xq_53_52 : xOKs xsg xm_53 xk_53_0 xk_53_52 := ⟨xok_none, xq_53_53⟩
theorem xq_53_51 : xOKs xsg xm_53 xk_53_0 xk_53_51 := ⟨xok_none, xq_53_52⟩
theorem xq_53_50 : xOKs xsg xm_53 xk_53_0 xk_53_50 := ⟨xok_none, xq_53_51⟩
theorem xq_53_49 : xOKs xsg xm_53 xk_53_0 xk_53_49 := ⟨xok_none, xq_53_50⟩
theorem xq_53_48 : xOKs xsg xm_53 xk_53_0 xk_53_48 := ⟨xok_none, xq_53_49⟩
theorem xq_53_47 : xOKs xsg xm_53 xk_53_0 xk_53_47 := ⟨xok_none, xq_53_48⟩
theorem xq_53_46 : xOKs xsg xm_53 xk_53_0 xk_53_46 := ⟨xok_none, xq_53_47⟩
theorem xq_53_45 : xOKs xsg xm_53 xk_53_0 xk_53_45 := ⟨xok_none, xq_53_46⟩
theorem xq_53_44 : xOKs xsg xm_53 xk_53_0 xk_53_44 := ⟨xok_none, xq_53_45⟩
theorem xq_53_43 : xOKs xsg xm_53 xk_53_0 xk_53_43 := ⟨xok_none, xq_53_44⟩
theorem xq_53_42 : xOKs xsg xm_53 xk_53_0 xk_53_42 := ⟨xok_none, xq_53_43⟩
theorem xq_53_41 : xOKs xsg xm_53 xk_53_0 xk_53_41 := ⟨xok_none, xq_53_42⟩
theorem xq_53_40 : xOKs xsg xm_53 xk_53_0 xk_53_40 := ⟨xok_none, xq_53_41⟩
theorem xq_53_39 : xOKs xsg xm_53 xk_53_0 xk_53_39 := ⟨xok_none, xq_53_40⟩
theorem xq_53_38 : xOKs xsg xm_53 xk_53_0 xk_53_38 := ⟨xok_none, xq_53_39⟩
theorem xq_53_37 : xOKs xsg xm_53 xk_53_0 xk_53_37 := ⟨xok_none, xq_53_38⟩
theorem xq_53_36 : xOKs xsg xm_53 xk_53_0 xk_53_36 := ⟨xok_none, xq_53_37⟩
theorem xq_53_35 : xOKs xsg xm_53 xk_53_0 xk_53_35 := ⟨xok_none, xq_53_36⟩
theorem xq_53_34 : xOKs xsg xm_53 xk_53_0 xk_53_34 := ⟨xok_none, xq_53_35⟩
theorem xq_53_33 : xOKs xsg xm_53 xk_53_0 xk_53_33 := ⟨xok_none, xq_53_34⟩
theorem xq_53_32 : xOKs xsg xm_53 xk_53_0 xk_53_32 := ⟨xok_none, xq_53_33⟩
theorem xq_53_31 : xOKs xsg xm_53 xk_53_0 xk_53_31 := ⟨xok_none, xq_53_32⟩
theorem xq_53_30 : xOKs xsg xm_53 xk_53_0 xk_53_30 := ⟨xok_none, xq_53_31⟩
theorem xq_53_29 : xOKs xsg xm_53 xk_53_0 xk_53_29 := ⟨xok_none, xq_53_30⟩
theorem xq_53_28 : xOKs xsg xm_53 xk_53_0 xk_53_28 := ⟨xok_none, xq_53_29⟩
theorem xq_53_27 : xOKs xsg xm_53 xk_53_0 xk_53_27 := ⟨xok_none, xq_53_28⟩
theorem xq_53_26 : xOKs xsg xm_53 xk_53_0 xk_53_26 := ⟨xok_none, xq_53_27⟩
theorem xq_53_25 : xOKs xsg xm_53 xk_53_0 xk_53_25 := ⟨xok_none, xq_53_26⟩
theorem xq_53_24 : xOKs xsg xm_53 xk_53_0 xk_53_24 := ⟨xok_none, xq_53_25⟩
theorem xq_53_23 : xOKs xsg xm_53 xk_53_0 xk_53_23 := ⟨xok_none, xq_53_24⟩
theorem xq_53_22 : xOKs xsg xm_53 xk_53_0 xk_53_22 := ⟨xok_none, xq_53_23⟩
theorem xq_53_21 : xOKs xsg xm_53 xk_53_0 xk_53_21 := ⟨xok_none, xq_53_22⟩
theorem xq_53_20 : xOKs xsg xm_53 xk_53_0 xk_53_20 := ⟨xok_none, xq_53_21⟩
theorem xq_53_19 : xOKs xsg xm_53 xk_53_0 xk_53_19 := ⟨xok_none, xq_53_20⟩
theorem xq_53_18 : xOKs xsg xm_53 xk_53_0 xk_53_18 := ⟨xok_none, xq_53_19⟩
theorem xq_53_17 : xOKs xsg xm_53 xk_53_0 xk_53_17 := ⟨xok_none, xq_53_18⟩
theorem xq_53_16 : xOKs xsg xm_53 xk_53_0 xk_53_16 := ⟨xok_none, xq_53_17⟩
theorem xq_53_15 : xOKs xsg xm_53 xk_53_0 xk_53_15 := ⟨xok_br (tgt := 129) (xb_ne (by decide +kernel : decode xm_53.2.1 29 = .ok (.ifCond .ne 100, 3)) (by decide)) (by decide +kernel) rfl, xq_53_16⟩
theorem xq_53_14 : xOKs xsg xm_53 xk_53_0 xk_53_14 := ⟨xok_getN (by decide +kernel : decode xm_53.2.1 26 = .ok (.getfield 30, 3)) (rfl : vwCl[4]? = some (RX4, TX4, 15)) inX4 (by decide) (xN_c1 186 rfl rfl) rfl, xq_53_15⟩
theorem xq_53_13 : xOKs xsg xm_53 xk_53_0 xk_53_13 := ⟨xok_get (by decide +kernel : decode xm_53.2.1 23 = .ok (.getfield 9, 3)) (rfl : vwCl[10]? = some (RX10, TX10, 3)) inX10 (by decide) (xT_c2 54 rfl rfl) rfl, xq_53_14⟩
theorem xq_53_12 : xOKs xsg xm_53 xk_53_0 xk_53_12 := ⟨xok_ld (xl_aload_n (by decide +kernel : decode xm_53.2.1 22 = .ok (.aload_n 0, 1))) rfl, xq_53_13⟩
theorem xq_53_11 : xOKs xsg xm_53 xk_53_0 xk_53_11 := ⟨xok_br (tgt := 129) (xb_ige (by decide +kernel : decode xm_53.2.1 19 = .ok (.if_icmp .ge 110, 3)) (by decide)) (by decide +kernel) rfl, xq_53_12⟩
theorem xq_53_10 : xOKs xsg xm_53 xk_53_0 xk_53_10 := ⟨xok_callV (M' := xm_22) rfl (rfl : vwCl[4]? = some (RX4, TX4, 15)) (by decide +kernel : decode xm_53.2.1 16 = .ok (.invokevirtual 49, 3)) xn_22 (xT_c4 49 rfl rfl) (xT_c4 50 rfl rfl) (xT_c4 92 rfl rfl) rfl, xq_53_11⟩
theorem xq_53_9 : xOKs xsg xm_53 xk_53_0 xk_53_9 := ⟨xok_get (by decide +kernel : decode xm_53.2.1 13 = .ok (.getfield 9, 3)) (rfl : vwCl[10]? = some (RX10, TX10, 3)) inX10 (by decide) (xT_c2 54 rfl rfl) rfl, xq_53_10⟩
theorem xq_53_8 : xOKs xsg xm_53 xk_53_0 xk_53_8 := ⟨xok_ld (xl_aload_n (by decide +kernel : decode xm_53.2.1 12 = .ok (.aload_n 0, 1))) rfl, xq_53_9⟩
theorem xq_53_7 : xOKs xsg xm_53 xk_53_0 xk_53_7 := ⟨xok_ld (xl_iload_n (by decide +kernel : decode xm_53.2.1 11 = .ok (.iload_n 2, 1))) rfl, xq_53_8⟩
theorem xq_53_6 : xOKs xsg xm_53 xk_53_0 xk_53_6 := ⟨xok_st (xs_istore_n (by decide +kernel : decode xm_53.2.1 10 = .ok (.istore_n 2, 1)) (by decide)) rfl, xq_53_7⟩
theorem xq_53_5 : xOKs xsg xm_53 xk_53_0 xk_53_5 := ⟨xok_p (xp_iconst (v := 0) (by decide +kernel : decode xm_53.2.1 9 = .ok (.iconst 0, 1)) (by decide)) rfl, xq_53_6⟩
theorem xq_53_4 : xOKs xsg xm_53 xk_53_0 xk_53_4 := ⟨xok_callV (M' := xm_49) rfl (rfl : vwCl[10]? = some (RX10, TX10, 3)) (by decide +kernel : decode xm_53.2.1 6 = .ok (.invokevirtual 26, 3)) xn_49 (xT_c4 62 rfl rfl) (xT_c4 63 rfl rfl) (xT_c4 61 rfl rfl) rfl, xq_53_5⟩
theorem xq_53_3 : xOKs xsg xm_53 xk_53_0 xk_53_3 := ⟨xok_getN (by decide +kernel : decode xm_53.2.1 3 = .ok (.getfield 19, 3)) (rfl : vwCl[4]? = some (RX4, TX4, 15)) inX4 (by decide) (xN_c1 139 rfl rfl) rfl, xq_53_4⟩
theorem xq_53_2 : xOKs xsg xm_53 xk_53_0 xk_53_2 := ⟨xok_ld (xl_aload_n (by decide +kernel : decode xm_53.2.1 2 = .ok (.aload_n 1, 1))) rfl, xq_53_3⟩
theorem xq_53_1 : xOKs xsg xm_53 xk_53_0 xk_53_1 := ⟨xok_ld (xl_aload_n (by decide +kernel : decode xm_53.2.1 1 = .ok (.aload_n 1, 1))) rfl, xq_53_2⟩
theorem xq_53_0 : xOKs xsg xm_53 xk_53_0 xk_53_0 := ⟨xok_ld (xl_aload_n (by decide +kernel : decode xm_53.2.1 0 = .ok (.aload_n 0, 1))) rfl, xq_53_1⟩
theorem xz_53 : xwf xsg xm_53 xk_53_0 := ⟨xq_53_0, rfl, by decide⟩
/-! FeatherBenchModel.<init>()V -/
theorem xq_54_311 : xOKs xsg xm_54 xk_54_0 xk_54_311 := trivial
theorem xq_54_310 : xOKs xsg xm_54 xk_54_0 xk_54_310 := ⟨xok_ret0 (by decide +kernel : decode xm_54.2.1 660 = .ok (.return_, 1)) rfl, xq_54_311⟩
theorem xq_54_309 : xOKs xsg xm_54 xk_54_0 xk_54_309 := ⟨xok_putF (by decide +kernel : decode xm_54.2.1 657 = .ok (.putfield 249, 3)) (rfl : vwCl[12]? = some (RX12, TX12, 125)) inX12 tyX12_ok nmX12 (k := 123) (by decide) rfl rfl rfl (xT_c6 182 rfl rfl) rfl, xq_54_310⟩
theorem xq_54_308 : xOKs xsg xm_54 xk_54_0 xk_54_308 := ⟨xok_newa (by decide +kernel : decode xm_54.2.1 655 = .ok (.newarray .int, 2)) (xT_c1 58 rfl rfl) (Or.inl rfl) rfl, xq_54_309⟩
theorem xq_54_307 : xOKs xsg xm_54 xk_54_0 xk_54_307 := ⟨xok_p (xp_sipush (v := 1100) (by decide +kernel : decode xm_54.2.1 652 = .ok (.sipush 1100, 3)) (by decide)) rfl, xq_54_308⟩
theorem xq_54_306 : xOKs xsg xm_54 xk_54_0 xk_54_306 := ⟨xok_ld (xl_aload_n (by decide +kernel : decode xm_54.2.1 651 = .ok (.aload_n 0, 1))) rfl, xq_54_307⟩
theorem xq_54_305 : xOKs xsg xm_54 xk_54_0 xk_54_305 := ⟨xok_putF (by decide +kernel : decode xm_54.2.1 648 = .ok (.putfield 246, 3)) (rfl : vwCl[12]? = some (RX12, TX12, 125)) inX12 tyX12_ok nmX12 (k := 122) (by decide) rfl rfl rfl (xT_c6 181 rfl rfl) rfl, xq_54_306⟩
theorem xq_54_304 : xOKs xsg xm_54 xk_54_0 xk_54_304 := ⟨xok_newa (by decide +kernel : decode xm_54.2.1 646 = .ok (.newarray .int, 2)) (xT_c1 58 rfl rfl) (Or.inl rfl) rfl, xq_54_305⟩
theorem xq_54_303 : xOKs xsg xm_54 xk_54_0 xk_54_303 := ⟨xok_p (xp_sipush (v := 1100) (by decide +kernel : decode xm_54.2.1 643 = .ok (.sipush 1100, 3)) (by decide)) rfl, xq_54_304⟩
theorem xq_54_302 : xOKs xsg xm_54 xk_54_0 xk_54_302 := ⟨xok_ld (xl_aload_n (by decide +kernel : decode xm_54.2.1 642 = .ok (.aload_n 0, 1))) rfl, xq_54_303⟩
theorem xq_54_301 : xOKs xsg xm_54 xk_54_0 xk_54_301 := ⟨xok_putF (by decide +kernel : decode xm_54.2.1 639 = .ok (.putfield 243, 3)) (rfl : vwCl[12]? = some (RX12, TX12, 125)) inX12 tyX12_ok nmX12 (k := 121) (by decide) rfl rfl rfl (xT_c6 180 rfl rfl) rfl, xq_54_302⟩
theorem xq_54_300 : xOKs xsg xm_54 xk_54_0 xk_54_300 := ⟨xok_newa (by decide +kernel : decode xm_54.2.1 637 = .ok (.newarray .int, 2)) (xT_c1 58 rfl rfl) (Or.inl rfl) rfl, xq_54_301⟩
theorem xq_54_299 : xOKs xsg xm_54 xk_54_0 xk_54_299 := ⟨xok_p (xp_bipush (v := 60) (by decide +kernel : decode xm_54.2.1 635 = .ok (.bipush 60, 2)) (by decide)) rfl, xq_54_300⟩
theorem xq_54_298 : xOKs xsg xm_54 xk_54_0 xk_54_298 := ⟨xok_ld (xl_aload_n (by decide +kernel : decode xm_54.2.1 634 = .ok (.aload_n 0, 1))) rfl, xq_54_299⟩
theorem xq_54_297 : xOKs xsg xm_54 xk_54_0 xk_54_297 := ⟨xok_putF (by decide +kernel : decode xm_54.2.1 631 = .ok (.putfield 240, 3)) (rfl : vwCl[12]? = some (RX12, TX12, 125)) inX12 tyX12_ok nmX12 (k := 119) (by decide) rfl rfl rfl (xT_c6 178 rfl rfl) rfl, xq_54_298⟩
theorem xq_54_296 : xOKs xsg xm_54 xk_54_0 xk_54_296 := ⟨xok_newa (by decide +kernel : decode xm_54.2.1 629 = .ok (.newarray .int, 2)) (xT_c1 58 rfl rfl) (Or.inl rfl) rfl, xq_54_297⟩
theorem xq_54_295 : xOKs xsg xm_54 xk_54_0 xk_54_295 := ⟨xok_p (xp_sipush (v := 2000) (by decide +kernel : decode xm_54.2.1 626 = .ok (.sipush 2000, 3)) (by decide)) rfl, xq_54_296⟩
theorem xq_54_294 : xOKs xsg xm_54 xk_54_0 xk_54_294 := ⟨xok_ld (xl_aload_n (by decide +kernel : decode xm_54.2.1 625 = .ok (.aload_n 0, 1))) rfl, xq_54_295⟩
theorem xq_54_293 : xOKs xsg xm_54 xk_54_0 xk_54_293 := ⟨xok_putF (by decide +kernel : decode xm_54.2.1 622 = .ok (.putfield 237, 3)) (rfl : vwCl[12]? = some (RX12, TX12, 125)) inX12 tyX12_ok nmX12 (k := 117) (by decide) rfl rfl rfl (xT_c6 176 rfl rfl) rfl, xq_54_294⟩
theorem xq_54_292 : xOKs xsg xm_54 xk_54_0 xk_54_292 := ⟨xok_newa (by decide +kernel : decode xm_54.2.1 620 = .ok (.newarray .int, 2)) (xT_c1 58 rfl rfl) (Or.inl rfl) rfl, xq_54_293⟩
theorem xq_54_291 : xOKs xsg xm_54 xk_54_0 xk_54_291 := ⟨xok_p (xp_sipush (v := 160) (by decide +kernel : decode xm_54.2.1 617 = .ok (.sipush 160, 3)) (by decide)) rfl, xq_54_292⟩
theorem xq_54_290 : xOKs xsg xm_54 xk_54_0 xk_54_290 := ⟨xok_ld (xl_aload_n (by decide +kernel : decode xm_54.2.1 616 = .ok (.aload_n 0, 1))) rfl, xq_54_291⟩
theorem xq_54_289 : xOKs xsg xm_54 xk_54_0 xk_54_289 := ⟨xok_putF (by decide +kernel : decode xm_54.2.1 613 = .ok (.putfield 234, 3)) (rfl : vwCl[12]? = some (RX12, TX12, 125)) inX12 tyX12_ok nmX12 (k := 116) (by decide) rfl rfl rfl (xT_c6 175 rfl rfl) rfl, xq_54_290⟩
theorem xq_54_288 : xOKs xsg xm_54 xk_54_0 xk_54_288 := ⟨xok_newa (by decide +kernel : decode xm_54.2.1 611 = .ok (.newarray .int, 2)) (xT_c1 58 rfl rfl) (Or.inl rfl) rfl, xq_54_289⟩
theorem xq_54_287 : xOKs xsg xm_54 xk_54_0 xk_54_287 := ⟨xok_p (xp_sipush (v := 160) (by decide +kernel : decode xm_54.2.1 608 = .ok (.sipush 160, 3)) (by decide)) rfl, xq_54_288⟩
theorem xq_54_286 : xOKs xsg xm_54 xk_54_0 xk_54_286 := ⟨xok_ld (xl_aload_n (by decide +kernel : decode xm_54.2.1 607 = .ok (.aload_n 0, 1))) rfl, xq_54_287⟩
theorem xq_54_285 : xOKs xsg xm_54 xk_54_0 xk_54_285 := ⟨xok_putF (by decide +kernel : decode xm_54.2.1 604 = .ok (.putfield 231, 3)) (rfl : vwCl[12]? = some (RX12, TX12, 125)) inX12 tyX12_ok nmX12 (k := 115) (by decide) rfl rfl rfl (xT_c6 174 rfl rfl) rfl, xq_54_286⟩
theorem xq_54_284 : xOKs xsg xm_54 xk_54_0 xk_54_284 := ⟨xok_newa (by decide +kernel : decode xm_54.2.1 602 = .ok (.newarray .int, 2)) (xT_c1 58 rfl rfl) (Or.inl rfl) rfl, xq_54_285⟩
theorem xq_54_283 : xOKs xsg xm_54 xk_54_0 xk_54_283 := ⟨xok_p (xp_sipush (v := 160) (by decide +kernel : decode xm_54.2.1 599 = .ok (.sipush 160, 3)) (by decide)) rfl, xq_54_284⟩
theorem xq_54_282 : xOKs xsg xm_54 xk_54_0 xk_54_282 := ⟨xok_ld (xl_aload_n (by decide +kernel : decode xm_54.2.1 598 = .ok (.aload_n 0, 1))) rfl, xq_54_283⟩
theorem xq_54_281 : xOKs xsg xm_54 xk_54_0 xk_54_281 := ⟨xok_putF (by decide +kernel : decode xm_54.2.1 595 = .ok (.putfield 228, 3)) (rfl : vwCl[12]? = some (RX12, TX12, 125)) inX12 tyX12_ok nmX12 (k := 114) (by decide) rfl rfl rfl (xT_c6 173 rfl rfl) rfl, xq_54_282⟩
theorem xq_54_280 : xOKs xsg xm_54 xk_54_0 xk_54_280 := ⟨xok_newa (by decide +kernel : decode xm_54.2.1 593 = .ok (.newarray .int, 2)) (xT_c1 58 rfl rfl) (Or.inl rfl) rfl, xq_54_281⟩
theorem xq_54_279 : xOKs xsg xm_54 xk_54_0 xk_54_279 := ⟨xok_p (xp_sipush (v := 160) (by decide +kernel : decode xm_54.2.1 590 = .ok (.sipush 160, 3)) (by decide)) rfl, xq_54_280⟩
theorem xq_54_278 : xOKs xsg xm_54 xk_54_0 xk_54_278 := ⟨xok_ld (xl_aload_n (by decide +kernel : decode xm_54.2.1 589 = .ok (.aload_n 0, 1))) rfl, xq_54_279⟩
theorem xq_54_277 : xOKs xsg xm_54 xk_54_0 xk_54_277 := ⟨xok_putF (by decide +kernel : decode xm_54.2.1 586 = .ok (.putfield 225, 3)) (rfl : vwCl[12]? = some (RX12, TX12, 125)) inX12 tyX12_ok nmX12 (k := 113) (by decide) rfl rfl rfl (xT_c6 172 rfl rfl) rfl, xq_54_278⟩
theorem xq_54_276 : xOKs xsg xm_54 xk_54_0 xk_54_276 := ⟨xok_newa (by decide +kernel : decode xm_54.2.1 584 = .ok (.newarray .int, 2)) (xT_c1 58 rfl rfl) (Or.inl rfl) rfl, xq_54_277⟩
theorem xq_54_275 : xOKs xsg xm_54 xk_54_0 xk_54_275 := ⟨xok_p (xp_sipush (v := 160) (by decide +kernel : decode xm_54.2.1 581 = .ok (.sipush 160, 3)) (by decide)) rfl, xq_54_276⟩
theorem xq_54_274 : xOKs xsg xm_54 xk_54_0 xk_54_274 := ⟨xok_ld (xl_aload_n (by decide +kernel : decode xm_54.2.1 580 = .ok (.aload_n 0, 1))) rfl, xq_54_275⟩
theorem xq_54_273 : xOKs xsg xm_54 xk_54_0 xk_54_273 := ⟨xok_put (by decide +kernel : decode xm_54.2.1 577 = .ok (.putfield 222, 3)) (rfl : vwCl[12]? = some (RX12, TX12, 125)) inX12 tyX12_ok nmX12 (k := 109) (by decide) rfl (xT_c6 168 rfl rfl) rfl, xq_54_274⟩
theorem xq_54_272 : xOKs xsg xm_54 xk_54_0 xk_54_272 := ⟨xok_p (xp_iconst (v := -1) (by decide +kernel : decode xm_54.2.1 576 = .ok (.iconst (-1), 1)) (by decide)) rfl, xq_54_273⟩
theorem xq_54_271 : xOKs xsg xm_54 xk_54_0 xk_54_271 := ⟨xok_ld (xl_aload_n (by decide +kernel : decode xm_54.2.1 575 = .ok (.aload_n 0, 1))) rfl, xq_54_272⟩
theorem xq_54_270 : xOKs xsg xm_54 xk_54_0 xk_54_270 := ⟨xok_putF (by decide +kernel : decode xm_54.2.1 572 = .ok (.putfield 219, 3)) (rfl : vwCl[12]? = some (RX12, TX12, 125)) inX12 tyX12_ok nmX12 (k := 104) (by decide) rfl rfl rfl (xT_c6 163 rfl rfl) rfl, xq_54_271⟩
theorem xq_54_269 : xOKs xsg xm_54 xk_54_0 xk_54_269 := ⟨xok_newa (by decide +kernel : decode xm_54.2.1 570 = .ok (.newarray .int, 2)) (xT_c1 58 rfl rfl) (Or.inl rfl) rfl, xq_54_270⟩
theorem xq_54_268 : xOKs xsg xm_54 xk_54_0 xk_54_268 := ⟨xok_p (xp_sipush (v := 4000) (by decide +kernel : decode xm_54.2.1 567 = .ok (.sipush 4000, 3)) (by decide)) rfl, xq_54_269⟩
theorem xq_54_267 : xOKs xsg xm_54 xk_54_0 xk_54_267 := ⟨xok_ld (xl_aload_n (by decide +kernel : decode xm_54.2.1 566 = .ok (.aload_n 0, 1))) rfl, xq_54_268⟩
theorem xq_54_266 : xOKs xsg xm_54 xk_54_0 xk_54_266 := ⟨xok_putF (by decide +kernel : decode xm_54.2.1 563 = .ok (.putfield 216, 3)) (rfl : vwCl[12]? = some (RX12, TX12, 125)) inX12 tyX12_ok nmX12 (k := 101) (by decide) rfl rfl rfl (xT_c6 160 rfl rfl) rfl, xq_54_267⟩
theorem xq_54_265 : xOKs xsg xm_54 xk_54_0 xk_54_265 := ⟨xok_newa (by decide +kernel : decode xm_54.2.1 561 = .ok (.newarray .int, 2)) (xT_c1 58 rfl rfl) (Or.inl rfl) rfl, xq_54_266⟩
theorem xq_54_264 : xOKs xsg xm_54 xk_54_0 xk_54_264 := ⟨xok_p (xp_sipush (v := 30600) (by decide +kernel : decode xm_54.2.1 558 = .ok (.sipush 30600, 3)) (by decide)) rfl, xq_54_265⟩
theorem xq_54_263 : xOKs xsg xm_54 xk_54_0 xk_54_263 := ⟨xok_ld (xl_aload_n (by decide +kernel : decode xm_54.2.1 557 = .ok (.aload_n 0, 1))) rfl, xq_54_264⟩
theorem xq_54_262 : xOKs xsg xm_54 xk_54_0 xk_54_262 := ⟨xok_putF (by decide +kernel : decode xm_54.2.1 554 = .ok (.putfield 213, 3)) (rfl : vwCl[12]? = some (RX12, TX12, 125)) inX12 tyX12_ok nmX12 (k := 100) (by decide) rfl rfl rfl (xT_c6 159 rfl rfl) rfl, xq_54_263⟩
theorem xq_54_261 : xOKs xsg xm_54 xk_54_0 xk_54_261 := ⟨xok_newa (by decide +kernel : decode xm_54.2.1 552 = .ok (.newarray .int, 2)) (xT_c1 58 rfl rfl) (Or.inl rfl) rfl, xq_54_262⟩
theorem xq_54_260 : xOKs xsg xm_54 xk_54_0 xk_54_260 := ⟨xok_p (xp_sipush (v := 5100) (by decide +kernel : decode xm_54.2.1 549 = .ok (.sipush 5100, 3)) (by decide)) rfl, xq_54_261⟩
theorem xq_54_259 : xOKs xsg xm_54 xk_54_0 xk_54_259 := ⟨xok_ld (xl_aload_n (by decide +kernel : decode xm_54.2.1 548 = .ok (.aload_n 0, 1))) rfl, xq_54_260⟩
theorem xq_54_258 : xOKs xsg xm_54 xk_54_0 xk_54_258 := ⟨xok_putF (by decide +kernel : decode xm_54.2.1 545 = .ok (.putfield 210, 3)) (rfl : vwCl[12]? = some (RX12, TX12, 125)) inX12 tyX12_ok nmX12 (k := 99) (by decide) rfl rfl rfl (xT_c6 158 rfl rfl) rfl, xq_54_259⟩
theorem xq_54_257 : xOKs xsg xm_54 xk_54_0 xk_54_257 := ⟨xok_newa (by decide +kernel : decode xm_54.2.1 543 = .ok (.newarray .int, 2)) (xT_c1 58 rfl rfl) (Or.inl rfl) rfl, xq_54_258⟩
theorem xq_54_256 : xOKs xsg xm_54 xk_54_0 xk_54_256 := ⟨xok_p (xp_sipush (v := 5100) (by decide +kernel : decode xm_54.2.1 540 = .ok (.sipush 5100, 3)) (by decide)) rfl, xq_54_257⟩
theorem xq_54_255 : xOKs xsg xm_54 xk_54_0 xk_54_255 := ⟨xok_ld (xl_aload_n (by decide +kernel : decode xm_54.2.1 539 = .ok (.aload_n 0, 1))) rfl, xq_54_256⟩
theorem xq_54_254 : xOKs xsg xm_54 xk_54_0 xk_54_254 := ⟨xok_put (by decide +kernel : decode xm_54.2.1 536 = .ok (.putfield 207, 3)) (rfl : vwCl[12]? = some (RX12, TX12, 125)) inX12 tyX12_ok nmX12 (k := 92) (by decide) rfl (xT_c6 151 rfl rfl) rfl, xq_54_255⟩
theorem xq_54_253 : xOKs xsg xm_54 xk_54_0 xk_54_253 := ⟨xok_p (xp_iconst (v := -1) (by decide +kernel : decode xm_54.2.1 535 = .ok (.iconst (-1), 1)) (by decide)) rfl, xq_54_254⟩
theorem xq_54_252 : xOKs xsg xm_54 xk_54_0 xk_54_252 := ⟨xok_ld (xl_aload_n (by decide +kernel : decode xm_54.2.1 534 = .ok (.aload_n 0, 1))) rfl, xq_54_253⟩
theorem xq_54_251 : xOKs xsg xm_54 xk_54_0 xk_54_251 := ⟨xok_put (by decide +kernel : decode xm_54.2.1 531 = .ok (.putfield 203, 3)) (rfl : vwCl[12]? = some (RX12, TX12, 125)) inX12 tyX12_ok nmX12 (k := 91) (by decide) rfl (xT_c6 150 rfl rfl) rfl, xq_54_252⟩
theorem xq_54_250 : xOKs xsg xm_54 xk_54_0 xk_54_250 := ⟨xok_p (xp_iconst (v := -1) (by decide +kernel : decode xm_54.2.1 530 = .ok (.iconst (-1), 1)) (by decide)) rfl, xq_54_251⟩
theorem xq_54_249 : xOKs xsg xm_54 xk_54_0 xk_54_249 := ⟨xok_ld (xl_aload_n (by decide +kernel : decode xm_54.2.1 529 = .ok (.aload_n 0, 1))) rfl, xq_54_250⟩
theorem xq_54_248 : xOKs xsg xm_54 xk_54_0 xk_54_248 := ⟨xok_putF (by decide +kernel : decode xm_54.2.1 526 = .ok (.putfield 200, 3)) (rfl : vwCl[12]? = some (RX12, TX12, 125)) inX12 tyX12_ok nmX12 (k := 89) (by decide) rfl rfl rfl (xT_c6 148 rfl rfl) rfl, xq_54_249⟩
theorem xq_54_247 : xOKs xsg xm_54 xk_54_0 xk_54_247 := ⟨xok_newa (by decide +kernel : decode xm_54.2.1 524 = .ok (.newarray .int, 2)) (xT_c1 58 rfl rfl) (Or.inl rfl) rfl, xq_54_248⟩
theorem xq_54_246 : xOKs xsg xm_54 xk_54_0 xk_54_246 := ⟨xok_p (xp_iconst (v := 2) (by decide +kernel : decode xm_54.2.1 523 = .ok (.iconst 2, 1)) (by decide)) rfl, xq_54_247⟩
theorem xq_54_245 : xOKs xsg xm_54 xk_54_0 xk_54_245 := ⟨xok_ld (xl_aload_n (by decide +kernel : decode xm_54.2.1 522 = .ok (.aload_n 0, 1))) rfl, xq_54_246⟩
theorem xq_54_244 : xOKs xsg xm_54 xk_54_0 xk_54_244 := ⟨xok_putF (by decide +kernel : decode xm_54.2.1 519 = .ok (.putfield 197, 3)) (rfl : vwCl[12]? = some (RX12, TX12, 125)) inX12 tyX12_ok nmX12 (k := 88) (by decide) rfl rfl rfl (xT_c6 147 rfl rfl) rfl, xq_54_245⟩
theorem xq_54_243 : xOKs xsg xm_54 xk_54_0 xk_54_243 := ⟨xok_newa (by decide +kernel : decode xm_54.2.1 517 = .ok (.newarray .int, 2)) (xT_c1 58 rfl rfl) (Or.inl rfl) rfl, xq_54_244⟩
theorem xq_54_242 : xOKs xsg xm_54 xk_54_0 xk_54_242 := ⟨xok_p (xp_bipush (v := 120) (by decide +kernel : decode xm_54.2.1 515 = .ok (.bipush 120, 2)) (by decide)) rfl, xq_54_243⟩
theorem xq_54_241 : xOKs xsg xm_54 xk_54_0 xk_54_241 := ⟨xok_ld (xl_aload_n (by decide +kernel : decode xm_54.2.1 514 = .ok (.aload_n 0, 1))) rfl, xq_54_242⟩
theorem xq_54_240 : xOKs xsg xm_54 xk_54_0 xk_54_240 := ⟨xok_putF (by decide +kernel : decode xm_54.2.1 511 = .ok (.putfield 194, 3)) (rfl : vwCl[12]? = some (RX12, TX12, 125)) inX12 tyX12_ok nmX12 (k := 84) (by decide) rfl rfl rfl (xT_c6 145 rfl rfl) rfl, xq_54_241⟩
theorem xq_54_239 : xOKs xsg xm_54 xk_54_0 xk_54_239 := ⟨xok_newa (by decide +kernel : decode xm_54.2.1 509 = .ok (.newarray .int, 2)) (xT_c1 58 rfl rfl) (Or.inl rfl) rfl, xq_54_240⟩
theorem xq_54_238 : xOKs xsg xm_54 xk_54_0 xk_54_238 := ⟨xok_p (xp_sipush (v := 12006) (by decide +kernel : decode xm_54.2.1 506 = .ok (.sipush 12006, 3)) (by decide)) rfl, xq_54_239⟩
theorem xq_54_237 : xOKs xsg xm_54 xk_54_0 xk_54_237 := ⟨xok_ld (xl_aload_n (by decide +kernel : decode xm_54.2.1 505 = .ok (.aload_n 0, 1))) rfl, xq_54_238⟩
theorem xq_54_236 : xOKs xsg xm_54 xk_54_0 xk_54_236 := ⟨xok_putF (by decide +kernel : decode xm_54.2.1 502 = .ok (.putfield 191, 3)) (rfl : vwCl[12]? = some (RX12, TX12, 125)) inX12 tyX12_ok nmX12 (k := 83) (by decide) rfl rfl rfl (xT_c6 144 rfl rfl) rfl, xq_54_237⟩
theorem xq_54_235 : xOKs xsg xm_54 xk_54_0 xk_54_235 := ⟨xok_newa (by decide +kernel : decode xm_54.2.1 500 = .ok (.newarray .int, 2)) (xT_c1 58 rfl rfl) (Or.inl rfl) rfl, xq_54_236⟩
theorem xq_54_234 : xOKs xsg xm_54 xk_54_0 xk_54_234 := ⟨xok_p (xp_sipush (v := 12006) (by decide +kernel : decode xm_54.2.1 497 = .ok (.sipush 12006, 3)) (by decide)) rfl, xq_54_235⟩
theorem xq_54_233 : xOKs xsg xm_54 xk_54_0 xk_54_233 := ⟨xok_ld (xl_aload_n (by decide +kernel : decode xm_54.2.1 496 = .ok (.aload_n 0, 1))) rfl, xq_54_234⟩
theorem xq_54_232 : xOKs xsg xm_54 xk_54_0 xk_54_232 := ⟨xok_putF (by decide +kernel : decode xm_54.2.1 493 = .ok (.putfield 188, 3)) (rfl : vwCl[12]? = some (RX12, TX12, 125)) inX12 tyX12_ok nmX12 (k := 82) (by decide) rfl rfl rfl (xT_c6 143 rfl rfl) rfl, xq_54_233⟩
theorem xq_54_231 : xOKs xsg xm_54 xk_54_0 xk_54_231 := ⟨xok_newa (by decide +kernel : decode xm_54.2.1 491 = .ok (.newarray .int, 2)) (xT_c1 58 rfl rfl) (Or.inl rfl) rfl, xq_54_232⟩
theorem xq_54_230 : xOKs xsg xm_54 xk_54_0 xk_54_230 := ⟨xok_p (xp_ldc (v := 120000) (by decide +kernel : decode xm_54.2.1 489 = .ok (.ldc 187, 2)) (xT_c6 60 rfl rfl)) rfl, xq_54_231⟩
theorem xq_54_229 : xOKs xsg xm_54 xk_54_0 xk_54_229 := ⟨xok_ld (xl_aload_n (by decide +kernel : decode xm_54.2.1 488 = .ok (.aload_n 0, 1))) rfl, xq_54_230⟩
theorem xq_54_228 : xOKs xsg xm_54 xk_54_0 xk_54_228 := ⟨xok_putF (by decide +kernel : decode xm_54.2.1 485 = .ok (.putfield 184, 3)) (rfl : vwCl[12]? = some (RX12, TX12, 125)) inX12 tyX12_ok nmX12 (k := 79) (by decide) rfl rfl rfl (xT_c6 140 rfl rfl) rfl, xq_54_229⟩
theorem xq_54_227 : xOKs xsg xm_54 xk_54_0 xk_54_227 := ⟨xok_newa (by decide +kernel : decode xm_54.2.1 483 = .ok (.newarray .boolean, 2)) (xT_c7 196 rfl rfl) (Or.inr (Or.inr rfl)) rfl, xq_54_228⟩
theorem xq_54_226 : xOKs xsg xm_54 xk_54_0 xk_54_226 := ⟨xok_p (xp_sipush (v := 576) (by decide +kernel : decode xm_54.2.1 480 = .ok (.sipush 576, 3)) (by decide)) rfl, xq_54_227⟩
theorem xq_54_225 : xOKs xsg xm_54 xk_54_0 xk_54_225 := ⟨xok_ld (xl_aload_n (by decide +kernel : decode xm_54.2.1 479 = .ok (.aload_n 0, 1))) rfl, xq_54_226⟩
theorem xq_54_224 : xOKs xsg xm_54 xk_54_0 xk_54_224 := ⟨xok_putF (by decide +kernel : decode xm_54.2.1 476 = .ok (.putfield 181, 3)) (rfl : vwCl[12]? = some (RX12, TX12, 125)) inX12 tyX12_ok nmX12 (k := 69) (by decide) rfl rfl rfl (xT_c6 130 rfl rfl) rfl, xq_54_225⟩
theorem xq_54_223 : xOKs xsg xm_54 xk_54_0 xk_54_223 := ⟨xok_newa (by decide +kernel : decode xm_54.2.1 474 = .ok (.newarray .int, 2)) (xT_c1 58 rfl rfl) (Or.inl rfl) rfl, xq_54_224⟩
theorem xq_54_222 : xOKs xsg xm_54 xk_54_0 xk_54_222 := ⟨xok_p (xp_sipush (v := 3600) (by decide +kernel : decode xm_54.2.1 471 = .ok (.sipush 3600, 3)) (by decide)) rfl, xq_54_223⟩
theorem xq_54_221 : xOKs xsg xm_54 xk_54_0 xk_54_221 := ⟨xok_ld (xl_aload_n (by decide +kernel : decode xm_54.2.1 470 = .ok (.aload_n 0, 1))) rfl, xq_54_222⟩
theorem xq_54_220 : xOKs xsg xm_54 xk_54_0 xk_54_220 := ⟨xok_putF (by decide +kernel : decode xm_54.2.1 467 = .ok (.putfield 178, 3)) (rfl : vwCl[12]? = some (RX12, TX12, 125)) inX12 tyX12_ok nmX12 (k := 68) (by decide) rfl rfl rfl (xT_c6 129 rfl rfl) rfl, xq_54_221⟩
theorem xq_54_219 : xOKs xsg xm_54 xk_54_0 xk_54_219 := ⟨xok_newa (by decide +kernel : decode xm_54.2.1 465 = .ok (.newarray .int, 2)) (xT_c1 58 rfl rfl) (Or.inl rfl) rfl, xq_54_220⟩
theorem xq_54_218 : xOKs xsg xm_54 xk_54_0 xk_54_218 := ⟨xok_p (xp_sipush (v := 3600) (by decide +kernel : decode xm_54.2.1 462 = .ok (.sipush 3600, 3)) (by decide)) rfl, xq_54_219⟩
theorem xq_54_217 : xOKs xsg xm_54 xk_54_0 xk_54_217 := ⟨xok_ld (xl_aload_n (by decide +kernel : decode xm_54.2.1 461 = .ok (.aload_n 0, 1))) rfl, xq_54_218⟩
theorem xq_54_216 : xOKs xsg xm_54 xk_54_0 xk_54_216 := ⟨xok_putF (by decide +kernel : decode xm_54.2.1 458 = .ok (.putfield 175, 3)) (rfl : vwCl[12]? = some (RX12, TX12, 125)) inX12 tyX12_ok nmX12 (k := 67) (by decide) rfl rfl rfl (xT_c6 128 rfl rfl) rfl, xq_54_217⟩
theorem xq_54_215 : xOKs xsg xm_54 xk_54_0 xk_54_215 := ⟨xok_newa (by decide +kernel : decode xm_54.2.1 456 = .ok (.newarray .int, 2)) (xT_c1 58 rfl rfl) (Or.inl rfl) rfl, xq_54_216⟩
theorem xq_54_214 : xOKs xsg xm_54 xk_54_0 xk_54_214 := ⟨xok_p (xp_sipush (v := 600) (by decide +kernel : decode xm_54.2.1 453 = .ok (.sipush 600, 3)) (by decide)) rfl, xq_54_215⟩
theorem xq_54_213 : xOKs xsg xm_54 xk_54_0 xk_54_213 := ⟨xok_ld (xl_aload_n (by decide +kernel : decode xm_54.2.1 452 = .ok (.aload_n 0, 1))) rfl, xq_54_214⟩
theorem xq_54_212 : xOKs xsg xm_54 xk_54_0 xk_54_212 := ⟨xok_putF (by decide +kernel : decode xm_54.2.1 449 = .ok (.putfield 172, 3)) (rfl : vwCl[12]? = some (RX12, TX12, 125)) inX12 tyX12_ok nmX12 (k := 66) (by decide) rfl rfl rfl (xT_c6 127 rfl rfl) rfl, xq_54_213⟩
theorem xq_54_211 : xOKs xsg xm_54 xk_54_0 xk_54_211 := ⟨xok_newa (by decide +kernel : decode xm_54.2.1 447 = .ok (.newarray .int, 2)) (xT_c1 58 rfl rfl) (Or.inl rfl) rfl, xq_54_212⟩
theorem xq_54_210 : xOKs xsg xm_54 xk_54_0 xk_54_210 := ⟨xok_p (xp_sipush (v := 600) (by decide +kernel : decode xm_54.2.1 444 = .ok (.sipush 600, 3)) (by decide)) rfl, xq_54_211⟩
theorem xq_54_209 : xOKs xsg xm_54 xk_54_0 xk_54_209 := ⟨xok_ld (xl_aload_n (by decide +kernel : decode xm_54.2.1 443 = .ok (.aload_n 0, 1))) rfl, xq_54_210⟩
theorem xq_54_208 : xOKs xsg xm_54 xk_54_0 xk_54_208 := ⟨xok_putF (by decide +kernel : decode xm_54.2.1 440 = .ok (.putfield 169, 3)) (rfl : vwCl[12]? = some (RX12, TX12, 125)) inX12 tyX12_ok nmX12 (k := 63) (by decide) rfl rfl rfl (xT_c6 124 rfl rfl) rfl, xq_54_209⟩
theorem xq_54_207 : xOKs xsg xm_54 xk_54_0 xk_54_207 := ⟨xok_newa (by decide +kernel : decode xm_54.2.1 438 = .ok (.newarray .int, 2)) (xT_c1 58 rfl rfl) (Or.inl rfl) rfl, xq_54_208⟩
theorem xq_54_206 : xOKs xsg xm_54 xk_54_0 xk_54_206 := ⟨xok_p (xp_ldc (v := 200000) (by decide +kernel : decode xm_54.2.1 436 = .ok (.ldc 168, 2)) (xT_c6 59 rfl rfl)) rfl, xq_54_207⟩
theorem xq_54_205 : xOKs xsg xm_54 xk_54_0 xk_54_205 := ⟨xok_ld (xl_aload_n (by decide +kernel : decode xm_54.2.1 435 = .ok (.aload_n 0, 1))) rfl, xq_54_206⟩
theorem xq_54_204 : xOKs xsg xm_54 xk_54_0 xk_54_204 := ⟨xok_putF (by decide +kernel : decode xm_54.2.1 432 = .ok (.putfield 165, 3)) (rfl : vwCl[12]? = some (RX12, TX12, 125)) inX12 tyX12_ok nmX12 (k := 62) (by decide) rfl rfl rfl (xT_c6 123 rfl rfl) rfl, xq_54_205⟩
theorem xq_54_203 : xOKs xsg xm_54 xk_54_0 xk_54_203 := ⟨xok_newa (by decide +kernel : decode xm_54.2.1 430 = .ok (.newarray .int, 2)) (xT_c1 58 rfl rfl) (Or.inl rfl) rfl, xq_54_204⟩
theorem xq_54_202 : xOKs xsg xm_54 xk_54_0 xk_54_202 := ⟨xok_p (xp_iconst (v := 2) (by decide +kernel : decode xm_54.2.1 429 = .ok (.iconst 2, 1)) (by decide)) rfl, xq_54_203⟩
theorem xq_54_201 : xOKs xsg xm_54 xk_54_0 xk_54_201 := ⟨xok_ld (xl_aload_n (by decide +kernel : decode xm_54.2.1 428 = .ok (.aload_n 0, 1))) rfl, xq_54_202⟩
theorem xq_54_200 : xOKs xsg xm_54 xk_54_0 xk_54_200 := ⟨xok_putF (by decide +kernel : decode xm_54.2.1 425 = .ok (.putfield 162, 3)) (rfl : vwCl[12]? = some (RX12, TX12, 125)) inX12 tyX12_ok nmX12 (k := 61) (by decide) rfl rfl rfl (xT_c6 122 rfl rfl) rfl, xq_54_201⟩
theorem xq_54_199 : xOKs xsg xm_54 xk_54_0 xk_54_199 := ⟨xok_newa (by decide +kernel : decode xm_54.2.1 423 = .ok (.newarray .int, 2)) (xT_c1 58 rfl rfl) (Or.inl rfl) rfl, xq_54_200⟩
theorem xq_54_198 : xOKs xsg xm_54 xk_54_0 xk_54_198 := ⟨xok_p (xp_sipush (v := 168) (by decide +kernel : decode xm_54.2.1 420 = .ok (.sipush 168, 3)) (by decide)) rfl, xq_54_199⟩
theorem xq_54_197 : xOKs xsg xm_54 xk_54_0 xk_54_197 := ⟨xok_ld (xl_aload_n (by decide +kernel : decode xm_54.2.1 419 = .ok (.aload_n 0, 1))) rfl, xq_54_198⟩
theorem xq_54_196 : xOKs xsg xm_54 xk_54_0 xk_54_196 := ⟨xok_putF (by decide +kernel : decode xm_54.2.1 416 = .ok (.putfield 159, 3)) (rfl : vwCl[12]? = some (RX12, TX12, 125)) inX12 tyX12_ok nmX12 (k := 60) (by decide) rfl rfl rfl (xT_c6 121 rfl rfl) rfl, xq_54_197⟩
theorem xq_54_195 : xOKs xsg xm_54 xk_54_0 xk_54_195 := ⟨xok_newa (by decide +kernel : decode xm_54.2.1 414 = .ok (.newarray .int, 2)) (xT_c1 58 rfl rfl) (Or.inl rfl) rfl, xq_54_196⟩
theorem xq_54_194 : xOKs xsg xm_54 xk_54_0 xk_54_194 := ⟨xok_p (xp_bipush (v := 120) (by decide +kernel : decode xm_54.2.1 412 = .ok (.bipush 120, 2)) (by decide)) rfl, xq_54_195⟩
theorem xq_54_193 : xOKs xsg xm_54 xk_54_0 xk_54_193 := ⟨xok_ld (xl_aload_n (by decide +kernel : decode xm_54.2.1 411 = .ok (.aload_n 0, 1))) rfl, xq_54_194⟩
theorem xq_54_192 : xOKs xsg xm_54 xk_54_0 xk_54_192 := ⟨xok_putF (by decide +kernel : decode xm_54.2.1 408 = .ok (.putfield 156, 3)) (rfl : vwCl[12]? = some (RX12, TX12, 125)) inX12 tyX12_ok nmX12 (k := 59) (by decide) rfl rfl rfl (xT_c6 120 rfl rfl) rfl, xq_54_193⟩
theorem xq_54_191 : xOKs xsg xm_54 xk_54_0 xk_54_191 := ⟨xok_newa (by decide +kernel : decode xm_54.2.1 406 = .ok (.newarray .boolean, 2)) (xT_c7 196 rfl rfl) (Or.inr (Or.inr rfl)) rfl, xq_54_192⟩
theorem xq_54_190 : xOKs xsg xm_54 xk_54_0 xk_54_190 := ⟨xok_p (xp_iconst (v := 2) (by decide +kernel : decode xm_54.2.1 405 = .ok (.iconst 2, 1)) (by decide)) rfl, xq_54_191⟩
theorem xq_54_189 : xOKs xsg xm_54 xk_54_0 xk_54_189 := ⟨xok_ld (xl_aload_n (by decide +kernel : decode xm_54.2.1 404 = .ok (.aload_n 0, 1))) rfl, xq_54_190⟩
theorem xq_54_188 : xOKs xsg xm_54 xk_54_0 xk_54_188 := ⟨xok_putF (by decide +kernel : decode xm_54.2.1 401 = .ok (.putfield 153, 3)) (rfl : vwCl[12]? = some (RX12, TX12, 125)) inX12 tyX12_ok nmX12 (k := 58) (by decide) rfl rfl rfl (xT_c6 119 rfl rfl) rfl, xq_54_189⟩
theorem xq_54_187 : xOKs xsg xm_54 xk_54_0 xk_54_187 := ⟨xok_newa (by decide +kernel : decode xm_54.2.1 399 = .ok (.newarray .int, 2)) (xT_c1 58 rfl rfl) (Or.inl rfl) rfl, xq_54_188⟩
theorem xq_54_186 : xOKs xsg xm_54 xk_54_0 xk_54_186 := ⟨xok_p (xp_iconst (v := 2) (by decide +kernel : decode xm_54.2.1 398 = .ok (.iconst 2, 1)) (by decide)) rfl, xq_54_187⟩
theorem xq_54_185 : xOKs xsg xm_54 xk_54_0 xk_54_185 := ⟨xok_ld (xl_aload_n (by decide +kernel : decode xm_54.2.1 397 = .ok (.aload_n 0, 1))) rfl, xq_54_186⟩
theorem xq_54_184 : xOKs xsg xm_54 xk_54_0 xk_54_184 := ⟨xok_putF (by decide +kernel : decode xm_54.2.1 394 = .ok (.putfield 150, 3)) (rfl : vwCl[12]? = some (RX12, TX12, 125)) inX12 tyX12_ok nmX12 (k := 57) (by decide) rfl rfl rfl (xT_c6 118 rfl rfl) rfl, xq_54_185⟩
theorem xq_54_183 : xOKs xsg xm_54 xk_54_0 xk_54_183 := ⟨xok_newa (by decide +kernel : decode xm_54.2.1 392 = .ok (.newarray .int, 2)) (xT_c1 58 rfl rfl) (Or.inl rfl) rfl, xq_54_184⟩
theorem xq_54_182 : xOKs xsg xm_54 xk_54_0 xk_54_182 := ⟨xok_p (xp_bipush (v := 120) (by decide +kernel : decode xm_54.2.1 390 = .ok (.bipush 120, 2)) (by decide)) rfl, xq_54_183⟩
theorem xq_54_181 : xOKs xsg xm_54 xk_54_0 xk_54_181 := ⟨xok_ld (xl_aload_n (by decide +kernel : decode xm_54.2.1 389 = .ok (.aload_n 0, 1))) rfl, xq_54_182⟩
theorem xq_54_180 : xOKs xsg xm_54 xk_54_0 xk_54_180 := ⟨xok_putF (by decide +kernel : decode xm_54.2.1 386 = .ok (.putfield 147, 3)) (rfl : vwCl[12]? = some (RX12, TX12, 125)) inX12 tyX12_ok nmX12 (k := 56) (by decide) rfl rfl rfl (xT_c6 117 rfl rfl) rfl, xq_54_181⟩
theorem xq_54_179 : xOKs xsg xm_54 xk_54_0 xk_54_179 := ⟨xok_newa (by decide +kernel : decode xm_54.2.1 384 = .ok (.newarray .int, 2)) (xT_c1 58 rfl rfl) (Or.inl rfl) rfl, xq_54_180⟩
theorem xq_54_178 : xOKs xsg xm_54 xk_54_0 xk_54_178 := ⟨xok_p (xp_bipush (v := 120) (by decide +kernel : decode xm_54.2.1 382 = .ok (.bipush 120, 2)) (by decide)) rfl, xq_54_179⟩
theorem xq_54_177 : xOKs xsg xm_54 xk_54_0 xk_54_177 := ⟨xok_ld (xl_aload_n (by decide +kernel : decode xm_54.2.1 381 = .ok (.aload_n 0, 1))) rfl, xq_54_178⟩
theorem xq_54_176 : xOKs xsg xm_54 xk_54_0 xk_54_176 := ⟨xok_putF (by decide +kernel : decode xm_54.2.1 378 = .ok (.putfield 144, 3)) (rfl : vwCl[12]? = some (RX12, TX12, 125)) inX12 tyX12_ok nmX12 (k := 55) (by decide) rfl rfl rfl (xT_c6 116 rfl rfl) rfl, xq_54_177⟩
theorem xq_54_175 : xOKs xsg xm_54 xk_54_0 xk_54_175 := ⟨xok_newa (by decide +kernel : decode xm_54.2.1 376 = .ok (.newarray .int, 2)) (xT_c1 58 rfl rfl) (Or.inl rfl) rfl, xq_54_176⟩
theorem xq_54_174 : xOKs xsg xm_54 xk_54_0 xk_54_174 := ⟨xok_p (xp_bipush (v := 120) (by decide +kernel : decode xm_54.2.1 374 = .ok (.bipush 120, 2)) (by decide)) rfl, xq_54_175⟩
theorem xq_54_173 : xOKs xsg xm_54 xk_54_0 xk_54_173 := ⟨xok_ld (xl_aload_n (by decide +kernel : decode xm_54.2.1 373 = .ok (.aload_n 0, 1))) rfl, xq_54_174⟩
theorem xq_54_172 : xOKs xsg xm_54 xk_54_0 xk_54_172 := ⟨xok_putF (by decide +kernel : decode xm_54.2.1 370 = .ok (.putfield 141, 3)) (rfl : vwCl[12]? = some (RX12, TX12, 125)) inX12 tyX12_ok nmX12 (k := 54) (by decide) rfl rfl rfl (xT_c6 115 rfl rfl) rfl, xq_54_173⟩
theorem xq_54_171 : xOKs xsg xm_54 xk_54_0 xk_54_171 := ⟨xok_newa (by decide +kernel : decode xm_54.2.1 368 = .ok (.newarray .int, 2)) (xT_c1 58 rfl rfl) (Or.inl rfl) rfl, xq_54_172⟩
theorem xq_54_170 : xOKs xsg xm_54 xk_54_0 xk_54_170 := ⟨xok_p (xp_bipush (v := 120) (by decide +kernel : decode xm_54.2.1 366 = .ok (.bipush 120, 2)) (by decide)) rfl, xq_54_171⟩
theorem xq_54_169 : xOKs xsg xm_54 xk_54_0 xk_54_169 := ⟨xok_ld (xl_aload_n (by decide +kernel : decode xm_54.2.1 365 = .ok (.aload_n 0, 1))) rfl, xq_54_170⟩
theorem xq_54_168 : xOKs xsg xm_54 xk_54_0 xk_54_168 := ⟨xok_putF (by decide +kernel : decode xm_54.2.1 362 = .ok (.putfield 138, 3)) (rfl : vwCl[12]? = some (RX12, TX12, 125)) inX12 tyX12_ok nmX12 (k := 53) (by decide) rfl rfl rfl (xT_c6 114 rfl rfl) rfl, xq_54_169⟩
theorem xq_54_167 : xOKs xsg xm_54 xk_54_0 xk_54_167 := ⟨xok_newa (by decide +kernel : decode xm_54.2.1 360 = .ok (.newarray .int, 2)) (xT_c1 58 rfl rfl) (Or.inl rfl) rfl, xq_54_168⟩
theorem xq_54_166 : xOKs xsg xm_54 xk_54_0 xk_54_166 := ⟨xok_p (xp_bipush (v := 120) (by decide +kernel : decode xm_54.2.1 358 = .ok (.bipush 120, 2)) (by decide)) rfl, xq_54_167⟩
theorem xq_54_165 : xOKs xsg xm_54 xk_54_0 xk_54_165 := ⟨xok_ld (xl_aload_n (by decide +kernel : decode xm_54.2.1 357 = .ok (.aload_n 0, 1))) rfl, xq_54_166⟩
theorem xq_54_164 : xOKs xsg xm_54 xk_54_0 xk_54_164 := ⟨xok_putF (by decide +kernel : decode xm_54.2.1 354 = .ok (.putfield 135, 3)) (rfl : vwCl[12]? = some (RX12, TX12, 125)) inX12 tyX12_ok nmX12 (k := 52) (by decide) rfl rfl rfl (xT_c6 113 rfl rfl) rfl, xq_54_165⟩
theorem xq_54_163 : xOKs xsg xm_54 xk_54_0 xk_54_163 := ⟨xok_newa (by decide +kernel : decode xm_54.2.1 352 = .ok (.newarray .int, 2)) (xT_c1 58 rfl rfl) (Or.inl rfl) rfl, xq_54_164⟩
theorem xq_54_162 : xOKs xsg xm_54 xk_54_0 xk_54_162 := ⟨xok_p (xp_bipush (v := 120) (by decide +kernel : decode xm_54.2.1 350 = .ok (.bipush 120, 2)) (by decide)) rfl, xq_54_163⟩
theorem xq_54_161 : xOKs xsg xm_54 xk_54_0 xk_54_161 := ⟨xok_ld (xl_aload_n (by decide +kernel : decode xm_54.2.1 349 = .ok (.aload_n 0, 1))) rfl, xq_54_162⟩
theorem xq_54_160 : xOKs xsg xm_54 xk_54_0 xk_54_160 := ⟨xok_putF (by decide +kernel : decode xm_54.2.1 346 = .ok (.putfield 132, 3)) (rfl : vwCl[12]? = some (RX12, TX12, 125)) inX12 tyX12_ok nmX12 (k := 51) (by decide) rfl rfl rfl (xT_c6 112 rfl rfl) rfl, xq_54_161⟩
theorem xq_54_159 : xOKs xsg xm_54 xk_54_0 xk_54_159 := ⟨xok_newa (by decide +kernel : decode xm_54.2.1 344 = .ok (.newarray .int, 2)) (xT_c1 58 rfl rfl) (Or.inl rfl) rfl, xq_54_160⟩
theorem xq_54_158 : xOKs xsg xm_54 xk_54_0 xk_54_158 := ⟨xok_p (xp_iconst (v := 2) (by decide +kernel : decode xm_54.2.1 343 = .ok (.iconst 2, 1)) (by decide)) rfl, xq_54_159⟩
theorem xq_54_157 : xOKs xsg xm_54 xk_54_0 xk_54_157 := ⟨xok_ld (xl_aload_n (by decide +kernel : decode xm_54.2.1 342 = .ok (.aload_n 0, 1))) rfl, xq_54_158⟩
theorem xq_54_156 : xOKs xsg xm_54 xk_54_0 xk_54_156 := ⟨xok_putF (by decide +kernel : decode xm_54.2.1 339 = .ok (.putfield 129, 3)) (rfl : vwCl[12]? = some (RX12, TX12, 125)) inX12 tyX12_ok nmX12 (k := 50) (by decide) rfl rfl rfl (xT_c6 111 rfl rfl) rfl, xq_54_157⟩
theorem xq_54_155 : xOKs xsg xm_54 xk_54_0 xk_54_155 := ⟨xok_newa (by decide +kernel : decode xm_54.2.1 337 = .ok (.newarray .int, 2)) (xT_c1 58 rfl rfl) (Or.inl rfl) rfl, xq_54_156⟩
theorem xq_54_154 : xOKs xsg xm_54 xk_54_0 xk_54_154 := ⟨xok_p (xp_sipush (v := 408) (by decide +kernel : decode xm_54.2.1 334 = .ok (.sipush 408, 3)) (by decide)) rfl, xq_54_155⟩
theorem xq_54_153 : xOKs xsg xm_54 xk_54_0 xk_54_153 := ⟨xok_ld (xl_aload_n (by decide +kernel : decode xm_54.2.1 333 = .ok (.aload_n 0, 1))) rfl, xq_54_154⟩
theorem xq_54_152 : xOKs xsg xm_54 xk_54_0 xk_54_152 := ⟨xok_putF (by decide +kernel : decode xm_54.2.1 330 = .ok (.putfield 126, 3)) (rfl : vwCl[12]? = some (RX12, TX12, 125)) inX12 tyX12_ok nmX12 (k := 49) (by decide) rfl rfl rfl (xT_c6 110 rfl rfl) rfl, xq_54_153⟩
theorem xq_54_151 : xOKs xsg xm_54 xk_54_0 xk_54_151 := ⟨xok_newa (by decide +kernel : decode xm_54.2.1 328 = .ok (.newarray .int, 2)) (xT_c1 58 rfl rfl) (Or.inl rfl) rfl, xq_54_152⟩
theorem xq_54_150 : xOKs xsg xm_54 xk_54_0 xk_54_150 := ⟨xok_p (xp_sipush (v := 2448) (by decide +kernel : decode xm_54.2.1 325 = .ok (.sipush 2448, 3)) (by decide)) rfl, xq_54_151⟩
theorem xq_54_149 : xOKs xsg xm_54 xk_54_0 xk_54_149 := ⟨xok_ld (xl_aload_n (by decide +kernel : decode xm_54.2.1 324 = .ok (.aload_n 0, 1))) rfl, xq_54_150⟩
theorem xq_54_148 : xOKs xsg xm_54 xk_54_0 xk_54_148 := ⟨xok_putF (by decide +kernel : decode xm_54.2.1 321 = .ok (.putfield 123, 3)) (rfl : vwCl[12]? = some (RX12, TX12, 125)) inX12 tyX12_ok nmX12 (k := 48) (by decide) rfl rfl rfl (xT_c6 109 rfl rfl) rfl, xq_54_149⟩
theorem xq_54_147 : xOKs xsg xm_54 xk_54_0 xk_54_147 := ⟨xok_newa (by decide +kernel : decode xm_54.2.1 319 = .ok (.newarray .int, 2)) (xT_c1 58 rfl rfl) (Or.inl rfl) rfl, xq_54_148⟩
theorem xq_54_146 : xOKs xsg xm_54 xk_54_0 xk_54_146 := ⟨xok_p (xp_sipush (v := 2448) (by decide +kernel : decode xm_54.2.1 316 = .ok (.sipush 2448, 3)) (by decide)) rfl, xq_54_147⟩
theorem xq_54_145 : xOKs xsg xm_54 xk_54_0 xk_54_145 := ⟨xok_ld (xl_aload_n (by decide +kernel : decode xm_54.2.1 315 = .ok (.aload_n 0, 1))) rfl, xq_54_146⟩
theorem xq_54_144 : xOKs xsg xm_54 xk_54_0 xk_54_144 := ⟨xok_putF (by decide +kernel : decode xm_54.2.1 312 = .ok (.putfield 120, 3)) (rfl : vwCl[12]? = some (RX12, TX12, 125)) inX12 tyX12_ok nmX12 (k := 47) (by decide) rfl rfl rfl (xT_c6 108 rfl rfl) rfl, xq_54_145⟩
theorem xq_54_143 : xOKs xsg xm_54 xk_54_0 xk_54_143 := ⟨xok_newa (by decide +kernel : decode xm_54.2.1 310 = .ok (.newarray .int, 2)) (xT_c1 58 rfl rfl) (Or.inl rfl) rfl, xq_54_144⟩
theorem xq_54_142 : xOKs xsg xm_54 xk_54_0 xk_54_142 := ⟨xok_p (xp_sipush (v := 408) (by decide +kernel : decode xm_54.2.1 307 = .ok (.sipush 408, 3)) (by decide)) rfl, xq_54_143⟩
theorem xq_54_141 : xOKs xsg xm_54 xk_54_0 xk_54_141 := ⟨xok_ld (xl_aload_n (by decide +kernel : decode xm_54.2.1 306 = .ok (.aload_n 0, 1))) rfl, xq_54_142⟩
theorem xq_54_140 : xOKs xsg xm_54 xk_54_0 xk_54_140 := ⟨xok_putF (by decide +kernel : decode xm_54.2.1 303 = .ok (.putfield 117, 3)) (rfl : vwCl[12]? = some (RX12, TX12, 125)) inX12 tyX12_ok nmX12 (k := 46) (by decide) rfl rfl rfl (xT_c6 107 rfl rfl) rfl, xq_54_141⟩
theorem xq_54_139 : xOKs xsg xm_54 xk_54_0 xk_54_139 := ⟨xok_newa (by decide +kernel : decode xm_54.2.1 301 = .ok (.newarray .int, 2)) (xT_c1 58 rfl rfl) (Or.inl rfl) rfl, xq_54_140⟩
theorem xq_54_138 : xOKs xsg xm_54 xk_54_0 xk_54_138 := ⟨xok_p (xp_sipush (v := 2448) (by decide +kernel : decode xm_54.2.1 298 = .ok (.sipush 2448, 3)) (by decide)) rfl, xq_54_139⟩
theorem xq_54_137 : xOKs xsg xm_54 xk_54_0 xk_54_137 := ⟨xok_ld (xl_aload_n (by decide +kernel : decode xm_54.2.1 297 = .ok (.aload_n 0, 1))) rfl, xq_54_138⟩
theorem xq_54_136 : xOKs xsg xm_54 xk_54_0 xk_54_136 := ⟨xok_putF (by decide +kernel : decode xm_54.2.1 294 = .ok (.putfield 114, 3)) (rfl : vwCl[12]? = some (RX12, TX12, 125)) inX12 tyX12_ok nmX12 (k := 45) (by decide) rfl rfl rfl (xT_c6 106 rfl rfl) rfl, xq_54_137⟩
theorem xq_54_135 : xOKs xsg xm_54 xk_54_0 xk_54_135 := ⟨xok_newa (by decide +kernel : decode xm_54.2.1 292 = .ok (.newarray .int, 2)) (xT_c1 58 rfl rfl) (Or.inl rfl) rfl, xq_54_136⟩
theorem xq_54_134 : xOKs xsg xm_54 xk_54_0 xk_54_134 := ⟨xok_p (xp_sipush (v := 2448) (by decide +kernel : decode xm_54.2.1 289 = .ok (.sipush 2448, 3)) (by decide)) rfl, xq_54_135⟩
theorem xq_54_133 : xOKs xsg xm_54 xk_54_0 xk_54_133 := ⟨xok_ld (xl_aload_n (by decide +kernel : decode xm_54.2.1 288 = .ok (.aload_n 0, 1))) rfl, xq_54_134⟩
theorem xq_54_132 : xOKs xsg xm_54 xk_54_0 xk_54_132 := ⟨xok_putF (by decide +kernel : decode xm_54.2.1 285 = .ok (.putfield 111, 3)) (rfl : vwCl[12]? = some (RX12, TX12, 125)) inX12 tyX12_ok nmX12 (k := 44) (by decide) rfl rfl rfl (xT_c6 105 rfl rfl) rfl, xq_54_133⟩
theorem xq_54_131 : xOKs xsg xm_54 xk_54_0 xk_54_131 := ⟨xok_newa (by decide +kernel : decode xm_54.2.1 283 = .ok (.newarray .int, 2)) (xT_c1 58 rfl rfl) (Or.inl rfl) rfl, xq_54_132⟩
theorem xq_54_130 : xOKs xsg xm_54 xk_54_0 xk_54_130 := ⟨xok_p (xp_sipush (v := 408) (by decide +kernel : decode xm_54.2.1 280 = .ok (.sipush 408, 3)) (by decide)) rfl, xq_54_131⟩
theorem xq_54_129 : xOKs xsg xm_54 xk_54_0 xk_54_129 := ⟨xok_ld (xl_aload_n (by decide +kernel : decode xm_54.2.1 279 = .ok (.aload_n 0, 1))) rfl, xq_54_130⟩
theorem xq_54_128 : xOKs xsg xm_54 xk_54_0 xk_54_128 := ⟨xok_putF (by decide +kernel : decode xm_54.2.1 276 = .ok (.putfield 108, 3)) (rfl : vwCl[12]? = some (RX12, TX12, 125)) inX12 tyX12_ok nmX12 (k := 43) (by decide) rfl rfl rfl (xT_c6 104 rfl rfl) rfl, xq_54_129⟩
theorem xq_54_127 : xOKs xsg xm_54 xk_54_0 xk_54_127 := ⟨xok_newa (by decide +kernel : decode xm_54.2.1 274 = .ok (.newarray .int, 2)) (xT_c1 58 rfl rfl) (Or.inl rfl) rfl, xq_54_128⟩
theorem xq_54_126 : xOKs xsg xm_54 xk_54_0 xk_54_126 := ⟨xok_p (xp_sipush (v := 408) (by decide +kernel : decode xm_54.2.1 271 = .ok (.sipush 408, 3)) (by decide)) rfl, xq_54_127⟩
theorem xq_54_125 : xOKs xsg xm_54 xk_54_0 xk_54_125 := ⟨xok_ld (xl_aload_n (by decide +kernel : decode xm_54.2.1 270 = .ok (.aload_n 0, 1))) rfl, xq_54_126⟩
theorem xq_54_124 : xOKs xsg xm_54 xk_54_0 xk_54_124 := ⟨xok_putF (by decide +kernel : decode xm_54.2.1 267 = .ok (.putfield 105, 3)) (rfl : vwCl[12]? = some (RX12, TX12, 125)) inX12 tyX12_ok nmX12 (k := 41) (by decide) rfl rfl rfl (xT_c6 102 rfl rfl) rfl, xq_54_125⟩
theorem xq_54_123 : xOKs xsg xm_54 xk_54_0 xk_54_123 := ⟨xok_newa (by decide +kernel : decode xm_54.2.1 265 = .ok (.newarray .int, 2)) (xT_c1 58 rfl rfl) (Or.inl rfl) rfl, xq_54_124⟩
theorem xq_54_122 : xOKs xsg xm_54 xk_54_0 xk_54_122 := ⟨xok_p (xp_bipush (v := 48) (by decide +kernel : decode xm_54.2.1 263 = .ok (.bipush 48, 2)) (by decide)) rfl, xq_54_123⟩
theorem xq_54_121 : xOKs xsg xm_54 xk_54_0 xk_54_121 := ⟨xok_ld (xl_aload_n (by decide +kernel : decode xm_54.2.1 262 = .ok (.aload_n 0, 1))) rfl, xq_54_122⟩
theorem xq_54_120 : xOKs xsg xm_54 xk_54_0 xk_54_120 := ⟨xok_putF (by decide +kernel : decode xm_54.2.1 259 = .ok (.putfield 102, 3)) (rfl : vwCl[12]? = some (RX12, TX12, 125)) inX12 tyX12_ok nmX12 (k := 40) (by decide) rfl rfl rfl (xT_c6 101 rfl rfl) rfl, xq_54_121⟩
theorem xq_54_119 : xOKs xsg xm_54 xk_54_0 xk_54_119 := ⟨xok_newa (by decide +kernel : decode xm_54.2.1 257 = .ok (.newarray .int, 2)) (xT_c1 58 rfl rfl) (Or.inl rfl) rfl, xq_54_120⟩
theorem xq_54_118 : xOKs xsg xm_54 xk_54_0 xk_54_118 := ⟨xok_p (xp_bipush (v := 48) (by decide +kernel : decode xm_54.2.1 255 = .ok (.bipush 48, 2)) (by decide)) rfl, xq_54_119⟩
theorem xq_54_117 : xOKs xsg xm_54 xk_54_0 xk_54_117 := ⟨xok_ld (xl_aload_n (by decide +kernel : decode xm_54.2.1 254 = .ok (.aload_n 0, 1))) rfl, xq_54_118⟩
theorem xq_54_116 : xOKs xsg xm_54 xk_54_0 xk_54_116 := ⟨xok_putF (by decide +kernel : decode xm_54.2.1 251 = .ok (.putfield 99, 3)) (rfl : vwCl[12]? = some (RX12, TX12, 125)) inX12 tyX12_ok nmX12 (k := 39) (by decide) rfl rfl rfl (xT_c6 100 rfl rfl) rfl, xq_54_117⟩
theorem xq_54_115 : xOKs xsg xm_54 xk_54_0 xk_54_115 := ⟨xok_newa (by decide +kernel : decode xm_54.2.1 249 = .ok (.newarray .int, 2)) (xT_c1 58 rfl rfl) (Or.inl rfl) rfl, xq_54_116⟩
theorem xq_54_114 : xOKs xsg xm_54 xk_54_0 xk_54_114 := ⟨xok_p (xp_sipush (v := 288) (by decide +kernel : decode xm_54.2.1 246 = .ok (.sipush 288, 3)) (by decide)) rfl, xq_54_115⟩
theorem xq_54_113 : xOKs xsg xm_54 xk_54_0 xk_54_113 := ⟨xok_ld (xl_aload_n (by decide +kernel : decode xm_54.2.1 245 = .ok (.aload_n 0, 1))) rfl, xq_54_114⟩
theorem xq_54_112 : xOKs xsg xm_54 xk_54_0 xk_54_112 := ⟨xok_putF (by decide +kernel : decode xm_54.2.1 242 = .ok (.putfield 96, 3)) (rfl : vwCl[12]? = some (RX12, TX12, 125)) inX12 tyX12_ok nmX12 (k := 38) (by decide) rfl rfl rfl (xT_c6 99 rfl rfl) rfl, xq_54_113⟩
theorem xq_54_111 : xOKs xsg xm_54 xk_54_0 xk_54_111 := ⟨xok_newa (by decide +kernel : decode xm_54.2.1 240 = .ok (.newarray .int, 2)) (xT_c1 58 rfl rfl) (Or.inl rfl) rfl, xq_54_112⟩
theorem xq_54_110 : xOKs xsg xm_54 xk_54_0 xk_54_110 := ⟨xok_p (xp_sipush (v := 288) (by decide +kernel : decode xm_54.2.1 237 = .ok (.sipush 288, 3)) (by decide)) rfl, xq_54_111⟩
theorem xq_54_109 : xOKs xsg xm_54 xk_54_0 xk_54_109 := ⟨xok_ld (xl_aload_n (by decide +kernel : decode xm_54.2.1 236 = .ok (.aload_n 0, 1))) rfl, xq_54_110⟩
theorem xq_54_108 : xOKs xsg xm_54 xk_54_0 xk_54_108 := ⟨xok_putF (by decide +kernel : decode xm_54.2.1 233 = .ok (.putfield 93, 3)) (rfl : vwCl[12]? = some (RX12, TX12, 125)) inX12 tyX12_ok nmX12 (k := 37) (by decide) rfl rfl rfl (xT_c6 98 rfl rfl) rfl, xq_54_109⟩
theorem xq_54_107 : xOKs xsg xm_54 xk_54_0 xk_54_107 := ⟨xok_newa (by decide +kernel : decode xm_54.2.1 231 = .ok (.newarray .int, 2)) (xT_c1 58 rfl rfl) (Or.inl rfl) rfl, xq_54_108⟩
theorem xq_54_106 : xOKs xsg xm_54 xk_54_0 xk_54_106 := ⟨xok_p (xp_bipush (v := 48) (by decide +kernel : decode xm_54.2.1 229 = .ok (.bipush 48, 2)) (by decide)) rfl, xq_54_107⟩
theorem xq_54_105 : xOKs xsg xm_54 xk_54_0 xk_54_105 := ⟨xok_ld (xl_aload_n (by decide +kernel : decode xm_54.2.1 228 = .ok (.aload_n 0, 1))) rfl, xq_54_106⟩
theorem xq_54_104 : xOKs xsg xm_54 xk_54_0 xk_54_104 := ⟨xok_putF (by decide +kernel : decode xm_54.2.1 225 = .ok (.putfield 90, 3)) (rfl : vwCl[12]? = some (RX12, TX12, 125)) inX12 tyX12_ok nmX12 (k := 36) (by decide) rfl rfl rfl (xT_c6 97 rfl rfl) rfl, xq_54_105⟩
theorem xq_54_103 : xOKs xsg xm_54 xk_54_0 xk_54_103 := ⟨xok_newa (by decide +kernel : decode xm_54.2.1 223 = .ok (.newarray .int, 2)) (xT_c1 58 rfl rfl) (Or.inl rfl) rfl, xq_54_104⟩
theorem xq_54_102 : xOKs xsg xm_54 xk_54_0 xk_54_102 := ⟨xok_p (xp_sipush (v := 288) (by decide +kernel : decode xm_54.2.1 220 = .ok (.sipush 288, 3)) (by decide)) rfl, xq_54_103⟩
theorem xq_54_101 : xOKs xsg xm_54 xk_54_0 xk_54_101 := ⟨xok_ld (xl_aload_n (by decide +kernel : decode xm_54.2.1 219 = .ok (.aload_n 0, 1))) rfl, xq_54_102⟩
theorem xq_54_100 : xOKs xsg xm_54 xk_54_0 xk_54_100 := ⟨xok_putF (by decide +kernel : decode xm_54.2.1 216 = .ok (.putfield 87, 3)) (rfl : vwCl[12]? = some (RX12, TX12, 125)) inX12 tyX12_ok nmX12 (k := 35) (by decide) rfl rfl rfl (xT_c6 96 rfl rfl) rfl, xq_54_101⟩
theorem xq_54_99 : xOKs xsg xm_54 xk_54_0 xk_54_99 := ⟨xok_newa (by decide +kernel : decode xm_54.2.1 214 = .ok (.newarray .int, 2)) (xT_c1 58 rfl rfl) (Or.inl rfl) rfl, xq_54_100⟩
theorem xq_54_98 : xOKs xsg xm_54 xk_54_0 xk_54_98 := ⟨xok_p (xp_sipush (v := 288) (by decide +kernel : decode xm_54.2.1 211 = .ok (.sipush 288, 3)) (by decide)) rfl, xq_54_99⟩
theorem xq_54_97 : xOKs xsg xm_54 xk_54_0 xk_54_97 := ⟨xok_ld (xl_aload_n (by decide +kernel : decode xm_54.2.1 210 = .ok (.aload_n 0, 1))) rfl, xq_54_98⟩
theorem xq_54_96 : xOKs xsg xm_54 xk_54_0 xk_54_96 := ⟨xok_putF (by decide +kernel : decode xm_54.2.1 207 = .ok (.putfield 84, 3)) (rfl : vwCl[12]? = some (RX12, TX12, 125)) inX12 tyX12_ok nmX12 (k := 34) (by decide) rfl rfl rfl (xT_c6 95 rfl rfl) rfl, xq_54_97⟩
theorem xq_54_95 : xOKs xsg xm_54 xk_54_0 xk_54_95 := ⟨xok_newa (by decide +kernel : decode xm_54.2.1 205 = .ok (.newarray .int, 2)) (xT_c1 58 rfl rfl) (Or.inl rfl) rfl, xq_54_96⟩
theorem xq_54_94 : xOKs xsg xm_54 xk_54_0 xk_54_94 := ⟨xok_p (xp_bipush (v := 48) (by decide +kernel : decode xm_54.2.1 203 = .ok (.bipush 48, 2)) (by decide)) rfl, xq_54_95⟩
theorem xq_54_93 : xOKs xsg xm_54 xk_54_0 xk_54_93 := ⟨xok_ld (xl_aload_n (by decide +kernel : decode xm_54.2.1 202 = .ok (.aload_n 0, 1))) rfl, xq_54_94⟩
theorem xq_54_92 : xOKs xsg xm_54 xk_54_0 xk_54_92 := ⟨xok_putF (by decide +kernel : decode xm_54.2.1 199 = .ok (.putfield 80, 3)) (rfl : vwCl[12]? = some (RX12, TX12, 125)) inX12 tyX12_ok nmX12 (k := 33) (by decide) rfl rfl rfl (xT_c6 94 rfl rfl) rfl, xq_54_93⟩
theorem xq_54_91 : xOKs xsg xm_54 xk_54_0 xk_54_91 := ⟨xok_newa (by decide +kernel : decode xm_54.2.1 197 = .ok (.newarray .boolean, 2)) (xT_c7 196 rfl rfl) (Or.inr (Or.inr rfl)) rfl, xq_54_92⟩
theorem xq_54_90 : xOKs xsg xm_54 xk_54_0 xk_54_90 := ⟨xok_p (xp_bipush (v := 48) (by decide +kernel : decode xm_54.2.1 195 = .ok (.bipush 48, 2)) (by decide)) rfl, xq_54_91⟩
theorem xq_54_89 : xOKs xsg xm_54 xk_54_0 xk_54_89 := ⟨xok_ld (xl_aload_n (by decide +kernel : decode xm_54.2.1 194 = .ok (.aload_n 0, 1))) rfl, xq_54_90⟩
theorem xq_54_88 : xOKs xsg xm_54 xk_54_0 xk_54_88 := ⟨xok_putF (by decide +kernel : decode xm_54.2.1 191 = .ok (.putfield 77, 3)) (rfl : vwCl[12]? = some (RX12, TX12, 125)) inX12 tyX12_ok nmX12 (k := 32) (by decide) rfl rfl rfl (xT_c6 93 rfl rfl) rfl, xq_54_89⟩
theorem xq_54_87 : xOKs xsg xm_54 xk_54_0 xk_54_87 := ⟨xok_newa (by decide +kernel : decode xm_54.2.1 189 = .ok (.newarray .int, 2)) (xT_c1 58 rfl rfl) (Or.inl rfl) rfl, xq_54_88⟩
theorem xq_54_86 : xOKs xsg xm_54 xk_54_0 xk_54_86 := ⟨xok_p (xp_bipush (v := 48) (by decide +kernel : decode xm_54.2.1 187 = .ok (.bipush 48, 2)) (by decide)) rfl, xq_54_87⟩
theorem xq_54_85 : xOKs xsg xm_54 xk_54_0 xk_54_85 := ⟨xok_ld (xl_aload_n (by decide +kernel : decode xm_54.2.1 186 = .ok (.aload_n 0, 1))) rfl, xq_54_86⟩
theorem xq_54_84 : xOKs xsg xm_54 xk_54_0 xk_54_84 := ⟨xok_putF (by decide +kernel : decode xm_54.2.1 183 = .ok (.putfield 74, 3)) (rfl : vwCl[12]? = some (RX12, TX12, 125)) inX12 tyX12_ok nmX12 (k := 31) (by decide) rfl rfl rfl (xT_c6 92 rfl rfl) rfl, xq_54_85⟩
theorem xq_54_83 : xOKs xsg xm_54 xk_54_0 xk_54_83 := ⟨xok_newa (by decide +kernel : decode xm_54.2.1 181 = .ok (.newarray .int, 2)) (xT_c1 58 rfl rfl) (Or.inl rfl) rfl, xq_54_84⟩
theorem xq_54_82 : xOKs xsg xm_54 xk_54_0 xk_54_82 := ⟨xok_p (xp_iconst (v := 2) (by decide +kernel : decode xm_54.2.1 180 = .ok (.iconst 2, 1)) (by decide)) rfl, xq_54_83⟩
theorem xq_54_81 : xOKs xsg xm_54 xk_54_0 xk_54_81 := ⟨xok_ld (xl_aload_n (by decide +kernel : decode xm_54.2.1 179 = .ok (.aload_n 0, 1))) rfl, xq_54_82⟩
theorem xq_54_80 : xOKs xsg xm_54 xk_54_0 xk_54_80 := ⟨xok_putF (by decide +kernel : decode xm_54.2.1 176 = .ok (.putfield 71, 3)) (rfl : vwCl[12]? = some (RX12, TX12, 125)) inX12 tyX12_ok nmX12 (k := 25) (by decide) rfl rfl rfl (xT_c6 86 rfl rfl) rfl, xq_54_81⟩
theorem xq_54_79 : xOKs xsg xm_54 xk_54_0 xk_54_79 := ⟨xok_newa (by decide +kernel : decode xm_54.2.1 174 = .ok (.newarray .int, 2)) (xT_c1 58 rfl rfl) (Or.inl rfl) rfl, xq_54_80⟩
theorem xq_54_78 : xOKs xsg xm_54 xk_54_0 xk_54_78 := ⟨xok_p (xp_sipush (v := 12006) (by decide +kernel : decode xm_54.2.1 171 = .ok (.sipush 12006, 3)) (by decide)) rfl, xq_54_79⟩
theorem xq_54_77 : xOKs xsg xm_54 xk_54_0 xk_54_77 := ⟨xok_ld (xl_aload_n (by decide +kernel : decode xm_54.2.1 170 = .ok (.aload_n 0, 1))) rfl, xq_54_78⟩
theorem xq_54_76 : xOKs xsg xm_54 xk_54_0 xk_54_76 := ⟨xok_putF (by decide +kernel : decode xm_54.2.1 167 = .ok (.putfield 68, 3)) (rfl : vwCl[12]? = some (RX12, TX12, 125)) inX12 tyX12_ok nmX12 (k := 24) (by decide) rfl rfl rfl (xT_c6 85 rfl rfl) rfl, xq_54_77⟩
theorem xq_54_75 : xOKs xsg xm_54 xk_54_0 xk_54_75 := ⟨xok_newa (by decide +kernel : decode xm_54.2.1 165 = .ok (.newarray .int, 2)) (xT_c1 58 rfl rfl) (Or.inl rfl) rfl, xq_54_76⟩
theorem xq_54_74 : xOKs xsg xm_54 xk_54_0 xk_54_74 := ⟨xok_p (xp_sipush (v := 12006) (by decide +kernel : decode xm_54.2.1 162 = .ok (.sipush 12006, 3)) (by decide)) rfl, xq_54_75⟩
theorem xq_54_73 : xOKs xsg xm_54 xk_54_0 xk_54_73 := ⟨xok_ld (xl_aload_n (by decide +kernel : decode xm_54.2.1 161 = .ok (.aload_n 0, 1))) rfl, xq_54_74⟩
theorem xq_54_72 : xOKs xsg xm_54 xk_54_0 xk_54_72 := ⟨xok_putF (by decide +kernel : decode xm_54.2.1 158 = .ok (.putfield 65, 3)) (rfl : vwCl[12]? = some (RX12, TX12, 125)) inX12 tyX12_ok nmX12 (k := 23) (by decide) rfl rfl rfl (xT_c6 84 rfl rfl) rfl, xq_54_73⟩
theorem xq_54_71 : xOKs xsg xm_54 xk_54_0 xk_54_71 := ⟨xok_newa (by decide +kernel : decode xm_54.2.1 156 = .ok (.newarray .int, 2)) (xT_c1 58 rfl rfl) (Or.inl rfl) rfl, xq_54_72⟩
theorem xq_54_70 : xOKs xsg xm_54 xk_54_0 xk_54_70 := ⟨xok_p (xp_sipush (v := 12006) (by decide +kernel : decode xm_54.2.1 153 = .ok (.sipush 12006, 3)) (by decide)) rfl, xq_54_71⟩
theorem xq_54_69 : xOKs xsg xm_54 xk_54_0 xk_54_69 := ⟨xok_ld (xl_aload_n (by decide +kernel : decode xm_54.2.1 152 = .ok (.aload_n 0, 1))) rfl, xq_54_70⟩
theorem xq_54_68 : xOKs xsg xm_54 xk_54_0 xk_54_68 := ⟨xok_putF (by decide +kernel : decode xm_54.2.1 149 = .ok (.putfield 62, 3)) (rfl : vwCl[12]? = some (RX12, TX12, 125)) inX12 tyX12_ok nmX12 (k := 22) (by decide) rfl rfl rfl (xT_c6 83 rfl rfl) rfl, xq_54_69⟩
theorem xq_54_67 : xOKs xsg xm_54 xk_54_0 xk_54_67 := ⟨xok_newa (by decide +kernel : decode xm_54.2.1 147 = .ok (.newarray .int, 2)) (xT_c1 58 rfl rfl) (Or.inl rfl) rfl, xq_54_68⟩
theorem xq_54_66 : xOKs xsg xm_54 xk_54_0 xk_54_66 := ⟨xok_p (xp_sipush (v := 12006) (by decide +kernel : decode xm_54.2.1 144 = .ok (.sipush 12006, 3)) (by decide)) rfl, xq_54_67⟩
theorem xq_54_65 : xOKs xsg xm_54 xk_54_0 xk_54_65 := ⟨xok_ld (xl_aload_n (by decide +kernel : decode xm_54.2.1 143 = .ok (.aload_n 0, 1))) rfl, xq_54_66⟩
theorem xq_54_64 : xOKs xsg xm_54 xk_54_0 xk_54_64 := ⟨xok_putF (by decide +kernel : decode xm_54.2.1 140 = .ok (.putfield 59, 3)) (rfl : vwCl[12]? = some (RX12, TX12, 125)) inX12 tyX12_ok nmX12 (k := 21) (by decide) rfl rfl rfl (xT_c6 82 rfl rfl) rfl, xq_54_65⟩
theorem xq_54_63 : xOKs xsg xm_54 xk_54_0 xk_54_63 := ⟨xok_newa (by decide +kernel : decode xm_54.2.1 138 = .ok (.newarray .int, 2)) (xT_c1 58 rfl rfl) (Or.inl rfl) rfl, xq_54_64⟩
theorem xq_54_62 : xOKs xsg xm_54 xk_54_0 xk_54_62 := ⟨xok_p (xp_sipush (v := 12006) (by decide +kernel : decode xm_54.2.1 135 = .ok (.sipush 12006, 3)) (by decide)) rfl, xq_54_63⟩
theorem xq_54_61 : xOKs xsg xm_54 xk_54_0 xk_54_61 := ⟨xok_ld (xl_aload_n (by decide +kernel : decode xm_54.2.1 134 = .ok (.aload_n 0, 1))) rfl, xq_54_62⟩
theorem xq_54_60 : xOKs xsg xm_54 xk_54_0 xk_54_60 := ⟨xok_putF (by decide +kernel : decode xm_54.2.1 131 = .ok (.putfield 56, 3)) (rfl : vwCl[12]? = some (RX12, TX12, 125)) inX12 tyX12_ok nmX12 (k := 20) (by decide) rfl rfl rfl (xT_c6 81 rfl rfl) rfl, xq_54_61⟩
theorem xq_54_59 : xOKs xsg xm_54 xk_54_0 xk_54_59 := ⟨xok_newa (by decide +kernel : decode xm_54.2.1 129 = .ok (.newarray .int, 2)) (xT_c1 58 rfl rfl) (Or.inl rfl) rfl, xq_54_60⟩
theorem xq_54_58 : xOKs xsg xm_54 xk_54_0 xk_54_58 := ⟨xok_p (xp_sipush (v := 12006) (by decide +kernel : decode xm_54.2.1 126 = .ok (.sipush 12006, 3)) (by decide)) rfl, xq_54_59⟩
theorem xq_54_57 : xOKs xsg xm_54 xk_54_0 xk_54_57 := ⟨xok_ld (xl_aload_n (by decide +kernel : decode xm_54.2.1 125 = .ok (.aload_n 0, 1))) rfl, xq_54_58⟩
theorem xq_54_56 : xOKs xsg xm_54 xk_54_0 xk_54_56 := ⟨xok_putF (by decide +kernel : decode xm_54.2.1 122 = .ok (.putfield 53, 3)) (rfl : vwCl[12]? = some (RX12, TX12, 125)) inX12 tyX12_ok nmX12 (k := 19) (by decide) rfl rfl rfl (xT_c6 80 rfl rfl) rfl, xq_54_57⟩
theorem xq_54_55 : xOKs xsg xm_54 xk_54_0 xk_54_55 := ⟨xok_newa (by decide +kernel : decode xm_54.2.1 120 = .ok (.newarray .int, 2)) (xT_c1 58 rfl rfl) (Or.inl rfl) rfl, xq_54_56⟩
theorem xq_54_54 : xOKs xsg xm_54 xk_54_0 xk_54_54 := ⟨xok_p (xp_sipush (v := 12006) (by decide +kernel : decode xm_54.2.1 117 = .ok (.sipush 12006, 3)) (by decide)) rfl, xq_54_55⟩
theorem xq_54_53 : xOKs xsg xm_54 xk_54_0 xk_54_53 := ⟨xok_ld (xl_aload_n (by decide +kernel : decode xm_54.2.1 116 = .ok (.aload_n 0, 1))) rfl, xq_54_54⟩
theorem xq_54_52 : xOKs xsg xm_54 xk_54_0 xk_54_52 := ⟨xok_putF (by decide +kernel : decode xm_54.2.1 113 = .ok (.putfield 50, 3)) (rfl : vwCl[12]? = some (RX12, TX12, 125)) inX12 tyX12_ok nmX12 (k := 18) (by decide) rfl rfl rfl (xT_c6 79 rfl rfl) rfl, xq_54_53⟩
theorem xq_54_51 : xOKs xsg xm_54 xk_54_0 xk_54_51 := ⟨xok_newa (by decide +kernel : decode xm_54.2.1 111 = .ok (.newarray .int, 2)) (xT_c1 58 rfl rfl) (Or.inl rfl) rfl, xq_54_52⟩
theorem xq_54_50 : xOKs xsg xm_54 xk_54_0 xk_54_50 := ⟨xok_p (xp_sipush (v := 12006) (by decide +kernel : decode xm_54.2.1 108 = .ok (.sipush 12006, 3)) (by decide)) rfl, xq_54_51⟩
theorem xq_54_49 : xOKs xsg xm_54 xk_54_0 xk_54_49 := ⟨xok_ld (xl_aload_n (by decide +kernel : decode xm_54.2.1 107 = .ok (.aload_n 0, 1))) rfl, xq_54_50⟩
theorem xq_54_48 : xOKs xsg xm_54 xk_54_0 xk_54_48 := ⟨xok_putF (by decide +kernel : decode xm_54.2.1 104 = .ok (.putfield 47, 3)) (rfl : vwCl[12]? = some (RX12, TX12, 125)) inX12 tyX12_ok nmX12 (k := 17) (by decide) rfl rfl rfl (xT_c6 78 rfl rfl) rfl, xq_54_49⟩
theorem xq_54_47 : xOKs xsg xm_54 xk_54_0 xk_54_47 := ⟨xok_newa (by decide +kernel : decode xm_54.2.1 102 = .ok (.newarray .int, 2)) (xT_c1 58 rfl rfl) (Or.inl rfl) rfl, xq_54_48⟩
theorem xq_54_46 : xOKs xsg xm_54 xk_54_0 xk_54_46 := ⟨xok_p (xp_sipush (v := 12006) (by decide +kernel : decode xm_54.2.1 99 = .ok (.sipush 12006, 3)) (by decide)) rfl, xq_54_47⟩
theorem xq_54_45 : xOKs xsg xm_54 xk_54_0 xk_54_45 := ⟨xok_ld (xl_aload_n (by decide +kernel : decode xm_54.2.1 98 = .ok (.aload_n 0, 1))) rfl, xq_54_46⟩
theorem xq_54_44 : xOKs xsg xm_54 xk_54_0 xk_54_44 := ⟨xok_putF (by decide +kernel : decode xm_54.2.1 95 = .ok (.putfield 44, 3)) (rfl : vwCl[12]? = some (RX12, TX12, 125)) inX12 tyX12_ok nmX12 (k := 16) (by decide) rfl rfl rfl (xT_c6 77 rfl rfl) rfl, xq_54_45⟩
theorem xq_54_43 : xOKs xsg xm_54 xk_54_0 xk_54_43 := ⟨xok_newa (by decide +kernel : decode xm_54.2.1 93 = .ok (.newarray .int, 2)) (xT_c1 58 rfl rfl) (Or.inl rfl) rfl, xq_54_44⟩
theorem xq_54_42 : xOKs xsg xm_54 xk_54_0 xk_54_42 := ⟨xok_p (xp_sipush (v := 12006) (by decide +kernel : decode xm_54.2.1 90 = .ok (.sipush 12006, 3)) (by decide)) rfl, xq_54_43⟩
theorem xq_54_41 : xOKs xsg xm_54 xk_54_0 xk_54_41 := ⟨xok_ld (xl_aload_n (by decide +kernel : decode xm_54.2.1 89 = .ok (.aload_n 0, 1))) rfl, xq_54_42⟩
theorem xq_54_40 : xOKs xsg xm_54 xk_54_0 xk_54_40 := ⟨xok_putF (by decide +kernel : decode xm_54.2.1 86 = .ok (.putfield 41, 3)) (rfl : vwCl[12]? = some (RX12, TX12, 125)) inX12 tyX12_ok nmX12 (k := 15) (by decide) rfl rfl rfl (xT_c6 76 rfl rfl) rfl, xq_54_41⟩
theorem xq_54_39 : xOKs xsg xm_54 xk_54_0 xk_54_39 := ⟨xok_newa (by decide +kernel : decode xm_54.2.1 84 = .ok (.newarray .int, 2)) (xT_c1 58 rfl rfl) (Or.inl rfl) rfl, xq_54_40⟩
theorem xq_54_38 : xOKs xsg xm_54 xk_54_0 xk_54_38 := ⟨xok_p (xp_sipush (v := 12006) (by decide +kernel : decode xm_54.2.1 81 = .ok (.sipush 12006, 3)) (by decide)) rfl, xq_54_39⟩
theorem xq_54_37 : xOKs xsg xm_54 xk_54_0 xk_54_37 := ⟨xok_ld (xl_aload_n (by decide +kernel : decode xm_54.2.1 80 = .ok (.aload_n 0, 1))) rfl, xq_54_38⟩
theorem xq_54_36 : xOKs xsg xm_54 xk_54_0 xk_54_36 := ⟨xok_putF (by decide +kernel : decode xm_54.2.1 77 = .ok (.putfield 38, 3)) (rfl : vwCl[12]? = some (RX12, TX12, 125)) inX12 tyX12_ok nmX12 (k := 14) (by decide) rfl rfl rfl (xT_c6 75 rfl rfl) rfl, xq_54_37⟩
theorem xq_54_35 : xOKs xsg xm_54 xk_54_0 xk_54_35 := ⟨xok_newa (by decide +kernel : decode xm_54.2.1 75 = .ok (.newarray .int, 2)) (xT_c1 58 rfl rfl) (Or.inl rfl) rfl, xq_54_36⟩
theorem xq_54_34 : xOKs xsg xm_54 xk_54_0 xk_54_34 := ⟨xok_p (xp_sipush (v := 12006) (by decide +kernel : decode xm_54.2.1 72 = .ok (.sipush 12006, 3)) (by decide)) rfl, xq_54_35⟩
theorem xq_54_33 : xOKs xsg xm_54 xk_54_0 xk_54_33 := ⟨xok_ld (xl_aload_n (by decide +kernel : decode xm_54.2.1 71 = .ok (.aload_n 0, 1))) rfl, xq_54_34⟩
theorem xq_54_32 : xOKs xsg xm_54 xk_54_0 xk_54_32 := ⟨xok_putF (by decide +kernel : decode xm_54.2.1 68 = .ok (.putfield 34, 3)) (rfl : vwCl[12]? = some (RX12, TX12, 125)) inX12 tyX12_ok nmX12 (k := 13) (by decide) rfl rfl rfl (xT_c6 74 rfl rfl) rfl, xq_54_33⟩
theorem xq_54_31 : xOKs xsg xm_54 xk_54_0 xk_54_31 := ⟨xok_p (xp_ldcS (by decide +kernel : decode xm_54.2.1 66 = .ok (.ldc 32, 2)) rfl) rfl, xq_54_32⟩
theorem xq_54_30 : xOKs xsg xm_54 xk_54_0 xk_54_30 := ⟨xok_ld (xl_aload_n (by decide +kernel : decode xm_54.2.1 65 = .ok (.aload_n 0, 1))) rfl, xq_54_31⟩
theorem xq_54_29 : xOKs xsg xm_54 xk_54_0 xk_54_29 := ⟨xok_putF (by decide +kernel : decode xm_54.2.1 62 = .ok (.putfield 29, 3)) (rfl : vwCl[12]? = some (RX12, TX12, 125)) inX12 tyX12_ok nmX12 (k := 12) (by decide) rfl rfl rfl (xT_c6 73 rfl rfl) rfl, xq_54_30⟩
theorem xq_54_28 : xOKs xsg xm_54 xk_54_0 xk_54_28 := ⟨xok_newa (by decide +kernel : decode xm_54.2.1 60 = .ok (.newarray .int, 2)) (xT_c1 58 rfl rfl) (Or.inl rfl) rfl, xq_54_29⟩
theorem xq_54_27 : xOKs xsg xm_54 xk_54_0 xk_54_27 := ⟨xok_p (xp_iconst (v := 3) (by decide +kernel : decode xm_54.2.1 59 = .ok (.iconst 3, 1)) (by decide)) rfl, xq_54_28⟩
theorem xq_54_26 : xOKs xsg xm_54 xk_54_0 xk_54_26 := ⟨xok_ld (xl_aload_n (by decide +kernel : decode xm_54.2.1 58 = .ok (.aload_n 0, 1))) rfl, xq_54_27⟩
theorem xq_54_25 : xOKs xsg xm_54 xk_54_0 xk_54_25 := ⟨xok_putF (by decide +kernel : decode xm_54.2.1 55 = .ok (.putfield 26, 3)) (rfl : vwCl[12]? = some (RX12, TX12, 125)) inX12 tyX12_ok nmX12 (k := 11) (by decide) rfl rfl rfl (xT_c6 72 rfl rfl) rfl, xq_54_26⟩
theorem xq_54_24 : xOKs xsg xm_54 xk_54_0 xk_54_24 := ⟨xok_newa (by decide +kernel : decode xm_54.2.1 53 = .ok (.newarray .long, 2)) (xT_c7 195 rfl rfl) (Or.inr (Or.inl rfl)) rfl, xq_54_25⟩
theorem xq_54_23 : xOKs xsg xm_54 xk_54_0 xk_54_23 := ⟨xok_p (xp_sipush (v := 6300) (by decide +kernel : decode xm_54.2.1 50 = .ok (.sipush 6300, 3)) (by decide)) rfl, xq_54_24⟩
theorem xq_54_22 : xOKs xsg xm_54 xk_54_0 xk_54_22 := ⟨xok_ld (xl_aload_n (by decide +kernel : decode xm_54.2.1 49 = .ok (.aload_n 0, 1))) rfl, xq_54_23⟩
theorem xq_54_21 : xOKs xsg xm_54 xk_54_0 xk_54_21 := ⟨xok_putF (by decide +kernel : decode xm_54.2.1 46 = .ok (.putfield 22, 3)) (rfl : vwCl[12]? = some (RX12, TX12, 125)) inX12 tyX12_ok nmX12 (k := 10) (by decide) rfl rfl rfl (xT_c6 71 rfl rfl) rfl, xq_54_22⟩
theorem xq_54_20 : xOKs xsg xm_54 xk_54_0 xk_54_20 := ⟨xok_newa (by decide +kernel : decode xm_54.2.1 44 = .ok (.newarray .long, 2)) (xT_c7 195 rfl rfl) (Or.inr (Or.inl rfl)) rfl, xq_54_21⟩
theorem xq_54_19 : xOKs xsg xm_54 xk_54_0 xk_54_19 := ⟨xok_p (xp_sipush (v := 6300) (by decide +kernel : decode xm_54.2.1 41 = .ok (.sipush 6300, 3)) (by decide)) rfl, xq_54_20⟩
theorem xq_54_18 : xOKs xsg xm_54 xk_54_0 xk_54_18 := ⟨xok_ld (xl_aload_n (by decide +kernel : decode xm_54.2.1 40 = .ok (.aload_n 0, 1))) rfl, xq_54_19⟩
theorem xq_54_17 : xOKs xsg xm_54 xk_54_0 xk_54_17 := ⟨xok_putF (by decide +kernel : decode xm_54.2.1 37 = .ok (.putfield 19, 3)) (rfl : vwCl[12]? = some (RX12, TX12, 125)) inX12 tyX12_ok nmX12 (k := 6) (by decide) rfl rfl rfl (xT_c6 67 rfl rfl) rfl, xq_54_18⟩
theorem xq_54_16 : xOKs xsg xm_54 xk_54_0 xk_54_16 := ⟨xok_newa (by decide +kernel : decode xm_54.2.1 35 = .ok (.newarray .int, 2)) (xT_c1 58 rfl rfl) (Or.inl rfl) rfl, xq_54_17⟩
theorem xq_54_15 : xOKs xsg xm_54 xk_54_0 xk_54_15 := ⟨xok_p (xp_sipush (v := 12006) (by decide +kernel : decode xm_54.2.1 32 = .ok (.sipush 12006, 3)) (by decide)) rfl, xq_54_16⟩
theorem xq_54_14 : xOKs xsg xm_54 xk_54_0 xk_54_14 := ⟨xok_ld (xl_aload_n (by decide +kernel : decode xm_54.2.1 31 = .ok (.aload_n 0, 1))) rfl, xq_54_15⟩
theorem xq_54_13 : xOKs xsg xm_54 xk_54_0 xk_54_13 := ⟨xok_putF (by decide +kernel : decode xm_54.2.1 28 = .ok (.putfield 16, 3)) (rfl : vwCl[12]? = some (RX12, TX12, 125)) inX12 tyX12_ok nmX12 (k := 5) (by decide) rfl rfl rfl (xT_c6 66 rfl rfl) rfl, xq_54_14⟩
theorem xq_54_12 : xOKs xsg xm_54 xk_54_0 xk_54_12 := ⟨xok_newa (by decide +kernel : decode xm_54.2.1 26 = .ok (.newarray .int, 2)) (xT_c1 58 rfl rfl) (Or.inl rfl) rfl, xq_54_13⟩
theorem xq_54_11 : xOKs xsg xm_54 xk_54_0 xk_54_11 := ⟨xok_p (xp_sipush (v := 12006) (by decide +kernel : decode xm_54.2.1 23 = .ok (.sipush 12006, 3)) (by decide)) rfl, xq_54_12⟩
theorem xq_54_10 : xOKs xsg xm_54 xk_54_0 xk_54_10 := ⟨xok_ld (xl_aload_n (by decide +kernel : decode xm_54.2.1 22 = .ok (.aload_n 0, 1))) rfl, xq_54_11⟩
theorem xq_54_9 : xOKs xsg xm_54 xk_54_0 xk_54_9 := ⟨xok_putF (by decide +kernel : decode xm_54.2.1 19 = .ok (.putfield 13, 3)) (rfl : vwCl[12]? = some (RX12, TX12, 125)) inX12 tyX12_ok nmX12 (k := 4) (by decide) rfl rfl rfl (xT_c6 65 rfl rfl) rfl, xq_54_10⟩
theorem xq_54_8 : xOKs xsg xm_54 xk_54_0 xk_54_8 := ⟨xok_newa (by decide +kernel : decode xm_54.2.1 17 = .ok (.newarray .int, 2)) (xT_c1 58 rfl rfl) (Or.inl rfl) rfl, xq_54_9⟩
theorem xq_54_7 : xOKs xsg xm_54 xk_54_0 xk_54_7 := ⟨xok_p (xp_sipush (v := 12006) (by decide +kernel : decode xm_54.2.1 14 = .ok (.sipush 12006, 3)) (by decide)) rfl, xq_54_8⟩
theorem xq_54_6 : xOKs xsg xm_54 xk_54_0 xk_54_6 := ⟨xok_ld (xl_aload_n (by decide +kernel : decode xm_54.2.1 13 = .ok (.aload_n 0, 1))) rfl, xq_54_7⟩
theorem xq_54_5 : xOKs xsg xm_54 xk_54_0 xk_54_5 := ⟨xok_putF (by decide +kernel : decode xm_54.2.1 10 = .ok (.putfield 7, 3)) (rfl : vwCl[12]? = some (RX12, TX12, 125)) inX12 tyX12_ok nmX12 (k := 1) (by decide) rfl rfl rfl (xT_c6 62 rfl rfl) rfl, xq_54_6⟩
theorem xq_54_4 : xOKs xsg xm_54 xk_54_0 xk_54_4 := ⟨xok_newa (by decide +kernel : decode xm_54.2.1 8 = .ok (.newarray .int, 2)) (xT_c1 58 rfl rfl) (Or.inl rfl) rfl, xq_54_5⟩
theorem xq_54_3 : xOKs xsg xm_54 xk_54_0 xk_54_3 := ⟨xok_p (xp_sipush (v := 4000) (by decide +kernel : decode xm_54.2.1 5 = .ok (.sipush 4000, 3)) (by decide)) rfl, xq_54_4⟩
theorem xq_54_2 : xOKs xsg xm_54 xk_54_0 xk_54_2 := ⟨xok_ld (xl_aload_n (by decide +kernel : decode xm_54.2.1 4 = .ok (.aload_n 0, 1))) rfl, xq_54_3⟩
theorem xq_54_1 : xOKs xsg xm_54 xk_54_0 xk_54_1 := ⟨xok_obj (by decide +kernel : decode xm_54.2.1 1 = .ok (.invokespecial 1, 3)) (xT_c6 57 rfl rfl) xw_o2 xw_o3 rfl, xq_54_2⟩
theorem xq_54_0 : xOKs xsg xm_54 xk_54_0 xk_54_0 := ⟨xok_ld (xl_aload_n (by decide +kernel : decode xm_54.2.1 0 = .ok (.aload_n 0, 1))) rfl, xq_54_1⟩
theorem xz_54 : xwf xsg xm_54 xk_54_0 := ⟨xq_54_0, rfl, by decide⟩
