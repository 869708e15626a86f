/-! FeatherBench$Reader.passValue(II)V -/
theorem xq_32_80 : xOKs xsg xm_32 xk_32_0 xk_32_80 := trivial
theorem xq_32_79 : xOKs xsg xm_32 xk_32_0 xk_32_79 := ⟨xok_ret0 (by decide +kernel : decode xm_32.2.1 163 = .ok (.return_, 1)) rfl, xq_32_80⟩
theorem xq_32_78 : xOKs xsg xm_32 xk_32_0 xk_32_78 := ⟨xok_none, xq_32_79⟩
theorem xq_32_77 : xOKs xsg xm_32 xk_32_0 xk_32_77 := ⟨xok_none, xq_32_78⟩
theorem xq_32_76 : xOKs xsg xm_32 xk_32_0 xk_32_76 := ⟨xok_none, xq_32_77⟩
theorem xq_32_75 : xOKs xsg xm_32 xk_32_0 xk_32_75 := ⟨xok_none, xq_32_76⟩
theorem xq_32_74 : xOKs xsg xm_32 xk_32_0 xk_32_74 := ⟨xok_none, xq_32_75⟩
theorem xq_32_73 : xOKs xsg xm_32 xk_32_0 xk_32_73 := ⟨xok_none, xq_32_74⟩
theorem xq_32_72 : xOKs xsg xm_32 xk_32_0 xk_32_72 := ⟨xok_none, xq_32_73⟩
theorem xq_32_71 : xOKs xsg xm_32 xk_32_0 xk_32_71 := ⟨xok_none, xq_32_72⟩
theorem xq_32_70 : xOKs xsg xm_32 xk_32_0 xk_32_70 := ⟨xok_none, xq_32_71⟩
theorem xq_32_69 : xOKs xsg xm_32 xk_32_0 xk_32_69 := ⟨xok_none, xq_32_70⟩
theorem xq_32_68 : xOKs xsg xm_32 xk_32_0 xk_32_68 := ⟨xok_none, xq_32_69⟩
theorem xq_32_67 : xOKs xsg xm_32 xk_32_0 xk_32_67 := ⟨xok_none, xq_32_68⟩
theorem xq_32_66 : xOKs xsg xm_32 xk_32_0 xk_32_66 := ⟨xok_none, xq_32_67⟩
theorem xq_32_65 : xOKs xsg xm_32 xk_32_0 xk_32_65 := ⟨xok_none, xq_32_66⟩
theorem xq_32_64 : xOKs xsg xm_32 xk_32_0 xk_32_64 := ⟨xok_none, xq_32_65⟩
theorem xq_32_63 : xOKs xsg xm_32 xk_32_0 xk_32_63 := ⟨xok_none, xq_32_64⟩
theorem xq_32_62 : xOKs xsg xm_32 xk_32_0 xk_32_62 := ⟨xok_none, xq_32_63⟩
theorem xq_32_61 : xOKs xsg xm_32 xk_32_0 xk_32_61 := ⟨xok_none, xq_32_62⟩
theorem xq_32_60 : xOKs xsg xm_32 xk_32_0 xk_32_60 := ⟨xok_none, xq_32_61⟩
theorem xq_32_59 : xOKs xsg xm_32 xk_32_0 xk_32_59 := ⟨xok_none, xq_32_60⟩
theorem xq_32_58 : xOKs xsg xm_32 xk_32_0 xk_32_58 := ⟨xok_none, xq_32_59⟩
theorem xq_32_57 : xOKs xsg xm_32 xk_32_0 xk_32_57 := ⟨xok_none, xq_32_58⟩
theorem xq_32_56 : xOKs xsg xm_32 xk_32_0 xk_32_56 := ⟨xok_br (tgt := 163) (xb_ne (by decide +kernel : decode xm_32.2.1 111 = .ok (.ifCond .ne 52, 3)) (by decide)) (by decide +kernel) rfl, xq_32_57⟩
theorem xq_32_55 : xOKs xsg xm_32 xk_32_0 xk_32_55 := ⟨xok_getN (by decide +kernel : decode xm_32.2.1 108 = .ok (.getfield 33, 3)) (rfl : vwCl[4]? = some (RX4, TX4, 15)) inX4 (by decide) (xN_c1 182 rfl rfl) rfl, xq_32_56⟩
theorem xq_32_54 : xOKs xsg xm_32 xk_32_0 xk_32_54 := ⟨xok_get (by decide +kernel : decode xm_32.2.1 105 = .ok (.getfield 9, 3)) (rfl : vwCl[5]? = some (RX5, TX5, 4)) inX5 (by decide) (xT_c2 34 rfl rfl) rfl, xq_32_55⟩
theorem xq_32_53 : xOKs xsg xm_32 xk_32_0 xk_32_53 := ⟨xok_ld (xl_aload_n (by decide +kernel : decode xm_32.2.1 104 = .ok (.aload_n 0, 1))) rfl, xq_32_54⟩
theorem xq_32_52 : xOKs xsg xm_32 xk_32_0 xk_32_52 := ⟨xok_br (tgt := 163) (xb_igt (by decide +kernel : decode xm_32.2.1 101 = .ok (.if_icmp .gt 62, 3)) (by decide)) (by decide +kernel) rfl, xq_32_53⟩
theorem xq_32_51 : xOKs xsg xm_32 xk_32_0 xk_32_51 := ⟨xok_p (xp_bipush (v := 20) (by decide +kernel : decode xm_32.2.1 99 = .ok (.bipush 20, 2)) (by decide)) rfl, xq_32_52⟩
theorem xq_32_50 : xOKs xsg xm_32 xk_32_0 xk_32_50 := ⟨xok_ld (xl_iload (by decide +kernel : decode xm_32.2.1 97 = .ok (.iload 4, 2))) rfl, xq_32_51⟩
theorem xq_32_49 : xOKs xsg xm_32 xk_32_0 xk_32_49 := ⟨xok_st (xs_istore (by decide +kernel : decode xm_32.2.1 95 = .ok (.istore 4, 2)) (by decide)) rfl, xq_32_50⟩
theorem xq_32_48 : xOKs xsg xm_32 xk_32_0 xk_32_48 := ⟨xok_p (xp_iconst (v := 0) (by decide +kernel : decode xm_32.2.1 94 = .ok (.iconst 0, 1)) (by decide)) rfl, xq_32_49⟩
theorem xq_32_47 : xOKs xsg xm_32 xk_32_0 xk_32_47 := ⟨xok_none, xq_32_48⟩
theorem xq_32_46 : xOKs xsg xm_32 xk_32_0 xk_32_46 := ⟨xok_none, xq_32_47⟩
theorem xq_32_45 : xOKs xsg xm_32 xk_32_0 xk_32_45 := ⟨xok_none, xq_32_46⟩
theorem xq_32_44 : xOKs xsg xm_32 xk_32_0 xk_32_44 := ⟨xok_none, xq_32_45⟩
theorem xq_32_43 : xOKs xsg xm_32 xk_32_0 xk_32_43 := ⟨xok_none, xq_32_44⟩
theorem xq_32_42 : xOKs xsg xm_32 xk_32_0 xk_32_42 := ⟨xok_none, xq_32_43⟩
theorem xq_32_41 : xOKs xsg xm_32 xk_32_0 xk_32_41 := ⟨xok_none, xq_32_42⟩
theorem xq_32_40 : xOKs xsg xm_32 xk_32_0 xk_32_40 := ⟨xok_none, xq_32_41⟩
theorem xq_32_39 : xOKs xsg xm_32 xk_32_0 xk_32_39 := ⟨xok_none, xq_32_40⟩
theorem xq_32_38 : xOKs xsg xm_32 xk_32_0 xk_32_38 := ⟨xok_none, xq_32_39⟩
theorem xq_32_37 : xOKs xsg xm_32 xk_32_0 xk_32_37 := ⟨xok_none, xq_32_38⟩
theorem xq_32_36 : xOKs xsg xm_32 xk_32_0 xk_32_36 := ⟨xok_none, xq_32_37⟩
theorem xq_32_35 : xOKs xsg xm_32 xk_32_0 xk_32_35 := ⟨xok_none, xq_32_36⟩
theorem xq_32_34 : xOKs xsg xm_32 xk_32_0 xk_32_34 := ⟨xok_none, xq_32_35⟩
theorem xq_32_33 : xOKs xsg xm_32 xk_32_0 xk_32_33 := ⟨xok_none, xq_32_34⟩
theorem xq_32_32 : xOKs xsg xm_32 xk_32_0 xk_32_32 := ⟨xok_none, xq_32_33⟩
theorem xq_32_31 : xOKs xsg xm_32 xk_32_0 xk_32_31 := ⟨xok_none, xq_32_32⟩
theorem xq_32_30 : xOKs xsg xm_32 xk_32_0 xk_32_30 := ⟨xok_none, xq_32_31⟩
theorem xq_32_29 : xOKs xsg xm_32 xk_32_0 xk_32_29 := ⟨xok_none, xq_32_30⟩
theorem xq_32_28 : xOKs xsg xm_32 xk_32_0 xk_32_28 := ⟨xok_none, xq_32_29⟩
theorem xq_32_27 : xOKs xsg xm_32 xk_32_0 xk_32_27 := ⟨xok_none, xq_32_28⟩
theorem xq_32_26 : xOKs xsg xm_32 xk_32_0 xk_32_26 := ⟨xok_none, xq_32_27⟩
theorem xq_32_25 : xOKs xsg xm_32 xk_32_0 xk_32_25 := ⟨xok_none, xq_32_26⟩
theorem xq_32_24 : xOKs xsg xm_32 xk_32_0 xk_32_24 := ⟨xok_none, xq_32_25⟩
theorem xq_32_23 : xOKs xsg xm_32 xk_32_0 xk_32_23 := ⟨xok_none, xq_32_24⟩
theorem xq_32_22 : xOKs xsg xm_32 xk_32_0 xk_32_22 := ⟨xok_none, xq_32_23⟩
theorem xq_32_21 : xOKs xsg xm_32 xk_32_0 xk_32_21 := ⟨xok_none, xq_32_22⟩
theorem xq_32_20 : xOKs xsg xm_32 xk_32_0 xk_32_20 := ⟨xok_none, xq_32_21⟩
theorem xq_32_19 : xOKs xsg xm_32 xk_32_0 xk_32_19 := ⟨xok_none, xq_32_20⟩
theorem xq_32_18 : xOKs xsg xm_32 xk_32_0 xk_32_18 := ⟨xok_none, xq_32_19⟩
theorem xq_32_17 : xOKs xsg xm_32 xk_32_0 xk_32_17 := ⟨xok_br (tgt := 94) (xb_ne (by decide +kernel : decode xm_32.2.1 33 = .ok (.ifCond .ne 61, 3)) (by decide)) (by decide +kernel) rfl, xq_32_18⟩
theorem xq_32_16 : xOKs xsg xm_32 xk_32_0 xk_32_16 := ⟨xok_getN (by decide +kernel : decode xm_32.2.1 30 = .ok (.getfield 33, 3)) (rfl : vwCl[4]? = some (RX4, TX4, 15)) inX4 (by decide) (xN_c1 182 rfl rfl) rfl, xq_32_17⟩
theorem xq_32_15 : xOKs xsg xm_32 xk_32_0 xk_32_15 := ⟨xok_get (by decide +kernel : decode xm_32.2.1 27 = .ok (.getfield 9, 3)) (rfl : vwCl[5]? = some (RX5, TX5, 4)) inX5 (by decide) (xT_c2 34 rfl rfl) rfl, xq_32_16⟩
theorem xq_32_14 : xOKs xsg xm_32 xk_32_0 xk_32_14 := ⟨xok_ld (xl_aload_n (by decide +kernel : decode xm_32.2.1 26 = .ok (.aload_n 0, 1))) rfl, xq_32_15⟩
theorem xq_32_13 : xOKs xsg xm_32 xk_32_0 xk_32_13 := ⟨xok_callV (M' := xm_35) rfl (rfl : vwCl[5]? = some (RX5, TX5, 4)) (by decide +kernel : decode xm_32.2.1 23 = .ok (.invokevirtual 80, 3)) xn_35 (xT_c3 235 rfl rfl) (xT_c0 10 rfl rfl) (xT_c3 233 rfl rfl) rfl, xq_32_14⟩
theorem xq_32_12 : xOKs xsg xm_32 xk_32_0 xk_32_12 := ⟨xok_p (xp_iconst (v := 0) (by decide +kernel : decode xm_32.2.1 22 = .ok (.iconst 0, 1)) (by decide)) rfl, xq_32_13⟩
theorem xq_32_11 : xOKs xsg xm_32 xk_32_0 xk_32_11 := ⟨xok_none, xq_32_12⟩
theorem xq_32_10 : xOKs xsg xm_32 xk_32_0 xk_32_10 := ⟨xok_none, xq_32_11⟩
theorem xq_32_9 : xOKs xsg xm_32 xk_32_0 xk_32_9 := ⟨xok_br (tgt := 22) (xb_ilt (by decide +kernel : decode xm_32.2.1 15 = .ok (.if_icmp .lt 7, 3)) (by decide)) (by decide +kernel) rfl, xq_32_10⟩
theorem xq_32_8 : xOKs xsg xm_32 xk_32_0 xk_32_8 := ⟨xok_p (xp_bipush (v := 6) (by decide +kernel : decode xm_32.2.1 13 = .ok (.bipush 6, 2)) (by decide)) rfl, xq_32_9⟩
theorem xq_32_7 : xOKs xsg xm_32 xk_32_0 xk_32_7 := ⟨xok_ld (xl_iload_n (by decide +kernel : decode xm_32.2.1 12 = .ok (.iload_n 2, 1))) rfl, xq_32_8⟩
theorem xq_32_6 : xOKs xsg xm_32 xk_32_0 xk_32_6 := ⟨xok_br (tgt := 18) (xb_igt (by decide +kernel : decode xm_32.2.1 9 = .ok (.if_icmp .gt 9, 3)) (by decide)) (by decide +kernel) rfl, xq_32_7⟩
theorem xq_32_5 : xOKs xsg xm_32 xk_32_0 xk_32_5 := ⟨xok_p (xp_bipush (v := 10) (by decide +kernel : decode xm_32.2.1 7 = .ok (.bipush 10, 2)) (by decide)) rfl, xq_32_6⟩
theorem xq_32_4 : xOKs xsg xm_32 xk_32_0 xk_32_4 := ⟨xok_ld (xl_iload_n (by decide +kernel : decode xm_32.2.1 6 = .ok (.iload_n 1, 1))) rfl, xq_32_5⟩
theorem xq_32_3 : xOKs xsg xm_32 xk_32_0 xk_32_3 := ⟨xok_ld (xl_aload_n (by decide +kernel : decode xm_32.2.1 5 = .ok (.aload_n 0, 1))) rfl, xq_32_4⟩
theorem xq_32_2 : xOKs xsg xm_32 xk_32_0 xk_32_2 := ⟨xok_st (xs_istore_n (by decide +kernel : decode xm_32.2.1 4 = .ok (.istore_n 3, 1)) (by decide)) rfl, xq_32_3⟩
theorem xq_32_1 : xOKs xsg xm_32 xk_32_0 xk_32_1 := ⟨xok_get (by decide +kernel : decode xm_32.2.1 1 = .ok (.getfield 29, 3)) (rfl : vwCl[5]? = some (RX5, TX5, 4)) inX5 (by decide) (xT_c2 37 rfl rfl) rfl, xq_32_2⟩
theorem xq_32_0 : xOKs xsg xm_32 xk_32_0 xk_32_0 := ⟨xok_ld (xl_aload_n (by decide +kernel : decode xm_32.2.1 0 = .ok (.aload_n 0, 1))) rfl, xq_32_1⟩
theorem xz_32 : xwf xsg xm_32 xk_32_0 := ⟨xq_32_0, rfl, by decide⟩
/-! FeatherBench$Reader.took(I)Z -/
theorem xq_33_25 : xOKs xsg xm_33 xk_33_0 xk_33_25 := trivial
theorem xq_33_24 : xOKs xsg xm_33 xk_33_0 xk_33_24 := ⟨xok_retZ (by decide +kernel : decode xm_33.2.1 46 = .ok (.ireturn, 1)) rfl, xq_33_25⟩
theorem xq_33_23 : xOKs xsg xm_33 xk_33_0 xk_33_23 := ⟨xok_ld (xl_iload_n (by decide +kernel : decode xm_33.2.1 45 = .ok (.iload_n 2, 1))) rfl, xq_33_24⟩
theorem xq_33_22 : xOKs xsg xm_33 xk_33_0 xk_33_22 := ⟨xok_none, xq_33_23⟩
theorem xq_33_21 : xOKs xsg xm_33 xk_33_0 xk_33_21 := ⟨xok_none, xq_33_22⟩
theorem xq_33_20 : xOKs xsg xm_33 xk_33_0 xk_33_20 := ⟨xok_none, xq_33_21⟩
theorem xq_33_19 : xOKs xsg xm_33 xk_33_0 xk_33_19 := ⟨xok_none, xq_33_20⟩
theorem xq_33_18 : xOKs xsg xm_33 xk_33_0 xk_33_18 := ⟨xok_none, xq_33_19⟩
theorem xq_33_17 : xOKs xsg xm_33 xk_33_0 xk_33_17 := ⟨xok_none, xq_33_18⟩
theorem xq_33_16 : xOKs xsg xm_33 xk_33_0 xk_33_16 := ⟨xok_br (tgt := 45) (xb_eq (by decide +kernel : decode xm_33.2.1 32 = .ok (.ifCond .eq 13, 3)) (by decide)) (by decide +kernel) rfl, xq_33_17⟩
theorem xq_33_15 : xOKs xsg xm_33 xk_33_0 xk_33_15 := ⟨xok_ld (xl_iload_n (by decide +kernel : decode xm_33.2.1 31 = .ok (.iload_n 2, 1))) rfl, xq_33_16⟩
theorem xq_33_14 : xOKs xsg xm_33 xk_33_0 xk_33_14 := ⟨xok_st (xs_istore_n (by decide +kernel : decode xm_33.2.1 30 = .ok (.istore_n 2, 1)) (by decide)) rfl, xq_33_15⟩
theorem xq_33_13 : xOKs xsg xm_33 xk_33_0 xk_33_13 := ⟨xok_p (xp_iconst (v := 0) (by decide +kernel : decode xm_33.2.1 29 = .ok (.iconst 0, 1)) (by decide)) rfl, xq_33_14⟩
theorem xq_33_12 : xOKs xsg xm_33 xk_33_0 xk_33_12 := ⟨xok_none, xq_33_13⟩
theorem xq_33_11 : xOKs xsg xm_33 xk_33_0 xk_33_11 := ⟨xok_none, xq_33_12⟩
theorem xq_33_10 : xOKs xsg xm_33 xk_33_0 xk_33_10 := ⟨xok_none, xq_33_11⟩
theorem xq_33_9 : xOKs xsg xm_33 xk_33_0 xk_33_9 := ⟨xok_none, xq_33_10⟩
theorem xq_33_8 : xOKs xsg xm_33 xk_33_0 xk_33_8 := ⟨xok_none, xq_33_9⟩
theorem xq_33_7 : xOKs xsg xm_33 xk_33_0 xk_33_7 := ⟨xok_none, xq_33_8⟩
theorem xq_33_6 : xOKs xsg xm_33 xk_33_0 xk_33_6 := ⟨xok_none, xq_33_7⟩
theorem xq_33_5 : xOKs xsg xm_33 xk_33_0 xk_33_5 := ⟨xok_none, xq_33_6⟩
theorem xq_33_4 : xOKs xsg xm_33 xk_33_0 xk_33_4 := ⟨xok_none, xq_33_5⟩
theorem xq_33_3 : xOKs xsg xm_33 xk_33_0 xk_33_3 := ⟨xok_br (tgt := 29) (xb_ne (by decide +kernel : decode xm_33.2.1 7 = .ok (.ifCond .ne 22, 3)) (by decide)) (by decide +kernel) rfl, xq_33_4⟩
theorem xq_33_2 : xOKs xsg xm_33 xk_33_0 xk_33_2 := ⟨xok_getN (by decide +kernel : decode xm_33.2.1 4 = .ok (.getfield 33, 3)) (rfl : vwCl[4]? = some (RX4, TX4, 15)) inX4 (by decide) (xN_c1 182 rfl rfl) rfl, xq_33_3⟩
theorem xq_33_1 : xOKs xsg xm_33 xk_33_0 xk_33_1 := ⟨xok_get (by decide +kernel : decode xm_33.2.1 1 = .ok (.getfield 9, 3)) (rfl : vwCl[5]? = some (RX5, TX5, 4)) inX5 (by decide) (xT_c2 34 rfl rfl) rfl, xq_33_2⟩
theorem xq_33_0 : xOKs xsg xm_33 xk_33_0 xk_33_0 := ⟨xok_ld (xl_aload_n (by decide +kernel : decode xm_33.2.1 0 = .ok (.aload_n 0, 1))) rfl, xq_33_1⟩
theorem xz_33 : xwf xsg xm_33 xk_33_0 := ⟨xq_33_0, rfl, by decide⟩
/-! FeatherBench$Reader.expect(I)V -/
theorem xq_34_35 : xOKs xsg xm_34 xk_34_0 xk_34_35 := trivial
theorem xq_34_34 : xOKs xsg xm_34 xk_34_0 xk_34_34 := ⟨xok_ret0 (by decide +kernel : decode xm_34.2.1 71 = .ok (.return_, 1)) rfl, xq_34_35⟩
theorem xq_34_33 : xOKs xsg xm_34 xk_34_0 xk_34_33 := ⟨xok_none, xq_34_34⟩
theorem xq_34_32 : xOKs xsg xm_34 xk_34_0 xk_34_32 := ⟨xok_none, xq_34_33⟩
theorem xq_34_31 : xOKs xsg xm_34 xk_34_0 xk_34_31 := ⟨xok_none, xq_34_32⟩
theorem xq_34_30 : xOKs xsg xm_34 xk_34_0 xk_34_30 := ⟨xok_none, xq_34_31⟩
theorem xq_34_29 : xOKs xsg xm_34 xk_34_0 xk_34_29 := ⟨xok_none, xq_34_30⟩
theorem xq_34_28 : xOKs xsg xm_34 xk_34_0 xk_34_28 := ⟨xok_none, xq_34_29⟩
theorem xq_34_27 : xOKs xsg xm_34 xk_34_0 xk_34_27 := ⟨xok_br (tgt := 71) (xb_ne (by decide +kernel : decode xm_34.2.1 58 = .ok (.ifCond .ne 13, 3)) (by decide)) (by decide +kernel) rfl, xq_34_28⟩
theorem xq_34_26 : xOKs xsg xm_34 xk_34_0 xk_34_26 := ⟨xok_getN (by decide +kernel : decode xm_34.2.1 55 = .ok (.getfield 33, 3)) (rfl : vwCl[4]? = some (RX4, TX4, 15)) inX4 (by decide) (xN_c1 182 rfl rfl) rfl, xq_34_27⟩
theorem xq_34_25 : xOKs xsg xm_34 xk_34_0 xk_34_25 := ⟨xok_get (by decide +kernel : decode xm_34.2.1 52 = .ok (.getfield 9, 3)) (rfl : vwCl[5]? = some (RX5, TX5, 4)) inX5 (by decide) (xT_c2 34 rfl rfl) rfl, xq_34_26⟩
theorem xq_34_24 : xOKs xsg xm_34 xk_34_0 xk_34_24 := ⟨xok_ld (xl_aload_n (by decide +kernel : decode xm_34.2.1 51 = .ok (.aload_n 0, 1))) rfl, xq_34_25⟩
theorem xq_34_23 : xOKs xsg xm_34 xk_34_0 xk_34_23 := ⟨xok_putN (by decide +kernel : decode xm_34.2.1 48 = .ok (.putfield 33, 3)) (rfl : vwCl[4]? = some (RX4, TX4, 15)) inX4 tyX4_ok nmX4 (k := 14) (by decide) rfl (xN_c1 182 rfl rfl) rfl, xq_34_24⟩
theorem xq_34_22 : xOKs xsg xm_34 xk_34_0 xk_34_22 := ⟨xok_p (xp_iadd (by decide +kernel : decode xm_34.2.1 47 = .ok (.iadd, 1))) rfl, xq_34_23⟩
theorem xq_34_21 : xOKs xsg xm_34 xk_34_0 xk_34_21 := ⟨xok_p (xp_imul (by decide +kernel : decode xm_34.2.1 46 = .ok (.imul, 1))) rfl, xq_34_22⟩
theorem xq_34_20 : xOKs xsg xm_34 xk_34_0 xk_34_20 := ⟨xok_callV (M' := xm_37) rfl (rfl : vwCl[6]? = some (RX6, TX6, 3)) (by decide +kernel : decode xm_34.2.1 43 = .ok (.invokevirtual 36, 3)) xn_37 (xT_c3 88 rfl rfl) (xT_c3 89 rfl rfl) (xT_c3 194 rfl rfl) rfl, xq_34_21⟩
theorem xq_34_19 : xOKs xsg xm_34 xk_34_0 xk_34_19 := ⟨xok_get (by decide +kernel : decode xm_34.2.1 40 = .ok (.getfield 29, 3)) (rfl : vwCl[5]? = some (RX5, TX5, 4)) inX5 (by decide) (xT_c2 37 rfl rfl) rfl, xq_34_20⟩
theorem xq_34_18 : xOKs xsg xm_34 xk_34_0 xk_34_18 := ⟨xok_ld (xl_aload_n (by decide +kernel : decode xm_34.2.1 39 = .ok (.aload_n 0, 1))) rfl, xq_34_19⟩
theorem xq_34_17 : xOKs xsg xm_34 xk_34_0 xk_34_17 := ⟨xok_getN (by decide +kernel : decode xm_34.2.1 36 = .ok (.getfield 125, 3)) (rfl : vwCl[9]? = some (RX9, TX9, 8)) inX9 (by decide) (xN_c1 84 rfl rfl) rfl, xq_34_18⟩
theorem xq_34_16 : xOKs xsg xm_34 xk_34_0 xk_34_16 := ⟨xok_get (by decide +kernel : decode xm_34.2.1 33 = .ok (.getfield 21, 3)) (rfl : vwCl[5]? = some (RX5, TX5, 4)) inX5 (by decide) (xT_c2 35 rfl rfl) rfl, xq_34_17⟩
theorem xq_34_15 : xOKs xsg xm_34 xk_34_0 xk_34_15 := ⟨xok_ld (xl_aload_n (by decide +kernel : decode xm_34.2.1 32 = .ok (.aload_n 0, 1))) rfl, xq_34_16⟩
theorem xq_34_14 : xOKs xsg xm_34 xk_34_0 xk_34_14 := ⟨xok_p (xp_bipush (v := 16) (by decide +kernel : decode xm_34.2.1 30 = .ok (.bipush 16, 2)) (by decide)) rfl, xq_34_15⟩
theorem xq_34_13 : xOKs xsg xm_34 xk_34_0 xk_34_13 := ⟨xok_p (xp_iconst (v := 1) (by decide +kernel : decode xm_34.2.1 29 = .ok (.iconst 1, 1)) (by decide)) rfl, xq_34_14⟩
theorem xq_34_12 : xOKs xsg xm_34 xk_34_0 xk_34_12 := ⟨xok_get (by decide +kernel : decode xm_34.2.1 26 = .ok (.getfield 9, 3)) (rfl : vwCl[5]? = some (RX5, TX5, 4)) inX5 (by decide) (xT_c2 34 rfl rfl) rfl, xq_34_13⟩
theorem xq_34_11 : xOKs xsg xm_34 xk_34_0 xk_34_11 := ⟨xok_ld (xl_aload_n (by decide +kernel : decode xm_34.2.1 25 = .ok (.aload_n 0, 1))) rfl, xq_34_12⟩
theorem xq_34_10 : xOKs xsg xm_34 xk_34_0 xk_34_10 := ⟨xok_br (tgt := 51) (xb_ieq (by decide +kernel : decode xm_34.2.1 22 = .ok (.if_icmp .eq 29, 3)) (by decide)) (by decide +kernel) rfl, xq_34_11⟩
theorem xq_34_9 : xOKs xsg xm_34 xk_34_0 xk_34_9 := ⟨xok_ld (xl_iload_n (by decide +kernel : decode xm_34.2.1 21 = .ok (.iload_n 1, 1))) rfl, xq_34_10⟩
theorem xq_34_8 : xOKs xsg xm_34 xk_34_0 xk_34_8 := ⟨xok_callV (M' := xm_37) rfl (rfl : vwCl[6]? = some (RX6, TX6, 3)) (by decide +kernel : decode xm_34.2.1 18 = .ok (.invokevirtual 36, 3)) xn_37 (xT_c3 88 rfl rfl) (xT_c3 89 rfl rfl) (xT_c3 194 rfl rfl) rfl, xq_34_9⟩
theorem xq_34_7 : xOKs xsg xm_34 xk_34_0 xk_34_7 := ⟨xok_get (by decide +kernel : decode xm_34.2.1 15 = .ok (.getfield 29, 3)) (rfl : vwCl[5]? = some (RX5, TX5, 4)) inX5 (by decide) (xT_c2 37 rfl rfl) rfl, xq_34_8⟩
theorem xq_34_6 : xOKs xsg xm_34 xk_34_0 xk_34_6 := ⟨xok_ld (xl_aload_n (by decide +kernel : decode xm_34.2.1 14 = .ok (.aload_n 0, 1))) rfl, xq_34_7⟩
theorem xq_34_5 : xOKs xsg xm_34 xk_34_0 xk_34_5 := ⟨xok_get (by decide +kernel : decode xm_34.2.1 11 = .ok (.getfield 28, 3)) (rfl : vwCl[5]? = some (RX5, TX5, 4)) inX5 (by decide) (xT_c2 36 rfl rfl) rfl, xq_34_6⟩
theorem xq_34_4 : xOKs xsg xm_34 xk_34_0 xk_34_4 := ⟨xok_ld (xl_aload_n (by decide +kernel : decode xm_34.2.1 10 = .ok (.aload_n 0, 1))) rfl, xq_34_5⟩
theorem xq_34_3 : xOKs xsg xm_34 xk_34_0 xk_34_3 := ⟨xok_br (tgt := 51) (xb_ne (by decide +kernel : decode xm_34.2.1 7 = .ok (.ifCond .ne 44, 3)) (by decide)) (by decide +kernel) rfl, xq_34_4⟩
theorem xq_34_2 : xOKs xsg xm_34 xk_34_0 xk_34_2 := ⟨xok_getN (by decide +kernel : decode xm_34.2.1 4 = .ok (.getfield 33, 3)) (rfl : vwCl[4]? = some (RX4, TX4, 15)) inX4 (by decide) (xN_c1 182 rfl rfl) rfl, xq_34_3⟩
theorem xq_34_1 : xOKs xsg xm_34 xk_34_0 xk_34_1 := ⟨xok_get (by decide +kernel : decode xm_34.2.1 1 = .ok (.getfield 9, 3)) (rfl : vwCl[5]? = some (RX5, TX5, 4)) inX5 (by decide) (xT_c2 34 rfl rfl) rfl, xq_34_2⟩
theorem xq_34_0 : xOKs xsg xm_34 xk_34_0 xk_34_0 := ⟨xok_ld (xl_aload_n (by decide +kernel : decode xm_34.2.1 0 = .ok (.aload_n 0, 1))) rfl, xq_34_1⟩
theorem xz_34 : xwf xsg xm_34 xk_34_0 := ⟨xq_34_0, rfl, by decide⟩
/-! FeatherBench$Reader.expectFirst(Z)V -/
theorem xq_35_61 : xOKs xsg xm_35 xk_35_0 xk_35_61 := trivial
theorem xq_35_60 : xOKs xsg xm_35 xk_35_0 xk_35_60 := ⟨xok_ret0 (by decide +kernel : decode xm_35.2.1 126 = .ok (.return_, 1)) rfl, xq_35_61⟩
theorem xq_35_59 : xOKs xsg xm_35 xk_35_0 xk_35_59 := ⟨xok_none, xq_35_60⟩
theorem xq_35_58 : xOKs xsg xm_35 xk_35_0 xk_35_58 := ⟨xok_none, xq_35_59⟩
theorem xq_35_57 : xOKs xsg xm_35 xk_35_0 xk_35_57 := ⟨xok_none, xq_35_58⟩
theorem xq_35_56 : xOKs xsg xm_35 xk_35_0 xk_35_56 := ⟨xok_none, xq_35_57⟩
theorem xq_35_55 : xOKs xsg xm_35 xk_35_0 xk_35_55 := ⟨xok_none, xq_35_56⟩
theorem xq_35_54 : xOKs xsg xm_35 xk_35_0 xk_35_54 := ⟨xok_none, xq_35_55⟩
theorem xq_35_53 : xOKs xsg xm_35 xk_35_0 xk_35_53 := ⟨xok_br (tgt := 126) (xb_ne (by decide +kernel : decode xm_35.2.1 113 = .ok (.ifCond .ne 13, 3)) (by decide)) (by decide +kernel) rfl, xq_35_54⟩
theorem xq_35_52 : xOKs xsg xm_35 xk_35_0 xk_35_52 := ⟨xok_getN (by decide +kernel : decode xm_35.2.1 110 = .ok (.getfield 33, 3)) (rfl : vwCl[4]? = some (RX4, TX4, 15)) inX4 (by decide) (xN_c1 182 rfl rfl) rfl, xq_35_53⟩
theorem xq_35_51 : xOKs xsg xm_35 xk_35_0 xk_35_51 := ⟨xok_get (by decide +kernel : decode xm_35.2.1 107 = .ok (.getfield 9, 3)) (rfl : vwCl[5]? = some (RX5, TX5, 4)) inX5 (by decide) (xT_c2 34 rfl rfl) rfl, xq_35_52⟩
theorem xq_35_50 : xOKs xsg xm_35 xk_35_0 xk_35_50 := ⟨xok_ld (xl_aload_n (by decide +kernel : decode xm_35.2.1 106 = .ok (.aload_n 0, 1))) rfl, xq_35_51⟩
theorem xq_35_49 : xOKs xsg xm_35 xk_35_0 xk_35_49 := ⟨xok_none, xq_35_50⟩
theorem xq_35_48 : xOKs xsg xm_35 xk_35_0 xk_35_48 := ⟨xok_none, xq_35_49⟩
theorem xq_35_47 : xOKs xsg xm_35 xk_35_0 xk_35_47 := ⟨xok_none, xq_35_48⟩
theorem xq_35_46 : xOKs xsg xm_35 xk_35_0 xk_35_46 := ⟨xok_none, xq_35_47⟩
theorem xq_35_45 : xOKs xsg xm_35 xk_35_0 xk_35_45 := ⟨xok_none, xq_35_46⟩
theorem xq_35_44 : xOKs xsg xm_35 xk_35_0 xk_35_44 := ⟨xok_none, xq_35_45⟩
theorem xq_35_43 : xOKs xsg xm_35 xk_35_0 xk_35_43 := ⟨xok_none, xq_35_44⟩
theorem xq_35_42 : xOKs xsg xm_35 xk_35_0 xk_35_42 := ⟨xok_none, xq_35_43⟩
theorem xq_35_41 : xOKs xsg xm_35 xk_35_0 xk_35_41 := ⟨xok_none, xq_35_42⟩
theorem xq_35_40 : xOKs xsg xm_35 xk_35_0 xk_35_40 := ⟨xok_none, xq_35_41⟩
theorem xq_35_39 : xOKs xsg xm_35 xk_35_0 xk_35_39 := ⟨xok_none, xq_35_40⟩
theorem xq_35_38 : xOKs xsg xm_35 xk_35_0 xk_35_38 := ⟨xok_none, xq_35_39⟩
theorem xq_35_37 : xOKs xsg xm_35 xk_35_0 xk_35_37 := ⟨xok_none, xq_35_38⟩
theorem xq_35_36 : xOKs xsg xm_35 xk_35_0 xk_35_36 := ⟨xok_none, xq_35_37⟩
theorem xq_35_35 : xOKs xsg xm_35 xk_35_0 xk_35_35 := ⟨xok_none, xq_35_36⟩
theorem xq_35_34 : xOKs xsg xm_35 xk_35_0 xk_35_34 := ⟨xok_none, xq_35_35⟩
theorem xq_35_33 : xOKs xsg xm_35 xk_35_0 xk_35_33 := ⟨xok_none, xq_35_34⟩
theorem xq_35_32 : xOKs xsg xm_35 xk_35_0 xk_35_32 := ⟨xok_none, xq_35_33⟩
theorem xq_35_31 : xOKs xsg xm_35 xk_35_0 xk_35_31 := ⟨xok_none, xq_35_32⟩
theorem xq_35_30 : xOKs xsg xm_35 xk_35_0 xk_35_30 := ⟨xok_none, xq_35_31⟩
theorem xq_35_29 : xOKs xsg xm_35 xk_35_0 xk_35_29 := ⟨xok_br (tgt := 106) (xb_ne (by decide +kernel : decode xm_35.2.1 62 = .ok (.ifCond .ne 44, 3)) (by decide)) (by decide +kernel) rfl, xq_35_30⟩
theorem xq_35_28 : xOKs xsg xm_35 xk_35_0 xk_35_28 := ⟨xok_getN (by decide +kernel : decode xm_35.2.1 59 = .ok (.getfield 33, 3)) (rfl : vwCl[4]? = some (RX4, TX4, 15)) inX4 (by decide) (xN_c1 182 rfl rfl) rfl, xq_35_29⟩
theorem xq_35_27 : xOKs xsg xm_35 xk_35_0 xk_35_27 := ⟨xok_get (by decide +kernel : decode xm_35.2.1 56 = .ok (.getfield 9, 3)) (rfl : vwCl[5]? = some (RX5, TX5, 4)) inX5 (by decide) (xT_c2 34 rfl rfl) rfl, xq_35_28⟩
theorem xq_35_26 : xOKs xsg xm_35 xk_35_0 xk_35_26 := ⟨xok_ld (xl_aload_n (by decide +kernel : decode xm_35.2.1 55 = .ok (.aload_n 0, 1))) rfl, xq_35_27⟩
theorem xq_35_25 : xOKs xsg xm_35 xk_35_0 xk_35_25 := ⟨xok_none, xq_35_26⟩
theorem xq_35_24 : xOKs xsg xm_35 xk_35_0 xk_35_24 := ⟨xok_none, xq_35_25⟩
theorem xq_35_23 : xOKs xsg xm_35 xk_35_0 xk_35_23 := ⟨xok_none, xq_35_24⟩
theorem xq_35_22 : xOKs xsg xm_35 xk_35_0 xk_35_22 := ⟨xok_none, xq_35_23⟩
theorem xq_35_21 : xOKs xsg xm_35 xk_35_0 xk_35_21 := ⟨xok_none, xq_35_22⟩
theorem xq_35_20 : xOKs xsg xm_35 xk_35_0 xk_35_20 := ⟨xok_none, xq_35_21⟩
theorem xq_35_19 : xOKs xsg xm_35 xk_35_0 xk_35_19 := ⟨xok_none, xq_35_20⟩
theorem xq_35_18 : xOKs xsg xm_35 xk_35_0 xk_35_18 := ⟨xok_none, xq_35_19⟩
theorem xq_35_17 : xOKs xsg xm_35 xk_35_0 xk_35_17 := ⟨xok_none, xq_35_18⟩
theorem xq_35_16 : xOKs xsg xm_35 xk_35_0 xk_35_16 := ⟨xok_none, xq_35_17⟩
theorem xq_35_15 : xOKs xsg xm_35 xk_35_0 xk_35_15 := ⟨xok_none, xq_35_16⟩
theorem xq_35_14 : xOKs xsg xm_35 xk_35_0 xk_35_14 := ⟨xok_none, xq_35_15⟩
theorem xq_35_13 : xOKs xsg xm_35 xk_35_0 xk_35_13 := ⟨xok_none, xq_35_14⟩
theorem xq_35_12 : xOKs xsg xm_35 xk_35_0 xk_35_12 := ⟨xok_none, xq_35_13⟩
theorem xq_35_11 : xOKs xsg xm_35 xk_35_0 xk_35_11 := ⟨xok_none, xq_35_12⟩
theorem xq_35_10 : xOKs xsg xm_35 xk_35_0 xk_35_10 := ⟨xok_none, xq_35_11⟩
theorem xq_35_9 : xOKs xsg xm_35 xk_35_0 xk_35_9 := ⟨xok_none, xq_35_10⟩
theorem xq_35_8 : xOKs xsg xm_35 xk_35_0 xk_35_8 := ⟨xok_none, xq_35_9⟩
theorem xq_35_7 : xOKs xsg xm_35 xk_35_0 xk_35_7 := ⟨xok_none, xq_35_8⟩
theorem xq_35_6 : xOKs xsg xm_35 xk_35_0 xk_35_6 := ⟨xok_none, xq_35_7⟩
theorem xq_35_5 : xOKs xsg xm_35 xk_35_0 xk_35_5 := ⟨xok_none, xq_35_6⟩
theorem xq_35_4 : xOKs xsg xm_35 xk_35_0 xk_35_4 := ⟨xok_none, xq_35_5⟩
theorem xq_35_3 : xOKs xsg xm_35 xk_35_0 xk_35_3 := ⟨xok_br (tgt := 55) (xb_ne (by decide +kernel : decode xm_35.2.1 7 = .ok (.ifCond .ne 48, 3)) (by decide)) (by decide +kernel) rfl, xq_35_4⟩
theorem xq_35_2 : xOKs xsg xm_35 xk_35_0 xk_35_2 := ⟨xok_getN (by decide +kernel : decode xm_35.2.1 4 = .ok (.getfield 33, 3)) (rfl : vwCl[4]? = some (RX4, TX4, 15)) inX4 (by decide) (xN_c1 182 rfl rfl) rfl, xq_35_3⟩
theorem xq_35_1 : xOKs xsg xm_35 xk_35_0 xk_35_1 := ⟨xok_get (by decide +kernel : decode xm_35.2.1 1 = .ok (.getfield 9, 3)) (rfl : vwCl[5]? = some (RX5, TX5, 4)) inX5 (by decide) (xT_c2 34 rfl rfl) rfl, xq_35_2⟩
theorem xq_35_0 : xOKs xsg xm_35 xk_35_0 xk_35_0 := ⟨xok_ld (xl_aload_n (by decide +kernel : decode xm_35.2.1 0 = .ok (.aload_n 0, 1))) rfl, xq_35_1⟩
theorem xz_35 : xwf xsg xm_35 xk_35_0 := ⟨xq_35_0, rfl, by decide⟩
/-! FeatherBench$Row.<init>(II)V -/
theorem xq_36_17 : xOKs xsg xm_36 xk_36_0 xk_36_17 := trivial
theorem xq_36_16 : xOKs xsg xm_36 xk_36_0 xk_36_16 := ⟨xok_ret0 (by decide +kernel : decode xm_36.2.1 31 = .ok (.return_, 1)) rfl, xq_36_17⟩
theorem xq_36_15 : xOKs xsg xm_36 xk_36_0 xk_36_15 := ⟨xok_put (by decide +kernel : decode xm_36.2.1 28 = .ok (.putfield 22, 3)) (rfl : vwCl[6]? = some (RX6, TX6, 3)) inX6 tyX6_ok nmX6 (k := 1) (by decide) rfl (xT_c1 42 rfl rfl) rfl, xq_36_16⟩
theorem xq_36_14 : xOKs xsg xm_36 xk_36_0 xk_36_14 := ⟨xok_newa (by decide +kernel : decode xm_36.2.1 26 = .ok (.newarray .int, 2)) (xT_c1 58 rfl rfl) (Or.inl rfl) rfl, xq_36_15⟩
theorem xq_36_13 : xOKs xsg xm_36 xk_36_0 xk_36_13 := ⟨xok_mmin (by decide +kernel : decode xm_36.2.1 23 = .ok (.invokestatic 19, 3)) (xT_c1 38 rfl rfl) rfl, xq_36_14⟩
theorem xq_36_12 : xOKs xsg xm_36 xk_36_0 xk_36_12 := ⟨xok_get (by decide +kernel : decode xm_36.2.1 20 = .ok (.getfield 13, 3)) (rfl : vwCl[6]? = some (RX6, TX6, 3)) inX6 (by decide) (xT_c1 41 rfl rfl) rfl, xq_36_13⟩
theorem xq_36_11 : xOKs xsg xm_36 xk_36_0 xk_36_11 := ⟨xok_ld (xl_aload_n (by decide +kernel : decode xm_36.2.1 19 = .ok (.aload_n 0, 1))) rfl, xq_36_12⟩
theorem xq_36_10 : xOKs xsg xm_36 xk_36_0 xk_36_10 := ⟨xok_mmax (by decide +kernel : decode xm_36.2.1 16 = .ok (.invokestatic 7, 3)) (xT_c1 35 rfl rfl) rfl, xq_36_11⟩
theorem xq_36_9 : xOKs xsg xm_36 xk_36_0 xk_36_9 := ⟨xok_p (xp_iconst (v := 1) (by decide +kernel : decode xm_36.2.1 15 = .ok (.iconst 1, 1)) (by decide)) rfl, xq_36_10⟩
theorem xq_36_8 : xOKs xsg xm_36 xk_36_0 xk_36_8 := ⟨xok_ld (xl_iload_n (by decide +kernel : decode xm_36.2.1 14 = .ok (.iload_n 1, 1))) rfl, xq_36_9⟩
theorem xq_36_7 : xOKs xsg xm_36 xk_36_0 xk_36_7 := ⟨xok_ld (xl_aload_n (by decide +kernel : decode xm_36.2.1 13 = .ok (.aload_n 0, 1))) rfl, xq_36_8⟩
theorem xq_36_6 : xOKs xsg xm_36 xk_36_0 xk_36_6 := ⟨xok_putF (by decide +kernel : decode xm_36.2.1 10 = .ok (.putfield 13, 3)) (rfl : vwCl[6]? = some (RX6, TX6, 3)) inX6 tyX6_ok nmX6 (k := 0) (by decide) rfl rfl rfl (xT_c1 41 rfl rfl) rfl, xq_36_7⟩
theorem xq_36_5 : xOKs xsg xm_36 xk_36_0 xk_36_5 := ⟨xok_mmax (by decide +kernel : decode xm_36.2.1 7 = .ok (.invokestatic 7, 3)) (xT_c1 35 rfl rfl) rfl, xq_36_6⟩
theorem xq_36_4 : xOKs xsg xm_36 xk_36_0 xk_36_4 := ⟨xok_p (xp_iconst (v := 1) (by decide +kernel : decode xm_36.2.1 6 = .ok (.iconst 1, 1)) (by decide)) rfl, xq_36_5⟩
theorem xq_36_3 : xOKs xsg xm_36 xk_36_0 xk_36_3 := ⟨xok_ld (xl_iload_n (by decide +kernel : decode xm_36.2.1 5 = .ok (.iload_n 2, 1))) rfl, xq_36_4⟩
theorem xq_36_2 : xOKs xsg xm_36 xk_36_0 xk_36_2 := ⟨xok_ld (xl_aload_n (by decide +kernel : decode xm_36.2.1 4 = .ok (.aload_n 0, 1))) rfl, xq_36_3⟩
theorem xq_36_1 : xOKs xsg xm_36 xk_36_0 xk_36_1 := ⟨xok_obj (by decide +kernel : decode xm_36.2.1 1 = .ok (.invokespecial 1, 3)) (xT_c1 34 rfl rfl) xw_o2 xw_o3 rfl, xq_36_2⟩
theorem xq_36_0 : xOKs xsg xm_36 xk_36_0 xk_36_0 := ⟨xok_ld (xl_aload_n (by decide +kernel : decode xm_36.2.1 0 = .ok (.aload_n 0, 1))) rfl, xq_36_1⟩
theorem xz_36 : xwf xsg xm_36 xk_36_0 := ⟨xq_36_0, rfl, by decide⟩
/-! FeatherBench$Row.get(I)I -/
theorem xq_37_14 : xOKs xsg xm_37 xk_37_0 xk_37_14 := trivial
theorem xq_37_13 : xOKs xsg xm_37 xk_37_0 xk_37_13 := ⟨xok_retI (by decide +kernel : decode xm_37.2.1 23 = .ok (.ireturn, 1)) rfl, xq_37_14⟩
theorem xq_37_12 : xOKs xsg xm_37 xk_37_0 xk_37_12 := ⟨xok_none, xq_37_13⟩
theorem xq_37_11 : xOKs xsg xm_37 xk_37_0 xk_37_11 := ⟨xok_br (tgt := 23) (xb_go (by decide +kernel : decode xm_37.2.1 19 = .ok (.goto 4, 3)) (by decide)) (by decide +kernel) rfl, xq_37_12⟩
theorem xq_37_10 : xOKs xsg xm_37 xk_37_0 xk_37_10 := ⟨xok_ial (by decide +kernel : decode xm_37.2.1 18 = .ok (.iaload, 1)) rfl, xq_37_11⟩
theorem xq_37_9 : xOKs xsg xm_37 xk_37_0 xk_37_9 := ⟨xok_ld (xl_iload_n (by decide +kernel : decode xm_37.2.1 17 = .ok (.iload_n 1, 1))) rfl, xq_37_10⟩
theorem xq_37_8 : xOKs xsg xm_37 xk_37_0 xk_37_8 := ⟨xok_get (by decide +kernel : decode xm_37.2.1 14 = .ok (.getfield 22, 3)) (rfl : vwCl[6]? = some (RX6, TX6, 3)) inX6 (by decide) (xT_c1 42 rfl rfl) rfl, xq_37_9⟩
theorem xq_37_7 : xOKs xsg xm_37 xk_37_0 xk_37_7 := ⟨xok_ld (xl_aload_n (by decide +kernel : decode xm_37.2.1 13 = .ok (.aload_n 0, 1))) rfl, xq_37_8⟩
theorem xq_37_6 : xOKs xsg xm_37 xk_37_0 xk_37_6 := ⟨xok_br (tgt := 22) (xb_ige (by decide +kernel : decode xm_37.2.1 10 = .ok (.if_icmp .ge 12, 3)) (by decide)) (by decide +kernel) rfl, xq_37_7⟩
theorem xq_37_5 : xOKs xsg xm_37 xk_37_0 xk_37_5 := ⟨xok_len (by decide +kernel : decode xm_37.2.1 9 = .ok (.arraylength, 1)) rfl, xq_37_6⟩
theorem xq_37_4 : xOKs xsg xm_37 xk_37_0 xk_37_4 := ⟨xok_get (by decide +kernel : decode xm_37.2.1 6 = .ok (.getfield 22, 3)) (rfl : vwCl[6]? = some (RX6, TX6, 3)) inX6 (by decide) (xT_c1 42 rfl rfl) rfl, xq_37_5⟩
theorem xq_37_3 : xOKs xsg xm_37 xk_37_0 xk_37_3 := ⟨xok_ld (xl_aload_n (by decide +kernel : decode xm_37.2.1 5 = .ok (.aload_n 0, 1))) rfl, xq_37_4⟩
theorem xq_37_2 : xOKs xsg xm_37 xk_37_0 xk_37_2 := ⟨xok_ld (xl_iload_n (by decide +kernel : decode xm_37.2.1 4 = .ok (.iload_n 1, 1))) rfl, xq_37_3⟩
theorem xq_37_1 : xOKs xsg xm_37 xk_37_0 xk_37_1 := ⟨xok_br (tgt := 22) (xb_lt (by decide +kernel : decode xm_37.2.1 1 = .ok (.ifCond .lt 21, 3)) (by decide)) (by decide +kernel) rfl, xq_37_2⟩
theorem xq_37_0 : xOKs xsg xm_37 xk_37_0 xk_37_0 := ⟨xok_ld (xl_iload_n (by decide +kernel : decode xm_37.2.1 0 = .ok (.iload_n 1, 1))) rfl, xq_37_1⟩
theorem xz_37 : xwf xsg xm_37 xk_37_0 := ⟨xq_37_0, rfl, by decide⟩
/-! FeatherBench$Row.set(II)V -/
theorem xq_38_35 : xOKs xsg xm_38 xk_38_0 xk_38_35 := trivial
theorem xq_38_34 : xOKs xsg xm_38 xk_38_0 xk_38_34 := ⟨xok_ret0 (by decide +kernel : decode xm_38.2.1 60 = .ok (.return_, 1)) rfl, xq_38_35⟩
theorem xq_38_33 : xOKs xsg xm_38 xk_38_0 xk_38_33 := ⟨xok_ias (by decide +kernel : decode xm_38.2.1 59 = .ok (.iastore, 1)) rfl, xq_38_34⟩
theorem xq_38_32 : xOKs xsg xm_38 xk_38_0 xk_38_32 := ⟨xok_ld (xl_iload_n (by decide +kernel : decode xm_38.2.1 58 = .ok (.iload_n 2, 1))) rfl, xq_38_33⟩
theorem xq_38_31 : xOKs xsg xm_38 xk_38_0 xk_38_31 := ⟨xok_ld (xl_iload_n (by decide +kernel : decode xm_38.2.1 57 = .ok (.iload_n 1, 1))) rfl, xq_38_32⟩
theorem xq_38_30 : xOKs xsg xm_38 xk_38_0 xk_38_30 := ⟨xok_get (by decide +kernel : decode xm_38.2.1 54 = .ok (.getfield 22, 3)) (rfl : vwCl[6]? = some (RX6, TX6, 3)) inX6 (by decide) (xT_c1 42 rfl rfl) rfl, xq_38_31⟩
theorem xq_38_29 : xOKs xsg xm_38 xk_38_0 xk_38_29 := ⟨xok_ld (xl_aload_n (by decide +kernel : decode xm_38.2.1 53 = .ok (.aload_n 0, 1))) rfl, xq_38_30⟩
theorem xq_38_28 : xOKs xsg xm_38 xk_38_0 xk_38_28 := ⟨xok_none, xq_38_29⟩
theorem xq_38_27 : xOKs xsg xm_38 xk_38_0 xk_38_27 := ⟨xok_none, xq_38_28⟩
theorem xq_38_26 : xOKs xsg xm_38 xk_38_0 xk_38_26 := ⟨xok_none, xq_38_27⟩
theorem xq_38_25 : xOKs xsg xm_38 xk_38_0 xk_38_25 := ⟨xok_none, xq_38_26⟩
theorem xq_38_24 : xOKs xsg xm_38 xk_38_0 xk_38_24 := ⟨xok_none, xq_38_25⟩
theorem xq_38_23 : xOKs xsg xm_38 xk_38_0 xk_38_23 := ⟨xok_none, xq_38_24⟩
theorem xq_38_22 : xOKs xsg xm_38 xk_38_0 xk_38_22 := ⟨xok_none, xq_38_23⟩
theorem xq_38_21 : xOKs xsg xm_38 xk_38_0 xk_38_21 := ⟨xok_none, xq_38_22⟩
theorem xq_38_20 : xOKs xsg xm_38 xk_38_0 xk_38_20 := ⟨xok_none, xq_38_21⟩
theorem xq_38_19 : xOKs xsg xm_38 xk_38_0 xk_38_19 := ⟨xok_none, xq_38_20⟩
theorem xq_38_18 : xOKs xsg xm_38 xk_38_0 xk_38_18 := ⟨xok_none, xq_38_19⟩
theorem xq_38_17 : xOKs xsg xm_38 xk_38_0 xk_38_17 := ⟨xok_none, xq_38_18⟩
theorem xq_38_16 : xOKs xsg xm_38 xk_38_0 xk_38_16 := ⟨xok_none, xq_38_17⟩
theorem xq_38_15 : xOKs xsg xm_38 xk_38_0 xk_38_15 := ⟨xok_none, xq_38_16⟩
theorem xq_38_14 : xOKs xsg xm_38 xk_38_0 xk_38_14 := ⟨xok_none, xq_38_15⟩
theorem xq_38_13 : xOKs xsg xm_38 xk_38_0 xk_38_13 := ⟨xok_none, xq_38_14⟩
theorem xq_38_12 : xOKs xsg xm_38 xk_38_0 xk_38_12 := ⟨xok_none, xq_38_13⟩
theorem xq_38_11 : xOKs xsg xm_38 xk_38_0 xk_38_11 := ⟨xok_br (tgt := 53) (xb_ilt (by decide +kernel : decode xm_38.2.1 19 = .ok (.if_icmp .lt 34, 3)) (by decide)) (by decide +kernel) rfl, xq_38_12⟩
theorem xq_38_10 : xOKs xsg xm_38 xk_38_0 xk_38_10 := ⟨xok_len (by decide +kernel : decode xm_38.2.1 18 = .ok (.arraylength, 1)) rfl, xq_38_11⟩
theorem xq_38_9 : xOKs xsg xm_38 xk_38_0 xk_38_9 := ⟨xok_get (by decide +kernel : decode xm_38.2.1 15 = .ok (.getfield 22, 3)) (rfl : vwCl[6]? = some (RX6, TX6, 3)) inX6 (by decide) (xT_c1 42 rfl rfl) rfl, xq_38_10⟩
theorem xq_38_8 : xOKs xsg xm_38 xk_38_0 xk_38_8 := ⟨xok_ld (xl_aload_n (by decide +kernel : decode xm_38.2.1 14 = .ok (.aload_n 0, 1))) rfl, xq_38_9⟩
theorem xq_38_7 : xOKs xsg xm_38 xk_38_0 xk_38_7 := ⟨xok_ld (xl_iload_n (by decide +kernel : decode xm_38.2.1 13 = .ok (.iload_n 1, 1))) rfl, xq_38_8⟩
theorem xq_38_6 : xOKs xsg xm_38 xk_38_0 xk_38_6 := ⟨xok_none, xq_38_7⟩
theorem xq_38_5 : xOKs xsg xm_38 xk_38_0 xk_38_5 := ⟨xok_br (tgt := 13) (xb_ilt (by decide +kernel : decode xm_38.2.1 9 = .ok (.if_icmp .lt 4, 3)) (by decide)) (by decide +kernel) rfl, xq_38_6⟩
theorem xq_38_4 : xOKs xsg xm_38 xk_38_0 xk_38_4 := ⟨xok_get (by decide +kernel : decode xm_38.2.1 6 = .ok (.getfield 13, 3)) (rfl : vwCl[6]? = some (RX6, TX6, 3)) inX6 (by decide) (xT_c1 41 rfl rfl) rfl, xq_38_5⟩
theorem xq_38_3 : xOKs xsg xm_38 xk_38_0 xk_38_3 := ⟨xok_ld (xl_aload_n (by decide +kernel : decode xm_38.2.1 5 = .ok (.aload_n 0, 1))) rfl, xq_38_4⟩
theorem xq_38_2 : xOKs xsg xm_38 xk_38_0 xk_38_2 := ⟨xok_ld (xl_iload_n (by decide +kernel : decode xm_38.2.1 4 = .ok (.iload_n 1, 1))) rfl, xq_38_3⟩
theorem xq_38_1 : xOKs xsg xm_38 xk_38_0 xk_38_1 := ⟨xok_br (tgt := 12) (xb_lt (by decide +kernel : decode xm_38.2.1 1 = .ok (.ifCond .lt 11, 3)) (by decide)) (by decide +kernel) rfl, xq_38_2⟩
theorem xq_38_0 : xOKs xsg xm_38 xk_38_0 xk_38_0 := ⟨xok_ld (xl_iload_n (by decide +kernel : decode xm_38.2.1 0 = .ok (.iload_n 1, 1))) rfl, xq_38_1⟩
theorem xz_38 : xwf xsg xm_38 xk_38_0 := ⟨xq_38_0, rfl, by decide⟩
/-! FeatherBench$Row.add(I)V -/
theorem xq_39_17 : xOKs xsg xm_39 xk_39_0 xk_39_17 := trivial
theorem xq_39_16 : xOKs xsg xm_39 xk_39_0 xk_39_16 := ⟨xok_ret0 (by decide +kernel : decode xm_39.2.1 30 = .ok (.return_, 1)) rfl, xq_39_17⟩
theorem xq_39_15 : xOKs xsg xm_39 xk_39_0 xk_39_15 := ⟨xok_put (by decide +kernel : decode xm_39.2.1 27 = .ok (.putfield 32, 3)) (rfl : vwCl[6]? = some (RX6, TX6, 3)) inX6 tyX6_ok nmX6 (k := 2) (by decide) rfl (xT_c1 47 rfl rfl) rfl, xq_39_16⟩
theorem xq_39_14 : xOKs xsg xm_39 xk_39_0 xk_39_14 := ⟨xok_p (xp_iadd (by decide +kernel : decode xm_39.2.1 26 = .ok (.iadd, 1))) rfl, xq_39_15⟩
theorem xq_39_13 : xOKs xsg xm_39 xk_39_0 xk_39_13 := ⟨xok_p (xp_iconst (v := 1) (by decide +kernel : decode xm_39.2.1 25 = .ok (.iconst 1, 1)) (by decide)) rfl, xq_39_14⟩
theorem xq_39_12 : xOKs xsg xm_39 xk_39_0 xk_39_12 := ⟨xok_get (by decide +kernel : decode xm_39.2.1 22 = .ok (.getfield 32, 3)) (rfl : vwCl[6]? = some (RX6, TX6, 3)) inX6 (by decide) (xT_c1 47 rfl rfl) rfl, xq_39_13⟩
theorem xq_39_11 : xOKs xsg xm_39 xk_39_0 xk_39_11 := ⟨xok_p (xp_dup (by decide +kernel : decode xm_39.2.1 21 = .ok (.dup, 1))) rfl, xq_39_12⟩
theorem xq_39_10 : xOKs xsg xm_39 xk_39_0 xk_39_10 := ⟨xok_ld (xl_aload_n (by decide +kernel : decode xm_39.2.1 20 = .ok (.aload_n 0, 1))) rfl, xq_39_11⟩
theorem xq_39_9 : xOKs xsg xm_39 xk_39_0 xk_39_9 := ⟨xok_callV (M' := xm_38) rfl (rfl : vwCl[6]? = some (RX6, TX6, 3)) (by decide +kernel : decode xm_39.2.1 17 = .ok (.invokevirtual 35, 3)) xn_38 (xT_c1 120 rfl rfl) (xT_c1 121 rfl rfl) (xT_c3 70 rfl rfl) rfl, xq_39_10⟩
theorem xq_39_8 : xOKs xsg xm_39 xk_39_0 xk_39_8 := ⟨xok_ld (xl_iload_n (by decide +kernel : decode xm_39.2.1 16 = .ok (.iload_n 1, 1))) rfl, xq_39_9⟩
theorem xq_39_7 : xOKs xsg xm_39 xk_39_0 xk_39_7 := ⟨xok_get (by decide +kernel : decode xm_39.2.1 13 = .ok (.getfield 32, 3)) (rfl : vwCl[6]? = some (RX6, TX6, 3)) inX6 (by decide) (xT_c1 47 rfl rfl) rfl, xq_39_8⟩
theorem xq_39_6 : xOKs xsg xm_39 xk_39_0 xk_39_6 := ⟨xok_ld (xl_aload_n (by decide +kernel : decode xm_39.2.1 12 = .ok (.aload_n 0, 1))) rfl, xq_39_7⟩
theorem xq_39_5 : xOKs xsg xm_39 xk_39_0 xk_39_5 := ⟨xok_ld (xl_aload_n (by decide +kernel : decode xm_39.2.1 11 = .ok (.aload_n 0, 1))) rfl, xq_39_6⟩
theorem xq_39_4 : xOKs xsg xm_39 xk_39_0 xk_39_4 := ⟨xok_br (tgt := 30) (xb_ige (by decide +kernel : decode xm_39.2.1 8 = .ok (.if_icmp .ge 22, 3)) (by decide)) (by decide +kernel) rfl, xq_39_5⟩
theorem xq_39_3 : xOKs xsg xm_39 xk_39_0 xk_39_3 := ⟨xok_get (by decide +kernel : decode xm_39.2.1 5 = .ok (.getfield 13, 3)) (rfl : vwCl[6]? = some (RX6, TX6, 3)) inX6 (by decide) (xT_c1 41 rfl rfl) rfl, xq_39_4⟩
theorem xq_39_2 : xOKs xsg xm_39 xk_39_0 xk_39_2 := ⟨xok_ld (xl_aload_n (by decide +kernel : decode xm_39.2.1 4 = .ok (.aload_n 0, 1))) rfl, xq_39_3⟩
theorem xq_39_1 : xOKs xsg xm_39 xk_39_0 xk_39_1 := ⟨xok_get (by decide +kernel : decode xm_39.2.1 1 = .ok (.getfield 32, 3)) (rfl : vwCl[6]? = some (RX6, TX6, 3)) inX6 (by decide) (xT_c1 47 rfl rfl) rfl, xq_39_2⟩
theorem xq_39_0 : xOKs xsg xm_39 xk_39_0 xk_39_0 := ⟨xok_ld (xl_aload_n (by decide +kernel : decode xm_39.2.1 0 = .ok (.aload_n 0, 1))) rfl, xq_39_1⟩
theorem xz_39 : xwf xsg xm_39 xk_39_0 := ⟨xq_39_0, rfl, by decide⟩
