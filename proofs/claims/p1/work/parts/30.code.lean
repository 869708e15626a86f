/-! FeatherBench.<init>()V -/
theorem xq_0_83 : xOKs xsg xm_0 xk_0_0 xk_0_83 := trivial
theorem xq_0_82 : xOKs xsg xm_0 xk_0_0 xk_0_82 := ⟨xok_ret0 (by decide +kernel : decode xm_0.2.1 168 = .ok (.return_, 1)) rfl, xq_0_83⟩
theorem xq_0_81 : xOKs xsg xm_0 xk_0_0 xk_0_81 := ⟨xok_putF (by decide +kernel : decode xm_0.2.1 165 = .ok (.putfield 88, 3)) (rfl : vwCl[11]? = some (RX11, TX11, 13)) inX11 tyX11_ok nmX11 (k := 8) (by decide) rfl rfl rfl (xT_c3 26 rfl rfl) rfl, xq_0_82⟩
theorem xq_0_80 : xOKs xsg xm_0 xk_0_0 xk_0_80 := ⟨xok_callI (M' := xm_19) rfl (by decide +kernel : decode xm_0.2.1 162 = .ok (.invokespecial 87, 3)) xn_19 rfl (xT_c2 239 rfl rfl) rfl (xT_c2 238 rfl rfl) rfl, xq_0_81⟩
theorem xq_0_79 : xOKs xsg xm_0 xk_0_0 xk_0_79 := ⟨xok_ld (xl_aload_n (by decide +kernel : decode xm_0.2.1 161 = .ok (.aload_n 1, 1))) rfl, xq_0_80⟩
theorem xq_0_78 : xOKs xsg xm_0 xk_0_0 xk_0_78 := ⟨xok_p (xp_dup (by decide +kernel : decode xm_0.2.1 160 = .ok (.dup, 1))) rfl, xq_0_79⟩
theorem xq_0_77 : xOKs xsg xm_0 xk_0_0 xk_0_77 := ⟨xok_new (by decide +kernel : decode xm_0.2.1 157 = .ok (.new 85, 3)) (rfl : vwCl[3]? = some (RX3, TX3, 4)) inX3 tyX3_ok xdf3_ok (fun _ _ => rfl) (xT_c2 236 rfl rfl) (xT_c2 237 rfl rfl) (xT_c1 15 rfl rfl) rfl, xq_0_78⟩
theorem xq_0_76 : xOKs xsg xm_0 xk_0_0 xk_0_76 := ⟨xok_ld (xl_aload_n (by decide +kernel : decode xm_0.2.1 156 = .ok (.aload_n 0, 1))) rfl, xq_0_77⟩
theorem xq_0_75 : xOKs xsg xm_0 xk_0_0 xk_0_75 := ⟨xok_putF (by decide +kernel : decode xm_0.2.1 153 = .ok (.putfield 81, 3)) (rfl : vwCl[11]? = some (RX11, TX11, 13)) inX11 tyX11_ok nmX11 (k := 7) (by decide) rfl rfl rfl (xT_c3 25 rfl rfl) rfl, xq_0_76⟩
theorem xq_0_74 : xOKs xsg xm_0 xk_0_0 xk_0_74 := ⟨xok_callI (M' := xm_44) rfl (by decide +kernel : decode xm_0.2.1 150 = .ok (.invokespecial 80, 3)) xn_44 rfl (xT_c2 194 rfl rfl) rfl (xT_c2 193 rfl rfl) rfl, xq_0_75⟩
theorem xq_0_73 : xOKs xsg xm_0 xk_0_0 xk_0_73 := ⟨xok_get (by decide +kernel : decode xm_0.2.1 147 = .ok (.getfield 33, 3)) (rfl : vwCl[11]? = some (RX11, TX11, 13)) inX11 (by decide) (xT_c3 19 rfl rfl) rfl, xq_0_74⟩
theorem xq_0_72 : xOKs xsg xm_0 xk_0_0 xk_0_72 := ⟨xok_ld (xl_aload_n (by decide +kernel : decode xm_0.2.1 146 = .ok (.aload_n 0, 1))) rfl, xq_0_73⟩
theorem xq_0_71 : xOKs xsg xm_0 xk_0_0 xk_0_71 := ⟨xok_ld (xl_aload_n (by decide +kernel : decode xm_0.2.1 145 = .ok (.aload_n 1, 1))) rfl, xq_0_72⟩
theorem xq_0_70 : xOKs xsg xm_0 xk_0_0 xk_0_70 := ⟨xok_p (xp_dup (by decide +kernel : decode xm_0.2.1 144 = .ok (.dup, 1))) rfl, xq_0_71⟩
theorem xq_0_69 : xOKs xsg xm_0 xk_0_0 xk_0_69 := ⟨xok_new (by decide +kernel : decode xm_0.2.1 141 = .ok (.new 78, 3)) (rfl : vwCl[8]? = some (RX8, TX8, 11)) inX8 tyX8_ok xdf8_ok (fun _ _ => rfl) (xT_c2 191 rfl rfl) (xT_c2 192 rfl rfl) (xT_c1 14 rfl rfl) rfl, xq_0_70⟩
theorem xq_0_68 : xOKs xsg xm_0 xk_0_0 xk_0_68 := ⟨xok_ld (xl_aload_n (by decide +kernel : decode xm_0.2.1 140 = .ok (.aload_n 0, 1))) rfl, xq_0_69⟩
theorem xq_0_67 : xOKs xsg xm_0 xk_0_0 xk_0_67 := ⟨xok_putF (by decide +kernel : decode xm_0.2.1 137 = .ok (.putfield 74, 3)) (rfl : vwCl[11]? = some (RX11, TX11, 13)) inX11 tyX11_ok nmX11 (k := 6) (by decide) rfl rfl rfl (xT_c3 24 rfl rfl) rfl, xq_0_68⟩
theorem xq_0_66 : xOKs xsg xm_0 xk_0_0 xk_0_66 := ⟨xok_callI (M' := xm_18) rfl (by decide +kernel : decode xm_0.2.1 134 = .ok (.invokespecial 73, 3)) xn_18 rfl (xT_c2 132 rfl rfl) rfl (xT_c2 131 rfl rfl) rfl, xq_0_67⟩
theorem xq_0_65 : xOKs xsg xm_0 xk_0_0 xk_0_65 := ⟨xok_get (by decide +kernel : decode xm_0.2.1 131 = .ok (.getfield 33, 3)) (rfl : vwCl[11]? = some (RX11, TX11, 13)) inX11 (by decide) (xT_c3 19 rfl rfl) rfl, xq_0_66⟩
theorem xq_0_64 : xOKs xsg xm_0 xk_0_0 xk_0_64 := ⟨xok_ld (xl_aload_n (by decide +kernel : decode xm_0.2.1 130 = .ok (.aload_n 0, 1))) rfl, xq_0_65⟩
theorem xq_0_63 : xOKs xsg xm_0 xk_0_0 xk_0_63 := ⟨xok_ld (xl_aload_n (by decide +kernel : decode xm_0.2.1 129 = .ok (.aload_n 1, 1))) rfl, xq_0_64⟩
theorem xq_0_62 : xOKs xsg xm_0 xk_0_0 xk_0_62 := ⟨xok_p (xp_dup (by decide +kernel : decode xm_0.2.1 128 = .ok (.dup, 1))) rfl, xq_0_63⟩
theorem xq_0_61 : xOKs xsg xm_0 xk_0_0 xk_0_61 := ⟨xok_new (by decide +kernel : decode xm_0.2.1 125 = .ok (.new 71, 3)) (rfl : vwCl[2]? = some (RX2, TX2, 15)) inX2 tyX2_ok xdf2_ok (fun _ _ => rfl) (xT_c2 129 rfl rfl) (xT_c2 130 rfl rfl) (xT_c1 13 rfl rfl) rfl, xq_0_62⟩
theorem xq_0_60 : xOKs xsg xm_0 xk_0_0 xk_0_60 := ⟨xok_ld (xl_aload_n (by decide +kernel : decode xm_0.2.1 124 = .ok (.aload_n 0, 1))) rfl, xq_0_61⟩
theorem xq_0_59 : xOKs xsg xm_0 xk_0_0 xk_0_59 := ⟨xok_putF (by decide +kernel : decode xm_0.2.1 121 = .ok (.putfield 67, 3)) (rfl : vwCl[11]? = some (RX11, TX11, 13)) inX11 tyX11_ok nmX11 (k := 5) (by decide) rfl rfl rfl (xT_c3 23 rfl rfl) rfl, xq_0_60⟩
theorem xq_0_58 : xOKs xsg xm_0 xk_0_0 xk_0_58 := ⟨xok_callI (M' := xm_15) rfl (by decide +kernel : decode xm_0.2.1 118 = .ok (.invokespecial 64, 3)) xn_15 rfl (xT_c2 97 rfl rfl) rfl (xT_c2 96 rfl rfl) rfl, xq_0_59⟩
theorem xq_0_57 : xOKs xsg xm_0 xk_0_0 xk_0_57 := ⟨xok_get (by decide +kernel : decode xm_0.2.1 115 = .ok (.getfield 49, 3)) (rfl : vwCl[11]? = some (RX11, TX11, 13)) inX11 (by decide) (xT_c3 21 rfl rfl) rfl, xq_0_58⟩
theorem xq_0_56 : xOKs xsg xm_0 xk_0_0 xk_0_56 := ⟨xok_ld (xl_aload_n (by decide +kernel : decode xm_0.2.1 114 = .ok (.aload_n 0, 1))) rfl, xq_0_57⟩
theorem xq_0_55 : xOKs xsg xm_0 xk_0_0 xk_0_55 := ⟨xok_get (by decide +kernel : decode xm_0.2.1 111 = .ok (.getfield 33, 3)) (rfl : vwCl[11]? = some (RX11, TX11, 13)) inX11 (by decide) (xT_c3 19 rfl rfl) rfl, xq_0_56⟩
theorem xq_0_54 : xOKs xsg xm_0 xk_0_0 xk_0_54 := ⟨xok_ld (xl_aload_n (by decide +kernel : decode xm_0.2.1 110 = .ok (.aload_n 0, 1))) rfl, xq_0_55⟩
theorem xq_0_53 : xOKs xsg xm_0 xk_0_0 xk_0_53 := ⟨xok_p (xp_dup (by decide +kernel : decode xm_0.2.1 109 = .ok (.dup, 1))) rfl, xq_0_54⟩
theorem xq_0_52 : xOKs xsg xm_0 xk_0_0 xk_0_52 := ⟨xok_new (by decide +kernel : decode xm_0.2.1 106 = .ok (.new 62, 3)) (rfl : vwCl[0]? = some (RX0, TX0, 7)) inX0 tyX0_ok xdf0_ok (fun _ _ => rfl) (xT_c2 94 rfl rfl) (xT_c2 95 rfl rfl) (xT_c1 12 rfl rfl) rfl, xq_0_53⟩
theorem xq_0_51 : xOKs xsg xm_0 xk_0_0 xk_0_51 := ⟨xok_ld (xl_aload_n (by decide +kernel : decode xm_0.2.1 105 = .ok (.aload_n 0, 1))) rfl, xq_0_52⟩
theorem xq_0_50 : xOKs xsg xm_0 xk_0_0 xk_0_50 := ⟨xok_putF (by decide +kernel : decode xm_0.2.1 102 = .ok (.putfield 58, 3)) (rfl : vwCl[11]? = some (RX11, TX11, 13)) inX11 tyX11_ok nmX11 (k := 4) (by decide) rfl rfl rfl (xT_c3 22 rfl rfl) rfl, xq_0_51⟩
theorem xq_0_49 : xOKs xsg xm_0 xk_0_0 xk_0_49 := ⟨xok_callI (M' := xm_16) rfl (by decide +kernel : decode xm_0.2.1 99 = .ok (.invokespecial 55, 3)) xn_16 rfl (xT_c2 66 rfl rfl) rfl (xT_c2 65 rfl rfl) rfl, xq_0_50⟩
theorem xq_0_48 : xOKs xsg xm_0 xk_0_0 xk_0_48 := ⟨xok_get (by decide +kernel : decode xm_0.2.1 96 = .ok (.getfield 49, 3)) (rfl : vwCl[11]? = some (RX11, TX11, 13)) inX11 (by decide) (xT_c3 21 rfl rfl) rfl, xq_0_49⟩
theorem xq_0_47 : xOKs xsg xm_0 xk_0_0 xk_0_47 := ⟨xok_ld (xl_aload_n (by decide +kernel : decode xm_0.2.1 95 = .ok (.aload_n 0, 1))) rfl, xq_0_48⟩
theorem xq_0_46 : xOKs xsg xm_0 xk_0_0 xk_0_46 := ⟨xok_get (by decide +kernel : decode xm_0.2.1 92 = .ok (.getfield 33, 3)) (rfl : vwCl[11]? = some (RX11, TX11, 13)) inX11 (by decide) (xT_c3 19 rfl rfl) rfl, xq_0_47⟩
theorem xq_0_45 : xOKs xsg xm_0 xk_0_0 xk_0_45 := ⟨xok_ld (xl_aload_n (by decide +kernel : decode xm_0.2.1 91 = .ok (.aload_n 0, 1))) rfl, xq_0_46⟩
theorem xq_0_44 : xOKs xsg xm_0 xk_0_0 xk_0_44 := ⟨xok_ld (xl_aload_n (by decide +kernel : decode xm_0.2.1 90 = .ok (.aload_n 1, 1))) rfl, xq_0_45⟩
theorem xq_0_43 : xOKs xsg xm_0 xk_0_0 xk_0_43 := ⟨xok_p (xp_dup (by decide +kernel : decode xm_0.2.1 89 = .ok (.dup, 1))) rfl, xq_0_44⟩
theorem xq_0_42 : xOKs xsg xm_0 xk_0_0 xk_0_42 := ⟨xok_new (by decide +kernel : decode xm_0.2.1 86 = .ok (.new 53, 3)) (rfl : vwCl[1]? = some (RX1, TX1, 8)) inX1 tyX1_ok xdf1_ok (fun _ _ => rfl) (xT_c2 63 rfl rfl) (xT_c2 64 rfl rfl) (xT_c1 11 rfl rfl) rfl, xq_0_43⟩
theorem xq_0_41 : xOKs xsg xm_0 xk_0_0 xk_0_41 := ⟨xok_ld (xl_aload_n (by decide +kernel : decode xm_0.2.1 85 = .ok (.aload_n 0, 1))) rfl, xq_0_42⟩
theorem xq_0_40 : xOKs xsg xm_0 xk_0_0 xk_0_40 := ⟨xok_putF (by decide +kernel : decode xm_0.2.1 82 = .ok (.putfield 49, 3)) (rfl : vwCl[11]? = some (RX11, TX11, 13)) inX11 tyX11_ok nmX11 (k := 3) (by decide) rfl rfl rfl (xT_c3 21 rfl rfl) rfl, xq_0_41⟩
theorem xq_0_39 : xOKs xsg xm_0 xk_0_0 xk_0_39 := ⟨xok_callI (M' := xm_48) rfl (by decide +kernel : decode xm_0.2.1 79 = .ok (.invokespecial 46, 3)) xn_48 rfl (xT_c2 50 rfl rfl) rfl (xT_c2 49 rfl rfl) rfl, xq_0_40⟩
theorem xq_0_38 : xOKs xsg xm_0 xk_0_0 xk_0_38 := ⟨xok_get (by decide +kernel : decode xm_0.2.1 76 = .ok (.getfield 33, 3)) (rfl : vwCl[11]? = some (RX11, TX11, 13)) inX11 (by decide) (xT_c3 19 rfl rfl) rfl, xq_0_39⟩
theorem xq_0_37 : xOKs xsg xm_0 xk_0_0 xk_0_37 := ⟨xok_ld (xl_aload_n (by decide +kernel : decode xm_0.2.1 75 = .ok (.aload_n 0, 1))) rfl, xq_0_38⟩
theorem xq_0_36 : xOKs xsg xm_0 xk_0_0 xk_0_36 := ⟨xok_ld (xl_aload_n (by decide +kernel : decode xm_0.2.1 74 = .ok (.aload_n 1, 1))) rfl, xq_0_37⟩
theorem xq_0_35 : xOKs xsg xm_0 xk_0_0 xk_0_35 := ⟨xok_p (xp_dup (by decide +kernel : decode xm_0.2.1 73 = .ok (.dup, 1))) rfl, xq_0_36⟩
theorem xq_0_34 : xOKs xsg xm_0 xk_0_0 xk_0_34 := ⟨xok_new (by decide +kernel : decode xm_0.2.1 70 = .ok (.new 44, 3)) (rfl : vwCl[10]? = some (RX10, TX10, 3)) inX10 tyX10_ok xdf10_ok (fun _ _ => rfl) (xT_c2 47 rfl rfl) (xT_c2 48 rfl rfl) (xT_c1 10 rfl rfl) rfl, xq_0_35⟩
theorem xq_0_33 : xOKs xsg xm_0 xk_0_0 xk_0_33 := ⟨xok_ld (xl_aload_n (by decide +kernel : decode xm_0.2.1 69 = .ok (.aload_n 0, 1))) rfl, xq_0_34⟩
theorem xq_0_32 : xOKs xsg xm_0 xk_0_0 xk_0_32 := ⟨xok_putF (by decide +kernel : decode xm_0.2.1 66 = .ok (.putfield 40, 3)) (rfl : vwCl[11]? = some (RX11, TX11, 13)) inX11 tyX11_ok nmX11 (k := 2) (by decide) rfl rfl rfl (xT_c3 20 rfl rfl) rfl, xq_0_33⟩
theorem xq_0_31 : xOKs xsg xm_0 xk_0_0 xk_0_31 := ⟨xok_callI (M' := xm_29) rfl (by decide +kernel : decode xm_0.2.1 63 = .ok (.invokespecial 39, 3)) xn_29 rfl (xT_c2 31 rfl rfl) rfl (xT_c2 30 rfl rfl) rfl, xq_0_32⟩
theorem xq_0_30 : xOKs xsg xm_0 xk_0_0 xk_0_30 := ⟨xok_ld (xl_aload_n (by decide +kernel : decode xm_0.2.1 62 = .ok (.aload_n 1, 1))) rfl, xq_0_31⟩
theorem xq_0_29 : xOKs xsg xm_0 xk_0_0 xk_0_29 := ⟨xok_p (xp_dup (by decide +kernel : decode xm_0.2.1 61 = .ok (.dup, 1))) rfl, xq_0_30⟩
theorem xq_0_28 : xOKs xsg xm_0 xk_0_0 xk_0_28 := ⟨xok_new (by decide +kernel : decode xm_0.2.1 58 = .ok (.new 37, 3)) (rfl : vwCl[5]? = some (RX5, TX5, 4)) inX5 tyX5_ok xdf5_ok (fun _ _ => rfl) (xT_c2 28 rfl rfl) (xT_c2 29 rfl rfl) (xT_c1 9 rfl rfl) rfl, xq_0_29⟩
theorem xq_0_27 : xOKs xsg xm_0 xk_0_0 xk_0_27 := ⟨xok_ld (xl_aload_n (by decide +kernel : decode xm_0.2.1 57 = .ok (.aload_n 0, 1))) rfl, xq_0_28⟩
theorem xq_0_26 : xOKs xsg xm_0 xk_0_0 xk_0_26 := ⟨xok_putF (by decide +kernel : decode xm_0.2.1 54 = .ok (.putfield 33, 3)) (rfl : vwCl[11]? = some (RX11, TX11, 13)) inX11 tyX11_ok nmX11 (k := 1) (by decide) rfl rfl rfl (xT_c3 19 rfl rfl) rfl, xq_0_27⟩
theorem xq_0_25 : xOKs xsg xm_0 xk_0_0 xk_0_25 := ⟨xok_callI (M' := xm_41) rfl (by decide +kernel : decode xm_0.2.1 51 = .ok (.invokespecial 30, 3)) xn_41 rfl (xT_c1 222 rfl rfl) rfl (xT_c1 221 rfl rfl) rfl, xq_0_26⟩
theorem xq_0_24 : xOKs xsg xm_0 xk_0_0 xk_0_24 := ⟨xok_ld (xl_aload_n (by decide +kernel : decode xm_0.2.1 50 = .ok (.aload_n 1, 1))) rfl, xq_0_25⟩
theorem xq_0_23 : xOKs xsg xm_0 xk_0_0 xk_0_23 := ⟨xok_p (xp_dup (by decide +kernel : decode xm_0.2.1 49 = .ok (.dup, 1))) rfl, xq_0_24⟩
theorem xq_0_22 : xOKs xsg xm_0 xk_0_0 xk_0_22 := ⟨xok_new (by decide +kernel : decode xm_0.2.1 46 = .ok (.new 28, 3)) (rfl : vwCl[7]? = some (RX7, TX7, 10)) inX7 tyX7_ok xdf7_ok (fun _ _ => rfl) (xT_c1 219 rfl rfl) (xT_c1 220 rfl rfl) (xT_c1 8 rfl rfl) rfl, xq_0_23⟩
theorem xq_0_21 : xOKs xsg xm_0 xk_0_0 xk_0_21 := ⟨xok_ld (xl_aload_n (by decide +kernel : decode xm_0.2.1 45 = .ok (.aload_n 0, 1))) rfl, xq_0_22⟩
theorem xq_0_20 : xOKs xsg xm_0 xk_0_0 xk_0_20 := ⟨xok_put (by decide +kernel : decode xm_0.2.1 42 = .ok (.putfield 25, 3)) (rfl : vwCl[11]? = some (RX11, TX11, 13)) inX11 tyX11_ok nmX11 (k := 10) (by decide) rfl (xT_c3 28 rfl rfl) rfl, xq_0_21⟩
theorem xq_0_19 : xOKs xsg xm_0 xk_0_0 xk_0_19 := ⟨xok_callI (M' := xm_20) rfl (by decide +kernel : decode xm_0.2.1 39 = .ok (.invokespecial 20, 3)) xn_20 rfl (xT_c1 62 rfl rfl) rfl (xT_c1 61 rfl rfl) rfl, xq_0_20⟩
theorem xq_0_18 : xOKs xsg xm_0 xk_0_0 xk_0_18 := ⟨xok_p (xp_dup (by decide +kernel : decode xm_0.2.1 38 = .ok (.dup, 1))) rfl, xq_0_19⟩
theorem xq_0_17 : xOKs xsg xm_0 xk_0_0 xk_0_17 := ⟨xok_new (by decide +kernel : decode xm_0.2.1 35 = .ok (.new 18, 3)) (rfl : vwCl[4]? = some (RX4, TX4, 15)) inX4 tyX4_ok xdf4_ok (fun _ _ => rfl) (xT_c1 59 rfl rfl) (xT_c1 60 rfl rfl) (xT_c1 4 rfl rfl) rfl, xq_0_18⟩
theorem xq_0_16 : xOKs xsg xm_0 xk_0_0 xk_0_16 := ⟨xok_ld (xl_aload_n (by decide +kernel : decode xm_0.2.1 34 = .ok (.aload_n 0, 1))) rfl, xq_0_17⟩
theorem xq_0_15 : xOKs xsg xm_0 xk_0_0 xk_0_15 := ⟨xok_put (by decide +kernel : decode xm_0.2.1 31 = .ok (.putfield 21, 3)) (rfl : vwCl[11]? = some (RX11, TX11, 13)) inX11 tyX11_ok nmX11 (k := 9) (by decide) rfl (xT_c3 27 rfl rfl) rfl, xq_0_16⟩
theorem xq_0_14 : xOKs xsg xm_0 xk_0_0 xk_0_14 := ⟨xok_ld (xl_aload_n (by decide +kernel : decode xm_0.2.1 30 = .ok (.aload_n 1, 1))) rfl, xq_0_15⟩
theorem xq_0_13 : xOKs xsg xm_0 xk_0_0 xk_0_13 := ⟨xok_ld (xl_aload_n (by decide +kernel : decode xm_0.2.1 29 = .ok (.aload_n 0, 1))) rfl, xq_0_14⟩
theorem xq_0_12 : xOKs xsg xm_0 xk_0_0 xk_0_12 := ⟨xok_st (xs_astore_n (by decide +kernel : decode xm_0.2.1 28 = .ok (.astore_n 1, 1)) (by decide)) rfl, xq_0_13⟩
theorem xq_0_11 : xOKs xsg xm_0 xk_0_0 xk_0_11 := ⟨xok_callI (M' := xm_20) rfl (by decide +kernel : decode xm_0.2.1 25 = .ok (.invokespecial 20, 3)) xn_20 rfl (xT_c1 62 rfl rfl) rfl (xT_c1 61 rfl rfl) rfl, xq_0_12⟩
theorem xq_0_10 : xOKs xsg xm_0 xk_0_0 xk_0_10 := ⟨xok_p (xp_dup (by decide +kernel : decode xm_0.2.1 24 = .ok (.dup, 1))) rfl, xq_0_11⟩
theorem xq_0_9 : xOKs xsg xm_0 xk_0_0 xk_0_9 := ⟨xok_new (by decide +kernel : decode xm_0.2.1 21 = .ok (.new 18, 3)) (rfl : vwCl[4]? = some (RX4, TX4, 15)) inX4 tyX4_ok xdf4_ok (fun _ _ => rfl) (xT_c1 59 rfl rfl) (xT_c1 60 rfl rfl) (xT_c1 4 rfl rfl) rfl, xq_0_10⟩
theorem xq_0_8 : xOKs xsg xm_0 xk_0_0 xk_0_8 := ⟨xok_putF (by decide +kernel : decode xm_0.2.1 18 = .ok (.putfield 14, 3)) (rfl : vwCl[11]? = some (RX11, TX11, 13)) inX11 tyX11_ok nmX11 (k := 0) (by decide) rfl rfl rfl (xT_c3 18 rfl rfl) rfl, xq_0_9⟩
theorem xq_0_7 : xOKs xsg xm_0 xk_0_0 xk_0_7 := ⟨xok_callI (M' := xm_36) rfl (by decide +kernel : decode xm_0.2.1 15 = .ok (.invokespecial 11, 3)) xn_36 rfl (xT_c1 32 rfl rfl) rfl (xT_c1 31 rfl rfl) rfl, xq_0_8⟩
theorem xq_0_6 : xOKs xsg xm_0 xk_0_0 xk_0_6 := ⟨xok_p (xp_sipush (v := 4000) (by decide +kernel : decode xm_0.2.1 12 = .ok (.sipush 4000, 3)) (by decide)) rfl, xq_0_7⟩
theorem xq_0_5 : xOKs xsg xm_0 xk_0_0 xk_0_5 := ⟨xok_p (xp_sipush (v := 600) (by decide +kernel : decode xm_0.2.1 9 = .ok (.sipush 600, 3)) (by decide)) rfl, xq_0_6⟩
theorem xq_0_4 : xOKs xsg xm_0 xk_0_0 xk_0_4 := ⟨xok_p (xp_dup (by decide +kernel : decode xm_0.2.1 8 = .ok (.dup, 1))) rfl, xq_0_5⟩
theorem xq_0_3 : xOKs xsg xm_0 xk_0_0 xk_0_3 := ⟨xok_new (by decide +kernel : decode xm_0.2.1 5 = .ok (.new 9, 3)) (rfl : vwCl[6]? = some (RX6, TX6, 3)) inX6 tyX6_ok xdf6_ok (fun _ _ => rfl) (xT_c1 29 rfl rfl) (xT_c1 30 rfl rfl) (xT_c1 2 rfl rfl) rfl, xq_0_4⟩
theorem xq_0_2 : xOKs xsg xm_0 xk_0_0 xk_0_2 := ⟨xok_ld (xl_aload_n (by decide +kernel : decode xm_0.2.1 4 = .ok (.aload_n 0, 1))) rfl, xq_0_3⟩
theorem xq_0_1 : xOKs xsg xm_0 xk_0_0 xk_0_1 := ⟨xok_obj (by decide +kernel : decode xm_0.2.1 1 = .ok (.invokespecial 3, 3)) (xT_c1 26 rfl rfl) xw_o2 xw_o3 rfl, xq_0_2⟩
theorem xq_0_0 : xOKs xsg xm_0 xk_0_0 xk_0_0 := ⟨xok_ld (xl_aload_n (by decide +kernel : decode xm_0.2.1 0 = .ok (.aload_n 0, 1))) rfl, xq_0_1⟩
theorem xz_0 : xwf xsg xm_0 xk_0_0 := ⟨xq_0_0, rfl, by decide⟩
/-! FeatherBench.feed(JJJ)I -/
theorem xq_1_13 : xOKs xsg xm_1 xk_1_0 xk_1_13 := trivial
theorem xq_1_12 : xOKs xsg xm_1 xk_1_0 xk_1_12 := ⟨xok_retI (by decide +kernel : decode xm_1.2.1 23 = .ok (.ireturn, 1)) rfl, xq_1_13⟩
theorem xq_1_11 : xOKs xsg xm_1 xk_1_0 xk_1_11 := ⟨xok_getN (by decide +kernel : decode xm_1.2.1 20 = .ok (.getfield 96, 3)) (rfl : vwCl[6]? = some (RX6, TX6, 3)) inX6 (by decide) (xN_c1 44 rfl rfl) rfl, xq_1_12⟩
theorem xq_1_10 : xOKs xsg xm_1 xk_1_0 xk_1_10 := ⟨xok_get (by decide +kernel : decode xm_1.2.1 17 = .ok (.getfield 14, 3)) (rfl : vwCl[11]? = some (RX11, TX11, 13)) inX11 (by decide) (xT_c3 18 rfl rfl) rfl, xq_1_11⟩
theorem xq_1_9 : xOKs xsg xm_1 xk_1_0 xk_1_9 := ⟨xok_ld (xl_aload_n (by decide +kernel : decode xm_1.2.1 16 = .ok (.aload_n 0, 1))) rfl, xq_1_10⟩
theorem xq_1_8 : xOKs xsg xm_1 xk_1_0 xk_1_8 := ⟨xok_callV (M' := xm_13) rfl (rfl : vwCl[11]? = some (RX11, TX11, 13)) (by decide +kernel : decode xm_1.2.1 13 = .ok (.invokevirtual 92, 3)) xn_13 (xT_c3 64 rfl rfl) (xT_c0 0 rfl rfl) (xT_c3 62 rfl rfl) rfl, xq_1_9⟩
theorem xq_1_7 : xOKs xsg xm_1 xk_1_0 xk_1_7 := ⟨xok_ld (xl_lload (by decide +kernel : decode xm_1.2.1 11 = .ok (.lload 5, 2))) rfl, xq_1_8⟩
theorem xq_1_6 : xOKs xsg xm_1 xk_1_0 xk_1_6 := ⟨xok_ld (xl_aload_n (by decide +kernel : decode xm_1.2.1 10 = .ok (.aload_n 0, 1))) rfl, xq_1_7⟩
theorem xq_1_5 : xOKs xsg xm_1 xk_1_0 xk_1_5 := ⟨xok_callV (M' := xm_13) rfl (rfl : vwCl[11]? = some (RX11, TX11, 13)) (by decide +kernel : decode xm_1.2.1 7 = .ok (.invokevirtual 92, 3)) xn_13 (xT_c3 64 rfl rfl) (xT_c0 0 rfl rfl) (xT_c3 62 rfl rfl) rfl, xq_1_6⟩
theorem xq_1_4 : xOKs xsg xm_1 xk_1_0 xk_1_4 := ⟨xok_ld (xl_lload_n (by decide +kernel : decode xm_1.2.1 6 = .ok (.lload_n 3, 1))) rfl, xq_1_5⟩
theorem xq_1_3 : xOKs xsg xm_1 xk_1_0 xk_1_3 := ⟨xok_ld (xl_aload_n (by decide +kernel : decode xm_1.2.1 5 = .ok (.aload_n 0, 1))) rfl, xq_1_4⟩
theorem xq_1_2 : xOKs xsg xm_1 xk_1_0 xk_1_2 := ⟨xok_callV (M' := xm_13) rfl (rfl : vwCl[11]? = some (RX11, TX11, 13)) (by decide +kernel : decode xm_1.2.1 2 = .ok (.invokevirtual 92, 3)) xn_13 (xT_c3 64 rfl rfl) (xT_c0 0 rfl rfl) (xT_c3 62 rfl rfl) rfl, xq_1_3⟩
theorem xq_1_1 : xOKs xsg xm_1 xk_1_0 xk_1_1 := ⟨xok_ld (xl_lload_n (by decide +kernel : decode xm_1.2.1 1 = .ok (.lload_n 1, 1))) rfl, xq_1_2⟩
theorem xq_1_0 : xOKs xsg xm_1 xk_1_0 xk_1_0 := ⟨xok_ld (xl_aload_n (by decide +kernel : decode xm_1.2.1 0 = .ok (.aload_n 0, 1))) rfl, xq_1_1⟩
theorem xz_1 : xwf xsg xm_1 xk_1_0 := ⟨xq_1_0, rfl, by decide⟩
/-! FeatherBench.program()I -/
theorem xq_2_46 : xOKs xsg xm_2 xk_2_0 xk_2_46 := trivial
theorem xq_2_45 : xOKs xsg xm_2 xk_2_0 xk_2_45 := ⟨xok_none, xq_2_46⟩
theorem xq_2_44 : xOKs xsg xm_2 xk_2_0 xk_2_44 := ⟨xok_retI (by decide +kernel : decode xm_2.2.1 89 = .ok (.ireturn, 1)) rfl, xq_2_45⟩
theorem xq_2_43 : xOKs xsg xm_2 xk_2_0 xk_2_43 := ⟨xok_getN (by decide +kernel : decode xm_2.2.1 86 = .ok (.getfield 129, 3)) (rfl : vwCl[4]? = some (RX4, TX4, 15)) inX4 (by decide) (xN_c1 187 rfl rfl) rfl, xq_2_44⟩
theorem xq_2_42 : xOKs xsg xm_2 xk_2_0 xk_2_42 := ⟨xok_ld (xl_aload_n (by decide +kernel : decode xm_2.2.1 85 = .ok (.aload_n 1, 1))) rfl, xq_2_43⟩
theorem xq_2_41 : xOKs xsg xm_2 xk_2_0 xk_2_41 := ⟨xok_br (tgt := 90) (xb_eq (by decide +kernel : decode xm_2.2.1 82 = .ok (.ifCond .eq 8, 3)) (by decide)) (by decide +kernel) rfl, xq_2_42⟩
theorem xq_2_40 : xOKs xsg xm_2 xk_2_0 xk_2_40 := ⟨xok_getN (by decide +kernel : decode xm_2.2.1 79 = .ok (.getfield 129, 3)) (rfl : vwCl[4]? = some (RX4, TX4, 15)) inX4 (by decide) (xN_c1 187 rfl rfl) rfl, xq_2_41⟩
theorem xq_2_39 : xOKs xsg xm_2 xk_2_0 xk_2_39 := ⟨xok_ld (xl_aload_n (by decide +kernel : decode xm_2.2.1 78 = .ok (.aload_n 1, 1))) rfl, xq_2_40⟩
theorem xq_2_38 : xOKs xsg xm_2 xk_2_0 xk_2_38 := ⟨xok_callV (M' := xm_17) rfl (rfl : vwCl[1]? = some (RX1, TX1, 8)) (by decide +kernel : decode xm_2.2.1 75 = .ok (.invokevirtual 126, 3)) xn_17 (xT_c4 217 rfl rfl) (xT_c4 218 rfl rfl) (xT_c4 216 rfl rfl) rfl, xq_2_39⟩
theorem xq_2_37 : xOKs xsg xm_2 xk_2_0 xk_2_37 := ⟨xok_ld (xl_aload_n (by decide +kernel : decode xm_2.2.1 74 = .ok (.aload_n 1, 1))) rfl, xq_2_38⟩
theorem xq_2_36 : xOKs xsg xm_2 xk_2_0 xk_2_36 := ⟨xok_get (by decide +kernel : decode xm_2.2.1 71 = .ok (.getfield 58, 3)) (rfl : vwCl[11]? = some (RX11, TX11, 13)) inX11 (by decide) (xT_c3 22 rfl rfl) rfl, xq_2_37⟩
theorem xq_2_35 : xOKs xsg xm_2 xk_2_0 xk_2_35 := ⟨xok_ld (xl_aload_n (by decide +kernel : decode xm_2.2.1 70 = .ok (.aload_n 0, 1))) rfl, xq_2_36⟩
theorem xq_2_34 : xOKs xsg xm_2 xk_2_0 xk_2_34 := ⟨xok_callV (M' := xm_53) rfl (rfl : vwCl[10]? = some (RX10, TX10, 3)) (by decide +kernel : decode xm_2.2.1 67 = .ok (.invokevirtual 123, 3)) xn_53 (xT_c4 209 rfl rfl) (xT_c4 210 rfl rfl) (xT_c4 208 rfl rfl) rfl, xq_2_35⟩
theorem xq_2_33 : xOKs xsg xm_2 xk_2_0 xk_2_33 := ⟨xok_ld (xl_aload_n (by decide +kernel : decode xm_2.2.1 66 = .ok (.aload_n 1, 1))) rfl, xq_2_34⟩
theorem xq_2_32 : xOKs xsg xm_2 xk_2_0 xk_2_32 := ⟨xok_get (by decide +kernel : decode xm_2.2.1 63 = .ok (.getfield 49, 3)) (rfl : vwCl[11]? = some (RX11, TX11, 13)) inX11 (by decide) (xT_c3 21 rfl rfl) rfl, xq_2_33⟩
theorem xq_2_31 : xOKs xsg xm_2 xk_2_0 xk_2_31 := ⟨xok_ld (xl_aload_n (by decide +kernel : decode xm_2.2.1 62 = .ok (.aload_n 0, 1))) rfl, xq_2_32⟩
theorem xq_2_30 : xOKs xsg xm_2 xk_2_0 xk_2_30 := ⟨xok_callV (M' := xm_52) rfl (rfl : vwCl[10]? = some (RX10, TX10, 3)) (by decide +kernel : decode xm_2.2.1 59 = .ok (.invokevirtual 120, 3)) xn_52 (xT_c4 153 rfl rfl) (xT_c4 154 rfl rfl) (xT_c4 152 rfl rfl) rfl, xq_2_31⟩
theorem xq_2_29 : xOKs xsg xm_2 xk_2_0 xk_2_29 := ⟨xok_ld (xl_aload_n (by decide +kernel : decode xm_2.2.1 58 = .ok (.aload_n 1, 1))) rfl, xq_2_30⟩
theorem xq_2_28 : xOKs xsg xm_2 xk_2_0 xk_2_28 := ⟨xok_get (by decide +kernel : decode xm_2.2.1 55 = .ok (.getfield 49, 3)) (rfl : vwCl[11]? = some (RX11, TX11, 13)) inX11 (by decide) (xT_c3 21 rfl rfl) rfl, xq_2_29⟩
theorem xq_2_27 : xOKs xsg xm_2 xk_2_0 xk_2_27 := ⟨xok_ld (xl_aload_n (by decide +kernel : decode xm_2.2.1 54 = .ok (.aload_n 0, 1))) rfl, xq_2_28⟩
theorem xq_2_26 : xOKs xsg xm_2 xk_2_0 xk_2_26 := ⟨xok_callV (M' := xm_51) rfl (rfl : vwCl[10]? = some (RX10, TX10, 3)) (by decide +kernel : decode xm_2.2.1 51 = .ok (.invokevirtual 117, 3)) xn_51 (xT_c4 117 rfl rfl) (xT_c4 118 rfl rfl) (xT_c4 116 rfl rfl) rfl, xq_2_27⟩
theorem xq_2_25 : xOKs xsg xm_2 xk_2_0 xk_2_25 := ⟨xok_ld (xl_aload_n (by decide +kernel : decode xm_2.2.1 50 = .ok (.aload_n 1, 1))) rfl, xq_2_26⟩
theorem xq_2_24 : xOKs xsg xm_2 xk_2_0 xk_2_24 := ⟨xok_get (by decide +kernel : decode xm_2.2.1 47 = .ok (.getfield 49, 3)) (rfl : vwCl[11]? = some (RX11, TX11, 13)) inX11 (by decide) (xT_c3 21 rfl rfl) rfl, xq_2_25⟩
theorem xq_2_23 : xOKs xsg xm_2 xk_2_0 xk_2_23 := ⟨xok_ld (xl_aload_n (by decide +kernel : decode xm_2.2.1 46 = .ok (.aload_n 0, 1))) rfl, xq_2_24⟩
theorem xq_2_22 : xOKs xsg xm_2 xk_2_0 xk_2_22 := ⟨xok_callV (M' := xm_50) rfl (rfl : vwCl[10]? = some (RX10, TX10, 3)) (by decide +kernel : decode xm_2.2.1 43 = .ok (.invokevirtual 114, 3)) xn_50 (xT_c4 58 rfl rfl) (xT_c4 59 rfl rfl) (xT_c4 57 rfl rfl) rfl, xq_2_23⟩
theorem xq_2_21 : xOKs xsg xm_2 xk_2_0 xk_2_21 := ⟨xok_ld (xl_aload_n (by decide +kernel : decode xm_2.2.1 42 = .ok (.aload_n 1, 1))) rfl, xq_2_22⟩
theorem xq_2_20 : xOKs xsg xm_2 xk_2_0 xk_2_20 := ⟨xok_get (by decide +kernel : decode xm_2.2.1 39 = .ok (.getfield 49, 3)) (rfl : vwCl[11]? = some (RX11, TX11, 13)) inX11 (by decide) (xT_c3 21 rfl rfl) rfl, xq_2_21⟩
theorem xq_2_19 : xOKs xsg xm_2 xk_2_0 xk_2_19 := ⟨xok_ld (xl_aload_n (by decide +kernel : decode xm_2.2.1 38 = .ok (.aload_n 0, 1))) rfl, xq_2_20⟩
theorem xq_2_18 : xOKs xsg xm_2 xk_2_0 xk_2_18 := ⟨xok_callV (M' := xm_30) rfl (rfl : vwCl[5]? = some (RX5, TX5, 4)) (by decide +kernel : decode xm_2.2.1 35 = .ok (.invokevirtual 111, 3)) xn_30 (xT_c3 191 rfl rfl) (xT_c3 192 rfl rfl) (xT_c3 190 rfl rfl) rfl, xq_2_19⟩
theorem xq_2_17 : xOKs xsg xm_2 xk_2_0 xk_2_17 := ⟨xok_ld (xl_aload_n (by decide +kernel : decode xm_2.2.1 34 = .ok (.aload_n 1, 1))) rfl, xq_2_18⟩
theorem xq_2_16 : xOKs xsg xm_2 xk_2_0 xk_2_16 := ⟨xok_get (by decide +kernel : decode xm_2.2.1 31 = .ok (.getfield 40, 3)) (rfl : vwCl[11]? = some (RX11, TX11, 13)) inX11 (by decide) (xT_c3 20 rfl rfl) rfl, xq_2_17⟩
theorem xq_2_15 : xOKs xsg xm_2 xk_2_0 xk_2_15 := ⟨xok_ld (xl_aload_n (by decide +kernel : decode xm_2.2.1 30 = .ok (.aload_n 0, 1))) rfl, xq_2_16⟩
theorem xq_2_14 : xOKs xsg xm_2 xk_2_0 xk_2_14 := ⟨xok_callV (M' := xm_42) rfl (rfl : vwCl[7]? = some (RX7, TX7, 10)) (by decide +kernel : decode xm_2.2.1 27 = .ok (.invokevirtual 107, 3)) xn_42 (xT_c3 183 rfl rfl) (xT_c3 184 rfl rfl) (xT_c3 182 rfl rfl) rfl, xq_2_15⟩
theorem xq_2_13 : xOKs xsg xm_2 xk_2_0 xk_2_13 := ⟨xok_p (xp_bipush (v := 18) (by decide +kernel : decode xm_2.2.1 25 = .ok (.bipush 18, 2)) (by decide)) rfl, xq_2_14⟩
theorem xq_2_12 : xOKs xsg xm_2 xk_2_0 xk_2_12 := ⟨xok_ld (xl_aload_n (by decide +kernel : decode xm_2.2.1 24 = .ok (.aload_n 1, 1))) rfl, xq_2_13⟩
theorem xq_2_11 : xOKs xsg xm_2 xk_2_0 xk_2_11 := ⟨xok_get (by decide +kernel : decode xm_2.2.1 21 = .ok (.getfield 33, 3)) (rfl : vwCl[11]? = some (RX11, TX11, 13)) inX11 (by decide) (xT_c3 19 rfl rfl) rfl, xq_2_12⟩
theorem xq_2_10 : xOKs xsg xm_2 xk_2_0 xk_2_10 := ⟨xok_ld (xl_aload_n (by decide +kernel : decode xm_2.2.1 20 = .ok (.aload_n 0, 1))) rfl, xq_2_11⟩
theorem xq_2_9 : xOKs xsg xm_2 xk_2_0 xk_2_9 := ⟨xok_callV (M' := xm_40) rfl (rfl : vwCl[6]? = some (RX6, TX6, 3)) (by decide +kernel : decode xm_2.2.1 17 = .ok (.invokevirtual 104, 3)) xn_40 (xT_c3 84 rfl rfl) (xT_c3 85 rfl rfl) (xT_c3 181 rfl rfl) rfl, xq_2_10⟩
theorem xq_2_8 : xOKs xsg xm_2 xk_2_0 xk_2_8 := ⟨xok_get (by decide +kernel : decode xm_2.2.1 14 = .ok (.getfield 14, 3)) (rfl : vwCl[11]? = some (RX11, TX11, 13)) inX11 (by decide) (xT_c3 18 rfl rfl) rfl, xq_2_9⟩
theorem xq_2_7 : xOKs xsg xm_2 xk_2_0 xk_2_7 := ⟨xok_ld (xl_aload_n (by decide +kernel : decode xm_2.2.1 13 = .ok (.aload_n 0, 1))) rfl, xq_2_8⟩
theorem xq_2_6 : xOKs xsg xm_2 xk_2_0 xk_2_6 := ⟨xok_callV (M' := xm_21) rfl (rfl : vwCl[4]? = some (RX4, TX4, 15)) (by decide +kernel : decode xm_2.2.1 10 = .ok (.invokevirtual 100, 3)) xn_21 (xT_c3 76 rfl rfl) (xT_c3 77 rfl rfl) (xT_c3 75 rfl rfl) rfl, xq_2_7⟩
theorem xq_2_5 : xOKs xsg xm_2 xk_2_0 xk_2_5 := ⟨xok_get (by decide +kernel : decode xm_2.2.1 7 = .ok (.getfield 14, 3)) (rfl : vwCl[11]? = some (RX11, TX11, 13)) inX11 (by decide) (xT_c3 18 rfl rfl) rfl, xq_2_6⟩
theorem xq_2_4 : xOKs xsg xm_2 xk_2_0 xk_2_4 := ⟨xok_ld (xl_aload_n (by decide +kernel : decode xm_2.2.1 6 = .ok (.aload_n 0, 1))) rfl, xq_2_5⟩
theorem xq_2_3 : xOKs xsg xm_2 xk_2_0 xk_2_3 := ⟨xok_ld (xl_aload_n (by decide +kernel : decode xm_2.2.1 5 = .ok (.aload_n 1, 1))) rfl, xq_2_4⟩
theorem xq_2_2 : xOKs xsg xm_2 xk_2_0 xk_2_2 := ⟨xok_st (xs_astore_n (by decide +kernel : decode xm_2.2.1 4 = .ok (.astore_n 1, 1)) (by decide)) rfl, xq_2_3⟩
theorem xq_2_1 : xOKs xsg xm_2 xk_2_0 xk_2_1 := ⟨xok_get (by decide +kernel : decode xm_2.2.1 1 = .ok (.getfield 25, 3)) (rfl : vwCl[11]? = some (RX11, TX11, 13)) inX11 (by decide) (xT_c3 28 rfl rfl) rfl, xq_2_2⟩
theorem xq_2_0 : xOKs xsg xm_2 xk_2_0 xk_2_0 := ⟨xok_ld (xl_aload_n (by decide +kernel : decode xm_2.2.1 0 = .ok (.aload_n 0, 1))) rfl, xq_2_1⟩
theorem xz_2 : xwf xsg xm_2 xk_2_0 := ⟨xq_2_0, rfl, by decide⟩
/-! FeatherBench.implementing()I -/
theorem xq_3_9 : xOKs xsg xm_3 xk_3_0 xk_3_9 := trivial
theorem xq_3_8 : xOKs xsg xm_3 xk_3_0 xk_3_8 := ⟨xok_none, xq_3_9⟩
theorem xq_3_7 : xOKs xsg xm_3 xk_3_0 xk_3_7 := ⟨xok_retI (by decide +kernel : decode xm_3.2.1 11 = .ok (.ireturn, 1)) rfl, xq_3_8⟩
theorem xq_3_6 : xOKs xsg xm_3 xk_3_0 xk_3_6 := ⟨xok_ld (xl_iload_n (by decide +kernel : decode xm_3.2.1 10 = .ok (.iload_n 1, 1))) rfl, xq_3_7⟩
theorem xq_3_5 : xOKs xsg xm_3 xk_3_0 xk_3_5 := ⟨xok_br (tgt := 12) (xb_eq (by decide +kernel : decode xm_3.2.1 7 = .ok (.ifCond .eq 5, 3)) (by decide)) (by decide +kernel) rfl, xq_3_6⟩
theorem xq_3_4 : xOKs xsg xm_3 xk_3_0 xk_3_4 := ⟨xok_ld (xl_iload_n (by decide +kernel : decode xm_3.2.1 6 = .ok (.iload_n 1, 1))) rfl, xq_3_5⟩
theorem xq_3_3 : xOKs xsg xm_3 xk_3_0 xk_3_3 := ⟨xok_st (xs_istore_n (by decide +kernel : decode xm_3.2.1 5 = .ok (.istore_n 1, 1)) (by decide)) rfl, xq_3_4⟩
theorem xq_3_2 : xOKs xsg xm_3 xk_3_0 xk_3_2 := ⟨xok_callV (M' := xm_14) rfl (rfl : vwCl[11]? = some (RX11, TX11, 13)) (by decide +kernel : decode xm_3.2.1 2 = .ok (.invokevirtual 140, 3)) xn_14 (xT_c5 66 rfl rfl) (xT_c0 42 rfl rfl) (xT_c5 64 rfl rfl) rfl, xq_3_3⟩
theorem xq_3_1 : xOKs xsg xm_3 xk_3_0 xk_3_1 := ⟨xok_p (xp_iconst (v := 2) (by decide +kernel : decode xm_3.2.1 1 = .ok (.iconst 2, 1)) (by decide)) rfl, xq_3_2⟩
theorem xq_3_0 : xOKs xsg xm_3 xk_3_0 xk_3_0 := ⟨xok_ld (xl_aload_n (by decide +kernel : decode xm_3.2.1 0 = .ok (.aload_n 0, 1))) rfl, xq_3_1⟩
theorem xz_3 : xwf xsg xm_3 xk_3_0 := ⟨xq_3_0, rfl, by decide⟩
/-! FeatherBench.run(I)I -/
theorem xq_4_11 : xOKs xsg xm_4 xk_4_0 xk_4_11 := trivial
theorem xq_4_10 : xOKs xsg xm_4 xk_4_0 xk_4_10 := ⟨xok_retI (by decide +kernel : decode xm_4.2.1 20 = .ok (.ireturn, 1)) rfl, xq_4_11⟩
theorem xq_4_9 : xOKs xsg xm_4 xk_4_0 xk_4_9 := ⟨xok_p (xp_iconst (v := -1) (by decide +kernel : decode xm_4.2.1 19 = .ok (.iconst (-1), 1)) (by decide)) rfl, xq_4_10⟩
theorem xq_4_8 : xOKs xsg xm_4 xk_4_0 xk_4_8 := ⟨xok_none, xq_4_9⟩
theorem xq_4_7 : xOKs xsg xm_4 xk_4_0 xk_4_7 := ⟨xok_none, xq_4_8⟩
theorem xq_4_6 : xOKs xsg xm_4 xk_4_0 xk_4_6 := ⟨xok_none, xq_4_7⟩
theorem xq_4_5 : xOKs xsg xm_4 xk_4_0 xk_4_5 := ⟨xok_none, xq_4_6⟩
theorem xq_4_4 : xOKs xsg xm_4 xk_4_0 xk_4_4 := ⟨xok_none, xq_4_5⟩
theorem xq_4_3 : xOKs xsg xm_4 xk_4_0 xk_4_3 := ⟨xok_none, xq_4_4⟩
theorem xq_4_2 : xOKs xsg xm_4 xk_4_0 xk_4_2 := ⟨xok_br (tgt := 19) (xb_eq (by decide +kernel : decode xm_4.2.1 4 = .ok (.ifCond .eq 15, 3)) (by decide)) (by decide +kernel) rfl, xq_4_3⟩
theorem xq_4_1 : xOKs xsg xm_4 xk_4_0 xk_4_1 := ⟨xok_get (by decide +kernel : decode xm_4.2.1 1 = .ok (.getfield 132, 3)) (rfl : vwCl[11]? = some (RX11, TX11, 13)) inX11 (by decide) (xT_c3 29 rfl rfl) rfl, xq_4_2⟩
theorem xq_4_0 : xOKs xsg xm_4 xk_4_0 xk_4_0 := ⟨xok_ld (xl_aload_n (by decide +kernel : decode xm_4.2.1 0 = .ok (.aload_n 0, 1))) rfl, xq_4_1⟩
theorem xz_4 : xwf xsg xm_4 xk_4_0 := ⟨xq_4_0, rfl, by decide⟩
/-! FeatherBench.failed()I -/
theorem xq_5_11 : xOKs xsg xm_5 xk_5_0 xk_5_11 := trivial
theorem xq_5_10 : xOKs xsg xm_5 xk_5_0 xk_5_10 := ⟨xok_retI (by decide +kernel : decode xm_5.2.1 22 = .ok (.ireturn, 1)) rfl, xq_5_11⟩
theorem xq_5_9 : xOKs xsg xm_5 xk_5_0 xk_5_9 := ⟨xok_p (xp_iconst (v := -1) (by decide +kernel : decode xm_5.2.1 21 = .ok (.iconst (-1), 1)) (by decide)) rfl, xq_5_10⟩
theorem xq_5_8 : xOKs xsg xm_5 xk_5_0 xk_5_8 := ⟨xok_none, xq_5_9⟩
theorem xq_5_7 : xOKs xsg xm_5 xk_5_0 xk_5_7 := ⟨xok_none, xq_5_8⟩
theorem xq_5_6 : xOKs xsg xm_5 xk_5_0 xk_5_6 := ⟨xok_none, xq_5_7⟩
theorem xq_5_5 : xOKs xsg xm_5 xk_5_0 xk_5_5 := ⟨xok_none, xq_5_6⟩
theorem xq_5_4 : xOKs xsg xm_5 xk_5_0 xk_5_4 := ⟨xok_br (tgt := 21) (xb_ine (by decide +kernel : decode xm_5.2.1 8 = .ok (.if_icmp .ne 13, 3)) (by decide)) (by decide +kernel) rfl, xq_5_5⟩
theorem xq_5_3 : xOKs xsg xm_5 xk_5_0 xk_5_3 := ⟨xok_p (xp_iconst (v := 1) (by decide +kernel : decode xm_5.2.1 7 = .ok (.iconst 1, 1)) (by decide)) rfl, xq_5_4⟩
theorem xq_5_2 : xOKs xsg xm_5 xk_5_0 xk_5_2 := ⟨xok_getN (by decide +kernel : decode xm_5.2.1 4 = .ok (.getfield 172, 3)) (rfl : vwCl[2]? = some (RX2, TX2, 15)) inX2 (by decide) (xN_c2 157 rfl rfl) rfl, xq_5_3⟩
theorem xq_5_1 : xOKs xsg xm_5 xk_5_0 xk_5_1 := ⟨xok_get (by decide +kernel : decode xm_5.2.1 1 = .ok (.getfield 74, 3)) (rfl : vwCl[11]? = some (RX11, TX11, 13)) inX11 (by decide) (xT_c3 24 rfl rfl) rfl, xq_5_2⟩
theorem xq_5_0 : xOKs xsg xm_5 xk_5_0 xk_5_0 := ⟨xok_ld (xl_aload_n (by decide +kernel : decode xm_5.2.1 0 = .ok (.aload_n 0, 1))) rfl, xq_5_1⟩
theorem xz_5 : xwf xsg xm_5 xk_5_0 := ⟨xq_5_0, rfl, by decide⟩
/-! FeatherBench.calls()I -/
theorem xq_6_4 : xOKs xsg xm_6 xk_6_0 xk_6_4 := trivial
theorem xq_6_3 : xOKs xsg xm_6 xk_6_0 xk_6_3 := ⟨xok_retI (by decide +kernel : decode xm_6.2.1 7 = .ok (.ireturn, 1)) rfl, xq_6_4⟩
theorem xq_6_2 : xOKs xsg xm_6 xk_6_0 xk_6_2 := ⟨xok_getN (by decide +kernel : decode xm_6.2.1 4 = .ok (.getfield 178, 3)) (rfl : vwCl[2]? = some (RX2, TX2, 15)) inX2 (by decide) (xN_c2 153 rfl rfl) rfl, xq_6_3⟩
theorem xq_6_1 : xOKs xsg xm_6 xk_6_0 xk_6_1 := ⟨xok_get (by decide +kernel : decode xm_6.2.1 1 = .ok (.getfield 74, 3)) (rfl : vwCl[11]? = some (RX11, TX11, 13)) inX11 (by decide) (xT_c3 24 rfl rfl) rfl, xq_6_2⟩
theorem xq_6_0 : xOKs xsg xm_6 xk_6_0 xk_6_0 := ⟨xok_ld (xl_aload_n (by decide +kernel : decode xm_6.2.1 0 = .ok (.aload_n 0, 1))) rfl, xq_6_1⟩
theorem xz_6 : xwf xsg xm_6 xk_6_0 := ⟨xq_6_0, rfl, by decide⟩
/-! FeatherBench.instances()I -/
theorem xq_7_6 : xOKs xsg xm_7 xk_7_0 xk_7_6 := trivial
theorem xq_7_5 : xOKs xsg xm_7 xk_7_0 xk_7_5 := ⟨xok_none, xq_7_6⟩
theorem xq_7_4 : xOKs xsg xm_7 xk_7_0 xk_7_4 := ⟨xok_retI (by decide +kernel : decode xm_7.2.1 8 = .ok (.ireturn, 1)) rfl, xq_7_5⟩
theorem xq_7_3 : xOKs xsg xm_7 xk_7_0 xk_7_3 := ⟨xok_p (xp_iconst (v := -1) (by decide +kernel : decode xm_7.2.1 7 = .ok (.iconst (-1), 1)) (by decide)) rfl, xq_7_4⟩
theorem xq_7_2 : xOKs xsg xm_7 xk_7_0 xk_7_2 := ⟨xok_br (tgt := 9) (xb_ne (by decide +kernel : decode xm_7.2.1 4 = .ok (.ifCond .ne 5, 3)) (by decide)) (by decide +kernel) rfl, xq_7_3⟩
theorem xq_7_1 : xOKs xsg xm_7 xk_7_0 xk_7_1 := ⟨xok_get (by decide +kernel : decode xm_7.2.1 1 = .ok (.getfield 132, 3)) (rfl : vwCl[11]? = some (RX11, TX11, 13)) inX11 (by decide) (xT_c3 29 rfl rfl) rfl, xq_7_2⟩
theorem xq_7_0 : xOKs xsg xm_7 xk_7_0 xk_7_0 := ⟨xok_ld (xl_aload_n (by decide +kernel : decode xm_7.2.1 0 = .ok (.aload_n 0, 1))) rfl, xq_7_1⟩
theorem xz_7 : xwf xsg xm_7 xk_7_0 := ⟨xq_7_0, rfl, by decide⟩
/-! FeatherBench.made(I)I -/
theorem xq_8_7 : xOKs xsg xm_8 xk_8_0 xk_8_7 := trivial
theorem xq_8_6 : xOKs xsg xm_8 xk_8_0 xk_8_6 := ⟨xok_none, xq_8_7⟩
theorem xq_8_5 : xOKs xsg xm_8 xk_8_0 xk_8_5 := ⟨xok_retI (by decide +kernel : decode xm_8.2.1 11 = .ok (.ireturn, 1)) rfl, xq_8_6⟩
theorem xq_8_4 : xOKs xsg xm_8 xk_8_0 xk_8_4 := ⟨xok_p (xp_iconst (v := -1) (by decide +kernel : decode xm_8.2.1 10 = .ok (.iconst (-1), 1)) (by decide)) rfl, xq_8_5⟩
theorem xq_8_3 : xOKs xsg xm_8 xk_8_0 xk_8_3 := ⟨xok_br (tgt := 12) (xb_ne (by decide +kernel : decode xm_8.2.1 7 = .ok (.ifCond .ne 5, 3)) (by decide)) (by decide +kernel) rfl, xq_8_4⟩
theorem xq_8_2 : xOKs xsg xm_8 xk_8_0 xk_8_2 := ⟨xok_getN (by decide +kernel : decode xm_8.2.1 4 = .ok (.getfield 190, 3)) (rfl : vwCl[8]? = some (RX8, TX8, 11)) inX8 (by decide) (xN_c2 211 rfl rfl) rfl, xq_8_3⟩
theorem xq_8_1 : xOKs xsg xm_8 xk_8_0 xk_8_1 := ⟨xok_get (by decide +kernel : decode xm_8.2.1 1 = .ok (.getfield 81, 3)) (rfl : vwCl[11]? = some (RX11, TX11, 13)) inX11 (by decide) (xT_c3 25 rfl rfl) rfl, xq_8_2⟩
theorem xq_8_0 : xOKs xsg xm_8 xk_8_0 xk_8_0 := ⟨xok_ld (xl_aload_n (by decide +kernel : decode xm_8.2.1 0 = .ok (.aload_n 0, 1))) rfl, xq_8_1⟩
theorem xz_8 : xwf xsg xm_8 xk_8_0 := ⟨xq_8_0, rfl, by decide⟩
/-! FeatherBench.isMade()I -/
theorem xq_9_9 : xOKs xsg xm_9 xk_9_0 xk_9_9 := trivial
theorem xq_9_8 : xOKs xsg xm_9 xk_9_0 xk_9_8 := ⟨xok_none, xq_9_9⟩
theorem xq_9_7 : xOKs xsg xm_9 xk_9_0 xk_9_7 := ⟨xok_retI (by decide +kernel : decode xm_9.2.1 11 = .ok (.ireturn, 1)) rfl, xq_9_8⟩
theorem xq_9_6 : xOKs xsg xm_9 xk_9_0 xk_9_6 := ⟨xok_ld (xl_iload_n (by decide +kernel : decode xm_9.2.1 10 = .ok (.iload_n 1, 1))) rfl, xq_9_7⟩
theorem xq_9_5 : xOKs xsg xm_9 xk_9_0 xk_9_5 := ⟨xok_br (tgt := 12) (xb_eq (by decide +kernel : decode xm_9.2.1 7 = .ok (.ifCond .eq 5, 3)) (by decide)) (by decide +kernel) rfl, xq_9_6⟩
theorem xq_9_4 : xOKs xsg xm_9 xk_9_0 xk_9_4 := ⟨xok_ld (xl_iload_n (by decide +kernel : decode xm_9.2.1 6 = .ok (.iload_n 1, 1))) rfl, xq_9_5⟩
theorem xq_9_3 : xOKs xsg xm_9 xk_9_0 xk_9_3 := ⟨xok_st (xs_istore_n (by decide +kernel : decode xm_9.2.1 5 = .ok (.istore_n 1, 1)) (by decide)) rfl, xq_9_4⟩
theorem xq_9_2 : xOKs xsg xm_9 xk_9_0 xk_9_2 := ⟨xok_callV (M' := xm_14) rfl (rfl : vwCl[11]? = some (RX11, TX11, 13)) (by decide +kernel : decode xm_9.2.1 2 = .ok (.invokevirtual 140, 3)) xn_14 (xT_c5 66 rfl rfl) (xT_c0 42 rfl rfl) (xT_c5 64 rfl rfl) rfl, xq_9_3⟩
theorem xq_9_1 : xOKs xsg xm_9 xk_9_0 xk_9_1 := ⟨xok_p (xp_iconst (v := 1) (by decide +kernel : decode xm_9.2.1 1 = .ok (.iconst 1, 1)) (by decide)) rfl, xq_9_2⟩
theorem xq_9_0 : xOKs xsg xm_9 xk_9_0 xk_9_0 := ⟨xok_ld (xl_aload_n (by decide +kernel : decode xm_9.2.1 0 = .ok (.aload_n 0, 1))) rfl, xq_9_1⟩
theorem xz_9 : xwf xsg xm_9 xk_9_0 := ⟨xq_9_0, rfl, by decide⟩
/-! FeatherBench.print(I)I -/
theorem xq_10_49 : xOKs xsg xm_10 xk_10_0 xk_10_49 := trivial
theorem xq_10_48 : xOKs xsg xm_10 xk_10_0 xk_10_48 := ⟨xok_retI (by decide +kernel : decode xm_10.2.1 106 = .ok (.ireturn, 1)) rfl, xq_10_49⟩
theorem xq_10_47 : xOKs xsg xm_10 xk_10_0 xk_10_47 := ⟨xok_p (xp_iconst (v := -1) (by decide +kernel : decode xm_10.2.1 105 = .ok (.iconst (-1), 1)) (by decide)) rfl, xq_10_48⟩
theorem xq_10_46 : xOKs xsg xm_10 xk_10_0 xk_10_46 := ⟨xok_none, xq_10_47⟩
theorem xq_10_45 : xOKs xsg xm_10 xk_10_0 xk_10_45 := ⟨xok_none, xq_10_46⟩
theorem xq_10_44 : xOKs xsg xm_10 xk_10_0 xk_10_44 := ⟨xok_none, xq_10_45⟩
theorem xq_10_43 : xOKs xsg xm_10 xk_10_0 xk_10_43 := ⟨xok_none, xq_10_44⟩
theorem xq_10_42 : xOKs xsg xm_10 xk_10_0 xk_10_42 := ⟨xok_none, xq_10_43⟩
theorem xq_10_41 : xOKs xsg xm_10 xk_10_0 xk_10_41 := ⟨xok_none, xq_10_42⟩
theorem xq_10_40 : xOKs xsg xm_10 xk_10_0 xk_10_40 := ⟨xok_none, xq_10_41⟩
theorem xq_10_39 : xOKs xsg xm_10 xk_10_0 xk_10_39 := ⟨xok_none, xq_10_40⟩
theorem xq_10_38 : xOKs xsg xm_10 xk_10_0 xk_10_38 := ⟨xok_none, xq_10_39⟩
theorem xq_10_37 : xOKs xsg xm_10 xk_10_0 xk_10_37 := ⟨xok_none, xq_10_38⟩
theorem xq_10_36 : xOKs xsg xm_10 xk_10_0 xk_10_36 := ⟨xok_none, xq_10_37⟩
theorem xq_10_35 : xOKs xsg xm_10 xk_10_0 xk_10_35 := ⟨xok_none, xq_10_36⟩
theorem xq_10_34 : xOKs xsg xm_10 xk_10_0 xk_10_34 := ⟨xok_none, xq_10_35⟩
theorem xq_10_33 : xOKs xsg xm_10 xk_10_0 xk_10_33 := ⟨xok_none, xq_10_34⟩
theorem xq_10_32 : xOKs xsg xm_10 xk_10_0 xk_10_32 := ⟨xok_none, xq_10_33⟩
theorem xq_10_31 : xOKs xsg xm_10 xk_10_0 xk_10_31 := ⟨xok_none, xq_10_32⟩
theorem xq_10_30 : xOKs xsg xm_10 xk_10_0 xk_10_30 := ⟨xok_none, xq_10_31⟩
theorem xq_10_29 : xOKs xsg xm_10 xk_10_0 xk_10_29 := ⟨xok_none, xq_10_30⟩
theorem xq_10_28 : xOKs xsg xm_10 xk_10_0 xk_10_28 := ⟨xok_none, xq_10_29⟩
theorem xq_10_27 : xOKs xsg xm_10 xk_10_0 xk_10_27 := ⟨xok_br (tgt := 105) (xb_ne (by decide +kernel : decode xm_10.2.1 59 = .ok (.ifCond .ne 46, 3)) (by decide)) (by decide +kernel) rfl, xq_10_28⟩
theorem xq_10_26 : xOKs xsg xm_10 xk_10_0 xk_10_26 := ⟨xok_getN (by decide +kernel : decode xm_10.2.1 56 = .ok (.getfield 172, 3)) (rfl : vwCl[2]? = some (RX2, TX2, 15)) inX2 (by decide) (xN_c2 157 rfl rfl) rfl, xq_10_27⟩
theorem xq_10_25 : xOKs xsg xm_10 xk_10_0 xk_10_25 := ⟨xok_get (by decide +kernel : decode xm_10.2.1 53 = .ok (.getfield 74, 3)) (rfl : vwCl[11]? = some (RX11, TX11, 13)) inX11 (by decide) (xT_c3 24 rfl rfl) rfl, xq_10_26⟩
theorem xq_10_24 : xOKs xsg xm_10 xk_10_0 xk_10_24 := ⟨xok_ld (xl_aload_n (by decide +kernel : decode xm_10.2.1 52 = .ok (.aload_n 0, 1))) rfl, xq_10_25⟩
theorem xq_10_23 : xOKs xsg xm_10 xk_10_0 xk_10_23 := ⟨xok_br (tgt := 105) (xb_ine (by decide +kernel : decode xm_10.2.1 49 = .ok (.if_icmp .ne 56, 3)) (by decide)) (by decide +kernel) rfl, xq_10_24⟩
theorem xq_10_22 : xOKs xsg xm_10 xk_10_0 xk_10_22 := ⟨xok_p (xp_iconst (v := 1) (by decide +kernel : decode xm_10.2.1 48 = .ok (.iconst 1, 1)) (by decide)) rfl, xq_10_23⟩
theorem xq_10_21 : xOKs xsg xm_10 xk_10_0 xk_10_21 := ⟨xok_ld (xl_iload_n (by decide +kernel : decode xm_10.2.1 47 = .ok (.iload_n 1, 1))) rfl, xq_10_22⟩
theorem xq_10_20 : xOKs xsg xm_10 xk_10_0 xk_10_20 := ⟨xok_none, xq_10_21⟩
theorem xq_10_19 : xOKs xsg xm_10 xk_10_0 xk_10_19 := ⟨xok_none, xq_10_20⟩
theorem xq_10_18 : xOKs xsg xm_10 xk_10_0 xk_10_18 := ⟨xok_none, xq_10_19⟩
theorem xq_10_17 : xOKs xsg xm_10 xk_10_0 xk_10_17 := ⟨xok_none, xq_10_18⟩
theorem xq_10_16 : xOKs xsg xm_10 xk_10_0 xk_10_16 := ⟨xok_none, xq_10_17⟩
theorem xq_10_15 : xOKs xsg xm_10 xk_10_0 xk_10_15 := ⟨xok_none, xq_10_16⟩
theorem xq_10_14 : xOKs xsg xm_10 xk_10_0 xk_10_14 := ⟨xok_none, xq_10_15⟩
theorem xq_10_13 : xOKs xsg xm_10 xk_10_0 xk_10_13 := ⟨xok_none, xq_10_14⟩
theorem xq_10_12 : xOKs xsg xm_10 xk_10_0 xk_10_12 := ⟨xok_none, xq_10_13⟩
theorem xq_10_11 : xOKs xsg xm_10 xk_10_0 xk_10_11 := ⟨xok_none, xq_10_12⟩
theorem xq_10_10 : xOKs xsg xm_10 xk_10_0 xk_10_10 := ⟨xok_none, xq_10_11⟩
theorem xq_10_9 : xOKs xsg xm_10 xk_10_0 xk_10_9 := ⟨xok_none, xq_10_10⟩
theorem xq_10_8 : xOKs xsg xm_10 xk_10_0 xk_10_8 := ⟨xok_none, xq_10_9⟩
theorem xq_10_7 : xOKs xsg xm_10 xk_10_0 xk_10_7 := ⟨xok_none, xq_10_8⟩
theorem xq_10_6 : xOKs xsg xm_10 xk_10_0 xk_10_6 := ⟨xok_none, xq_10_7⟩
theorem xq_10_5 : xOKs xsg xm_10 xk_10_0 xk_10_5 := ⟨xok_none, xq_10_6⟩
theorem xq_10_4 : xOKs xsg xm_10 xk_10_0 xk_10_4 := ⟨xok_br (tgt := 47) (xb_eq (by decide +kernel : decode xm_10.2.1 8 = .ok (.ifCond .eq 39, 3)) (by decide)) (by decide +kernel) rfl, xq_10_5⟩
theorem xq_10_3 : xOKs xsg xm_10 xk_10_0 xk_10_3 := ⟨xok_get (by decide +kernel : decode xm_10.2.1 5 = .ok (.getfield 132, 3)) (rfl : vwCl[11]? = some (RX11, TX11, 13)) inX11 (by decide) (xT_c3 29 rfl rfl) rfl, xq_10_4⟩
theorem xq_10_2 : xOKs xsg xm_10 xk_10_0 xk_10_2 := ⟨xok_ld (xl_aload_n (by decide +kernel : decode xm_10.2.1 4 = .ok (.aload_n 0, 1))) rfl, xq_10_3⟩
theorem xq_10_1 : xOKs xsg xm_10 xk_10_0 xk_10_1 := ⟨xok_br (tgt := 47) (xb_ne (by decide +kernel : decode xm_10.2.1 1 = .ok (.ifCond .ne 46, 3)) (by decide)) (by decide +kernel) rfl, xq_10_2⟩
theorem xq_10_0 : xOKs xsg xm_10 xk_10_0 xk_10_0 := ⟨xok_ld (xl_iload_n (by decide +kernel : decode xm_10.2.1 0 = .ok (.iload_n 1, 1))) rfl, xq_10_1⟩
theorem xz_10 : xwf xsg xm_10 xk_10_0 := ⟨xq_10_0, rfl, by decide⟩
/-! FeatherBench.out(I)I -/
theorem xq_11_16 : xOKs xsg xm_11 xk_11_0 xk_11_16 := trivial
theorem xq_11_15 : xOKs xsg xm_11 xk_11_0 xk_11_15 := ⟨xok_retI (by decide +kernel : decode xm_11.2.1 33 = .ok (.ireturn, 1)) rfl, xq_11_16⟩
theorem xq_11_14 : xOKs xsg xm_11 xk_11_0 xk_11_14 := ⟨xok_p (xp_iconst (v := -1) (by decide +kernel : decode xm_11.2.1 32 = .ok (.iconst (-1), 1)) (by decide)) rfl, xq_11_15⟩
theorem xq_11_13 : xOKs xsg xm_11 xk_11_0 xk_11_13 := ⟨xok_none, xq_11_14⟩
theorem xq_11_12 : xOKs xsg xm_11 xk_11_0 xk_11_12 := ⟨xok_none, xq_11_13⟩
theorem xq_11_11 : xOKs xsg xm_11 xk_11_0 xk_11_11 := ⟨xok_none, xq_11_12⟩
theorem xq_11_10 : xOKs xsg xm_11 xk_11_0 xk_11_10 := ⟨xok_none, xq_11_11⟩
theorem xq_11_9 : xOKs xsg xm_11 xk_11_0 xk_11_9 := ⟨xok_none, xq_11_10⟩
theorem xq_11_8 : xOKs xsg xm_11 xk_11_0 xk_11_8 := ⟨xok_none, xq_11_9⟩
theorem xq_11_7 : xOKs xsg xm_11 xk_11_0 xk_11_7 := ⟨xok_br (tgt := 32) (xb_ige (by decide +kernel : decode xm_11.2.1 15 = .ok (.if_icmp .ge 17, 3)) (by decide)) (by decide +kernel) rfl, xq_11_8⟩
theorem xq_11_6 : xOKs xsg xm_11 xk_11_0 xk_11_6 := ⟨xok_getN (by decide +kernel : decode xm_11.2.1 12 = .ok (.getfield 96, 3)) (rfl : vwCl[6]? = some (RX6, TX6, 3)) inX6 (by decide) (xN_c1 44 rfl rfl) rfl, xq_11_7⟩
theorem xq_11_5 : xOKs xsg xm_11 xk_11_0 xk_11_5 := ⟨xok_getN (by decide +kernel : decode xm_11.2.1 9 = .ok (.getfield 214, 3)) (rfl : vwCl[3]? = some (RX3, TX3, 4)) inX3 (by decide) (xN_c3 5 rfl rfl) rfl, xq_11_6⟩
theorem xq_11_4 : xOKs xsg xm_11 xk_11_0 xk_11_4 := ⟨xok_get (by decide +kernel : decode xm_11.2.1 6 = .ok (.getfield 88, 3)) (rfl : vwCl[11]? = some (RX11, TX11, 13)) inX11 (by decide) (xT_c3 26 rfl rfl) rfl, xq_11_5⟩
theorem xq_11_3 : xOKs xsg xm_11 xk_11_0 xk_11_3 := ⟨xok_ld (xl_aload_n (by decide +kernel : decode xm_11.2.1 5 = .ok (.aload_n 0, 1))) rfl, xq_11_4⟩
theorem xq_11_2 : xOKs xsg xm_11 xk_11_0 xk_11_2 := ⟨xok_ld (xl_iload_n (by decide +kernel : decode xm_11.2.1 4 = .ok (.iload_n 1, 1))) rfl, xq_11_3⟩
theorem xq_11_1 : xOKs xsg xm_11 xk_11_0 xk_11_1 := ⟨xok_br (tgt := 32) (xb_lt (by decide +kernel : decode xm_11.2.1 1 = .ok (.ifCond .lt 31, 3)) (by decide)) (by decide +kernel) rfl, xq_11_2⟩
theorem xq_11_0 : xOKs xsg xm_11 xk_11_0 xk_11_0 := ⟨xok_ld (xl_iload_n (by decide +kernel : decode xm_11.2.1 0 = .ok (.iload_n 1, 1))) rfl, xq_11_1⟩
theorem xz_11 : xwf xsg xm_11 xk_11_0 := ⟨xq_11_0, rfl, by decide⟩
/-! FeatherBench.count(I)I -/
theorem xq_12_40 : xOKs xsg xm_12 xk_12_0 xk_12_40 := trivial
theorem xq_12_39 : xOKs xsg xm_12 xk_12_0 xk_12_39 := ⟨xok_retI (by decide +kernel : decode xm_12.2.1 113 = .ok (.ireturn, 1)) rfl, xq_12_40⟩
theorem xq_12_38 : xOKs xsg xm_12 xk_12_0 xk_12_38 := ⟨xok_p (xp_iconst (v := -1) (by decide +kernel : decode xm_12.2.1 112 = .ok (.iconst (-1), 1)) (by decide)) rfl, xq_12_39⟩
theorem xq_12_37 : xOKs xsg xm_12 xk_12_0 xk_12_37 := ⟨xok_retI (by decide +kernel : decode xm_12.2.1 111 = .ok (.ireturn, 1)) rfl, xq_12_38⟩
theorem xq_12_36 : xOKs xsg xm_12 xk_12_0 xk_12_36 := ⟨xok_p (xp_iconst (v := 0) (by decide +kernel : decode xm_12.2.1 110 = .ok (.iconst 0, 1)) (by decide)) rfl, xq_12_37⟩
theorem xq_12_35 : xOKs xsg xm_12 xk_12_0 xk_12_35 := ⟨xok_none, xq_12_36⟩
theorem xq_12_34 : xOKs xsg xm_12 xk_12_0 xk_12_34 := ⟨xok_none, xq_12_35⟩
theorem xq_12_33 : xOKs xsg xm_12 xk_12_0 xk_12_33 := ⟨xok_br (tgt := 110) (xb_eq (by decide +kernel : decode xm_12.2.1 103 = .ok (.ifCond .eq 7, 3)) (by decide)) (by decide +kernel) rfl, xq_12_34⟩
theorem xq_12_32 : xOKs xsg xm_12 xk_12_0 xk_12_32 := ⟨xok_get (by decide +kernel : decode xm_12.2.1 100 = .ok (.getfield 132, 3)) (rfl : vwCl[11]? = some (RX11, TX11, 13)) inX11 (by decide) (xT_c3 29 rfl rfl) rfl, xq_12_33⟩
theorem xq_12_31 : xOKs xsg xm_12 xk_12_0 xk_12_31 := ⟨xok_ld (xl_aload_n (by decide +kernel : decode xm_12.2.1 99 = .ok (.aload_n 0, 1))) rfl, xq_12_32⟩
theorem xq_12_30 : xOKs xsg xm_12 xk_12_0 xk_12_30 := ⟨xok_retI (by decide +kernel : decode xm_12.2.1 98 = .ok (.ireturn, 1)) rfl, xq_12_31⟩
theorem xq_12_29 : xOKs xsg xm_12 xk_12_0 xk_12_29 := ⟨xok_getN (by decide +kernel : decode xm_12.2.1 95 = .ok (.getfield 96, 3)) (rfl : vwCl[6]? = some (RX6, TX6, 3)) inX6 (by decide) (xN_c1 44 rfl rfl) rfl, xq_12_30⟩
theorem xq_12_28 : xOKs xsg xm_12 xk_12_0 xk_12_28 := ⟨xok_get (by decide +kernel : decode xm_12.2.1 92 = .ok (.getfield 14, 3)) (rfl : vwCl[11]? = some (RX11, TX11, 13)) inX11 (by decide) (xT_c3 18 rfl rfl) rfl, xq_12_29⟩
theorem xq_12_27 : xOKs xsg xm_12 xk_12_0 xk_12_27 := ⟨xok_ld (xl_aload_n (by decide +kernel : decode xm_12.2.1 91 = .ok (.aload_n 0, 1))) rfl, xq_12_28⟩
theorem xq_12_26 : xOKs xsg xm_12 xk_12_0 xk_12_26 := ⟨xok_retI (by decide +kernel : decode xm_12.2.1 90 = .ok (.ireturn, 1)) rfl, xq_12_27⟩
theorem xq_12_25 : xOKs xsg xm_12 xk_12_0 xk_12_25 := ⟨xok_getN (by decide +kernel : decode xm_12.2.1 87 = .ok (.getfield 169, 3)) (rfl : vwCl[2]? = some (RX2, TX2, 15)) inX2 (by decide) (xN_c2 151 rfl rfl) rfl, xq_12_26⟩
theorem xq_12_24 : xOKs xsg xm_12 xk_12_0 xk_12_24 := ⟨xok_get (by decide +kernel : decode xm_12.2.1 84 = .ok (.getfield 74, 3)) (rfl : vwCl[11]? = some (RX11, TX11, 13)) inX11 (by decide) (xT_c3 24 rfl rfl) rfl, xq_12_25⟩
theorem xq_12_23 : xOKs xsg xm_12 xk_12_0 xk_12_23 := ⟨xok_ld (xl_aload_n (by decide +kernel : decode xm_12.2.1 83 = .ok (.aload_n 0, 1))) rfl, xq_12_24⟩
theorem xq_12_22 : xOKs xsg xm_12 xk_12_0 xk_12_22 := ⟨xok_retI (by decide +kernel : decode xm_12.2.1 82 = .ok (.ireturn, 1)) rfl, xq_12_23⟩
theorem xq_12_21 : xOKs xsg xm_12 xk_12_0 xk_12_21 := ⟨xok_get (by decide +kernel : decode xm_12.2.1 79 = .ok (.getfield 155, 3)) (rfl : vwCl[11]? = some (RX11, TX11, 13)) inX11 (by decide) (xT_c3 30 rfl rfl) rfl, xq_12_22⟩
theorem xq_12_20 : xOKs xsg xm_12 xk_12_0 xk_12_20 := ⟨xok_ld (xl_aload_n (by decide +kernel : decode xm_12.2.1 78 = .ok (.aload_n 0, 1))) rfl, xq_12_21⟩
theorem xq_12_19 : xOKs xsg xm_12 xk_12_0 xk_12_19 := ⟨xok_retI (by decide +kernel : decode xm_12.2.1 77 = .ok (.ireturn, 1)) rfl, xq_12_20⟩
theorem xq_12_18 : xOKs xsg xm_12 xk_12_0 xk_12_18 := ⟨xok_p (xp_iconst (v := 0) (by decide +kernel : decode xm_12.2.1 76 = .ok (.iconst 0, 1)) (by decide)) rfl, xq_12_19⟩
theorem xq_12_17 : xOKs xsg xm_12 xk_12_0 xk_12_17 := ⟨xok_none, xq_12_18⟩
theorem xq_12_16 : xOKs xsg xm_12 xk_12_0 xk_12_16 := ⟨xok_none, xq_12_17⟩
theorem xq_12_15 : xOKs xsg xm_12 xk_12_0 xk_12_15 := ⟨xok_none, xq_12_16⟩
theorem xq_12_14 : xOKs xsg xm_12 xk_12_0 xk_12_14 := ⟨xok_none, xq_12_15⟩
theorem xq_12_13 : xOKs xsg xm_12 xk_12_0 xk_12_13 := ⟨xok_br (tgt := 76) (xb_eq (by decide +kernel : decode xm_12.2.1 63 = .ok (.ifCond .eq 13, 3)) (by decide)) (by decide +kernel) rfl, xq_12_14⟩
theorem xq_12_12 : xOKs xsg xm_12 xk_12_0 xk_12_12 := ⟨xok_get (by decide +kernel : decode xm_12.2.1 60 = .ok (.getfield 132, 3)) (rfl : vwCl[11]? = some (RX11, TX11, 13)) inX11 (by decide) (xT_c3 29 rfl rfl) rfl, xq_12_13⟩
theorem xq_12_11 : xOKs xsg xm_12 xk_12_0 xk_12_11 := ⟨xok_ld (xl_aload_n (by decide +kernel : decode xm_12.2.1 59 = .ok (.aload_n 0, 1))) rfl, xq_12_12⟩
theorem xq_12_10 : xOKs xsg xm_12 xk_12_0 xk_12_10 := ⟨xok_retI (by decide +kernel : decode xm_12.2.1 58 = .ok (.ireturn, 1)) rfl, xq_12_11⟩
theorem xq_12_9 : xOKs xsg xm_12 xk_12_0 xk_12_9 := ⟨xok_p (xp_iconst (v := 0) (by decide +kernel : decode xm_12.2.1 57 = .ok (.iconst 0, 1)) (by decide)) rfl, xq_12_10⟩
theorem xq_12_8 : xOKs xsg xm_12 xk_12_0 xk_12_8 := ⟨xok_none, xq_12_9⟩
theorem xq_12_7 : xOKs xsg xm_12 xk_12_0 xk_12_7 := ⟨xok_none, xq_12_8⟩
theorem xq_12_6 : xOKs xsg xm_12 xk_12_0 xk_12_6 := ⟨xok_none, xq_12_7⟩
theorem xq_12_5 : xOKs xsg xm_12 xk_12_0 xk_12_5 := ⟨xok_none, xq_12_6⟩
theorem xq_12_4 : xOKs xsg xm_12 xk_12_0 xk_12_4 := ⟨xok_br (tgt := 57) (xb_eq (by decide +kernel : decode xm_12.2.1 44 = .ok (.ifCond .eq 13, 3)) (by decide)) (by decide +kernel) rfl, xq_12_5⟩
theorem xq_12_3 : xOKs xsg xm_12 xk_12_0 xk_12_3 := ⟨xok_get (by decide +kernel : decode xm_12.2.1 41 = .ok (.getfield 132, 3)) (rfl : vwCl[11]? = some (RX11, TX11, 13)) inX11 (by decide) (xT_c3 29 rfl rfl) rfl, xq_12_4⟩
theorem xq_12_2 : xOKs xsg xm_12 xk_12_0 xk_12_2 := ⟨xok_ld (xl_aload_n (by decide +kernel : decode xm_12.2.1 40 = .ok (.aload_n 0, 1))) rfl, xq_12_3⟩
theorem xq_12_1 : xOKs xsg xm_12 xk_12_0 xk_12_1 := ⟨xok_sw (by decide +kernel : decode xm_12.2.1 1 = .ok (.tableswitch 111 0 5 #[39, 58, 77, 82, 90, 98], 39)) (by decide +kernel) (by decide +kernel), xq_12_2⟩
theorem xq_12_0 : xOKs xsg xm_12 xk_12_0 xk_12_0 := ⟨xok_ld (xl_iload_n (by decide +kernel : decode xm_12.2.1 0 = .ok (.iload_n 1, 1))) rfl, xq_12_1⟩
theorem xz_12 : xwf xsg xm_12 xk_12_0 := ⟨xq_12_0, rfl, by decide⟩
