/-! FeatherBenchModel.wrong(II)V -/
def xk_61_14 : xK := []
def xk_61_13 : xK := (22, xRet0) :: xk_61_14
def xk_61_12 : xK := (19, xPut 12 8 0) :: xk_61_13
def xk_61_11 : xK := (18, xPure xo_iadd) :: xk_61_12
def xk_61_10 : xK := (17, xPure xo_imul) :: xk_61_11
def xk_61_9 : xK := (16, xIal) :: xk_61_10
def xk_61_8 : xK := (15, xLd 2 xisI) :: xk_61_9
def xk_61_7 : xK := (12, xGet 12 5) :: xk_61_8
def xk_61_6 : xK := (11, xLd 0 xisA) :: xk_61_7
def xk_61_5 : xK := (9, xPure (xo_push (.int (16)))) :: xk_61_6
def xk_61_4 : xK := (8, xLd 1 xisI) :: xk_61_5
def xk_61_3 : xK := (7, xLd 0 xisA) :: xk_61_4
def xk_61_2 : xK := (4, xBr xc_ne 13) :: xk_61_3
def xk_61_1 : xK := (1, xGet 12 8) :: xk_61_2
def xk_61_0 : xK := (0, xLd 0 xisA) :: xk_61_1
theorem xq_61_14 : xOKs xsg xm_61 xk_61_0 xk_61_14 := trivial
theorem xq_61_13 : xOKs xsg xm_61 xk_61_0 xk_61_13 := ⟨xok_ret0 (by decide +kernel : decode xm_61.2.1 22 = .ok (.return_, 1)) rfl, xq_61_14⟩
theorem xq_61_12 : xOKs xsg xm_61 xk_61_0 xk_61_12 := ⟨xok_put (by decide +kernel : decode xm_61.2.1 19 = .ok (.putfield 300, 3)) (rfl : vwCl[12]? = some (RX12, TX12, 125)) inX12 tyX12_ok nmX12 (k := 8) (by decide) rfl (xT_c6 69 rfl rfl) rfl, xq_61_13⟩
theorem xq_61_11 : xOKs xsg xm_61 xk_61_0 xk_61_11 := ⟨xok_p (xp_iadd (by decide +kernel : decode xm_61.2.1 18 = .ok (.iadd, 1))) rfl, xq_61_12⟩
theorem xq_61_10 : xOKs xsg xm_61 xk_61_0 xk_61_10 := ⟨xok_p (xp_imul (by decide +kernel : decode xm_61.2.1 17 = .ok (.imul, 1))) rfl, xq_61_11⟩
theorem xq_61_9 : xOKs xsg xm_61 xk_61_0 xk_61_9 := ⟨xok_ial (by decide +kernel : decode xm_61.2.1 16 = .ok (.iaload, 1)) rfl, xq_61_10⟩
theorem xq_61_8 : xOKs xsg xm_61 xk_61_0 xk_61_8 := ⟨xok_ld (xl_iload_n (by decide +kernel : decode xm_61.2.1 15 = .ok (.iload_n 2, 1))) rfl, xq_61_9⟩
theorem xq_61_7 : xOKs xsg xm_61 xk_61_0 xk_61_7 := ⟨xok_get (by decide +kernel : decode xm_61.2.1 12 = .ok (.getfield 16, 3)) (rfl : vwCl[12]? = some (RX12, TX12, 125)) inX12 (by decide) (xT_c6 66 rfl rfl) rfl, xq_61_8⟩
theorem xq_61_6 : xOKs xsg xm_61 xk_61_0 xk_61_6 := ⟨xok_ld (xl_aload_n (by decide +kernel : decode xm_61.2.1 11 = .ok (.aload_n 0, 1))) rfl, xq_61_7⟩
theorem xq_61_5 : xOKs xsg xm_61 xk_61_0 xk_61_5 := ⟨xok_p (xp_bipush (v := 16) (by decide +kernel : decode xm_61.2.1 9 = .ok (.bipush 16, 2)) (by decide)) rfl, xq_61_6⟩
theorem xq_61_4 : xOKs xsg xm_61 xk_61_0 xk_61_4 := ⟨xok_ld (xl_iload_n (by decide +kernel : decode xm_61.2.1 8 = .ok (.iload_n 1, 1))) rfl, xq_61_5⟩
theorem xq_61_3 : xOKs xsg xm_61 xk_61_0 xk_61_3 := ⟨xok_ld (xl_aload_n (by decide +kernel : decode xm_61.2.1 7 = .ok (.aload_n 0, 1))) rfl, xq_61_4⟩
theorem xq_61_2 : xOKs xsg xm_61 xk_61_0 xk_61_2 := ⟨xok_br (tgt := 22) (xb_ne (by decide +kernel : decode xm_61.2.1 4 = .ok (.ifCond .ne 18, 3)) (by decide)) (by decide +kernel) rfl, xq_61_3⟩
theorem xq_61_1 : xOKs xsg xm_61 xk_61_0 xk_61_1 := ⟨xok_get (by decide +kernel : decode xm_61.2.1 1 = .ok (.getfield 300, 3)) (rfl : vwCl[12]? = some (RX12, TX12, 125)) inX12 (by decide) (xT_c6 69 rfl rfl) rfl, xq_61_2⟩
theorem xq_61_0 : xOKs xsg xm_61 xk_61_0 xk_61_0 := ⟨xok_ld (xl_aload_n (by decide +kernel : decode xm_61.2.1 0 = .ok (.aload_n 0, 1))) rfl, xq_61_1⟩
theorem xz_61 : xwf xsg xm_61 xk_61_0 := ⟨xq_61_0, rfl, by decide⟩
/-! FeatherBenchModel.isSign(I)Z -/
def xk_62_21 : xK := []
def xk_62_20 : xK := (38, xRetZ) :: xk_62_21
def xk_62_19 : xK := (37, xPure (xo_push (.int (0)))) :: xk_62_20
def xk_62_18 : xK := (34, xNone) :: xk_62_19
def xk_62_17 : xK := (33, xNone) :: xk_62_18
def xk_62_16 : xK := (30, xNone) :: xk_62_17
def xk_62_15 : xK := (29, xNone) :: xk_62_16
def xk_62_14 : xK := (28, xNone) :: xk_62_15
def xk_62_13 : xK := (25, xNone) :: xk_62_14
def xk_62_12 : xK := (24, xNone) :: xk_62_13
def xk_62_11 : xK := (21, xNone) :: xk_62_12
def xk_62_10 : xK := (20, xNone) :: xk_62_11
def xk_62_9 : xK := (17, xNone) :: xk_62_10
def xk_62_8 : xK := (16, xNone) :: xk_62_9
def xk_62_7 : xK := (15, xNone) :: xk_62_8
def xk_62_6 : xK := (12, xNone) :: xk_62_7
def xk_62_5 : xK := (11, xNone) :: xk_62_6
def xk_62_4 : xK := (8, xNone) :: xk_62_5
def xk_62_3 : xK := (7, xNone) :: xk_62_4
def xk_62_2 : xK := (4, xBr xc_ne 19) :: xk_62_3
def xk_62_1 : xK := (1, xGet 12 8) :: xk_62_2
def xk_62_0 : xK := (0, xLd 0 xisA) :: xk_62_1
theorem xq_62_21 : xOKs xsg xm_62 xk_62_0 xk_62_21 := trivial
theorem xq_62_20 : xOKs xsg xm_62 xk_62_0 xk_62_20 := ⟨xok_retZ (by decide +kernel : decode xm_62.2.1 38 = .ok (.ireturn, 1)) rfl, xq_62_21⟩
theorem xq_62_19 : xOKs xsg xm_62 xk_62_0 xk_62_19 := ⟨xok_p (xp_iconst (v := 0) (by decide +kernel : decode xm_62.2.1 37 = .ok (.iconst 0, 1)) (by decide)) rfl, xq_62_20⟩
theorem xq_62_18 : xOKs xsg xm_62 xk_62_0 xk_62_18 := ⟨xok_none, xq_62_19⟩
theorem xq_62_17 : xOKs xsg xm_62 xk_62_0 xk_62_17 := ⟨xok_none, xq_62_18⟩
theorem xq_62_16 : xOKs xsg xm_62 xk_62_0 xk_62_16 := ⟨xok_none, xq_62_17⟩
theorem xq_62_15 : xOKs xsg xm_62 xk_62_0 xk_62_15 := ⟨xok_none, xq_62_16⟩
theorem xq_62_14 : xOKs xsg xm_62 xk_62_0 xk_62_14 := ⟨xok_none, xq_62_15⟩
theorem xq_62_13 : xOKs xsg xm_62 xk_62_0 xk_62_13 := ⟨xok_none, xq_62_14⟩
theorem xq_62_12 : xOKs xsg xm_62 xk_62_0 xk_62_12 := ⟨xok_none, xq_62_13⟩
theorem xq_62_11 : xOKs xsg xm_62 xk_62_0 xk_62_11 := ⟨xok_none, xq_62_12⟩
theorem xq_62_10 : xOKs xsg xm_62 xk_62_0 xk_62_10 := ⟨xok_none, xq_62_11⟩
theorem xq_62_9 : xOKs xsg xm_62 xk_62_0 xk_62_9 := ⟨xok_none, xq_62_10⟩
theorem xq_62_8 : xOKs xsg xm_62 xk_62_0 xk_62_8 := ⟨xok_none, xq_62_9⟩
theorem xq_62_7 : xOKs xsg xm_62 xk_62_0 xk_62_7 := ⟨xok_none, xq_62_8⟩
theorem xq_62_6 : xOKs xsg xm_62 xk_62_0 xk_62_6 := ⟨xok_none, xq_62_7⟩
theorem xq_62_5 : xOKs xsg xm_62 xk_62_0 xk_62_5 := ⟨xok_none, xq_62_6⟩
theorem xq_62_4 : xOKs xsg xm_62 xk_62_0 xk_62_4 := ⟨xok_none, xq_62_5⟩
theorem xq_62_3 : xOKs xsg xm_62 xk_62_0 xk_62_3 := ⟨xok_none, xq_62_4⟩
theorem xq_62_2 : xOKs xsg xm_62 xk_62_0 xk_62_2 := ⟨xok_br (tgt := 37) (xb_ne (by decide +kernel : decode xm_62.2.1 4 = .ok (.ifCond .ne 33, 3)) (by decide)) (by decide +kernel) rfl, xq_62_3⟩
theorem xq_62_1 : xOKs xsg xm_62 xk_62_0 xk_62_1 := ⟨xok_get (by decide +kernel : decode xm_62.2.1 1 = .ok (.getfield 300, 3)) (rfl : vwCl[12]? = some (RX12, TX12, 125)) inX12 (by decide) (xT_c6 69 rfl rfl) rfl, xq_62_2⟩
theorem xq_62_0 : xOKs xsg xm_62 xk_62_0 xk_62_0 := ⟨xok_ld (xl_aload_n (by decide +kernel : decode xm_62.2.1 0 = .ok (.aload_n 0, 1))) rfl, xq_62_1⟩
theorem xz_62 : xwf xsg xm_62 xk_62_0 := ⟨xq_62_0, rfl, by decide⟩
/-! FeatherBenchModel.isWord(I)Z -/
def xk_63_21 : xK := []
def xk_63_20 : xK := (38, xRetZ) :: xk_63_21
def xk_63_19 : xK := (37, xPure (xo_push (.int (0)))) :: xk_63_20
def xk_63_18 : xK := (34, xNone) :: xk_63_19
def xk_63_17 : xK := (33, xNone) :: xk_63_18
def xk_63_16 : xK := (30, xNone) :: xk_63_17
def xk_63_15 : xK := (29, xNone) :: xk_63_16
def xk_63_14 : xK := (28, xNone) :: xk_63_15
def xk_63_13 : xK := (25, xNone) :: xk_63_14
def xk_63_12 : xK := (24, xNone) :: xk_63_13
def xk_63_11 : xK := (21, xNone) :: xk_63_12
def xk_63_10 : xK := (20, xNone) :: xk_63_11
def xk_63_9 : xK := (17, xBr xc_ine 19) :: xk_63_10
def xk_63_8 : xK := (16, xPure (xo_push (.int (1)))) :: xk_63_9
def xk_63_7 : xK := (15, xIal) :: xk_63_8
def xk_63_6 : xK := (12, xGet 12 7) :: xk_63_7
def xk_63_5 : xK := (11, xLd 0 xisA) :: xk_63_6
def xk_63_4 : xK := (8, xGet 12 4) :: xk_63_5
def xk_63_3 : xK := (7, xLd 0 xisA) :: xk_63_4
def xk_63_2 : xK := (4, xBr xc_ne 19) :: xk_63_3
def xk_63_1 : xK := (1, xGet 12 8) :: xk_63_2
def xk_63_0 : xK := (0, xLd 0 xisA) :: xk_63_1
theorem xq_63_21 : xOKs xsg xm_63 xk_63_0 xk_63_21 := trivial
theorem xq_63_20 : xOKs xsg xm_63 xk_63_0 xk_63_20 := ⟨xok_retZ (by decide +kernel : decode xm_63.2.1 38 = .ok (.ireturn, 1)) rfl, xq_63_21⟩
theorem xq_63_19 : xOKs xsg xm_63 xk_63_0 xk_63_19 := ⟨xok_p (xp_iconst (v := 0) (by decide +kernel : decode xm_63.2.1 37 = .ok (.iconst 0, 1)) (by decide)) rfl, xq_63_20⟩
theorem xq_63_18 : xOKs xsg xm_63 xk_63_0 xk_63_18 := ⟨xok_none, xq_63_19⟩
theorem xq_63_17 : xOKs xsg xm_63 xk_63_0 xk_63_17 := ⟨xok_none, xq_63_18⟩
theorem xq_63_16 : xOKs xsg xm_63 xk_63_0 xk_63_16 := ⟨xok_none, xq_63_17⟩
theorem xq_63_15 : xOKs xsg xm_63 xk_63_0 xk_63_15 := ⟨xok_none, xq_63_16⟩
theorem xq_63_14 : xOKs xsg xm_63 xk_63_0 xk_63_14 := ⟨xok_none, xq_63_15⟩
theorem xq_63_13 : xOKs xsg xm_63 xk_63_0 xk_63_13 := ⟨xok_none, xq_63_14⟩
theorem xq_63_12 : xOKs xsg xm_63 xk_63_0 xk_63_12 := ⟨xok_none, xq_63_13⟩
theorem xq_63_11 : xOKs xsg xm_63 xk_63_0 xk_63_11 := ⟨xok_none, xq_63_12⟩
theorem xq_63_10 : xOKs xsg xm_63 xk_63_0 xk_63_10 := ⟨xok_none, xq_63_11⟩
theorem xq_63_9 : xOKs xsg xm_63 xk_63_0 xk_63_9 := ⟨xok_br (tgt := 37) (xb_ine (by decide +kernel : decode xm_63.2.1 17 = .ok (.if_icmp .ne 20, 3)) (by decide)) (by decide +kernel) rfl, xq_63_10⟩
theorem xq_63_8 : xOKs xsg xm_63 xk_63_0 xk_63_8 := ⟨xok_p (xp_iconst (v := 1) (by decide +kernel : decode xm_63.2.1 16 = .ok (.iconst 1, 1)) (by decide)) rfl, xq_63_9⟩
theorem xq_63_7 : xOKs xsg xm_63 xk_63_0 xk_63_7 := ⟨xok_ial (by decide +kernel : decode xm_63.2.1 15 = .ok (.iaload, 1)) rfl, xq_63_8⟩
theorem xq_63_6 : xOKs xsg xm_63 xk_63_0 xk_63_6 := ⟨xok_get (by decide +kernel : decode xm_63.2.1 12 = .ok (.getfield 297, 3)) (rfl : vwCl[12]? = some (RX12, TX12, 125)) inX12 (by decide) (xT_c6 68 rfl rfl) rfl, xq_63_7⟩
theorem xq_63_5 : xOKs xsg xm_63 xk_63_0 xk_63_5 := ⟨xok_ld (xl_aload_n (by decide +kernel : decode xm_63.2.1 11 = .ok (.aload_n 0, 1))) rfl, xq_63_6⟩
theorem xq_63_4 : xOKs xsg xm_63 xk_63_0 xk_63_4 := ⟨xok_get (by decide +kernel : decode xm_63.2.1 8 = .ok (.getfield 13, 3)) (rfl : vwCl[12]? = some (RX12, TX12, 125)) inX12 (by decide) (xT_c6 65 rfl rfl) rfl, xq_63_5⟩
theorem xq_63_3 : xOKs xsg xm_63 xk_63_0 xk_63_3 := ⟨xok_ld (xl_aload_n (by decide +kernel : decode xm_63.2.1 7 = .ok (.aload_n 0, 1))) rfl, xq_63_4⟩
theorem xq_63_2 : xOKs xsg xm_63 xk_63_0 xk_63_2 := ⟨xok_br (tgt := 37) (xb_ne (by decide +kernel : decode xm_63.2.1 4 = .ok (.ifCond .ne 33, 3)) (by decide)) (by decide +kernel) rfl, xq_63_3⟩
theorem xq_63_1 : xOKs xsg xm_63 xk_63_0 xk_63_1 := ⟨xok_get (by decide +kernel : decode xm_63.2.1 1 = .ok (.getfield 300, 3)) (rfl : vwCl[12]? = some (RX12, TX12, 125)) inX12 (by decide) (xT_c6 69 rfl rfl) rfl, xq_63_2⟩
theorem xq_63_0 : xOKs xsg xm_63 xk_63_0 xk_63_0 := ⟨xok_ld (xl_aload_n (by decide +kernel : decode xm_63.2.1 0 = .ok (.aload_n 0, 1))) rfl, xq_63_1⟩
theorem xz_63 : xwf xsg xm_63 xk_63_0 := ⟨xq_63_0, rfl, by decide⟩
/-! FeatherBenchModel.isName()Z -/
def xk_64_21 : xK := []
def xk_64_20 : xK := (38, xRetZ) :: xk_64_21
def xk_64_19 : xK := (37, xPure (xo_push (.int (0)))) :: xk_64_20
def xk_64_18 : xK := (34, xNone) :: xk_64_19
def xk_64_17 : xK := (33, xNone) :: xk_64_18
def xk_64_16 : xK := (30, xNone) :: xk_64_17
def xk_64_15 : xK := (29, xNone) :: xk_64_16
def xk_64_14 : xK := (28, xNone) :: xk_64_15
def xk_64_13 : xK := (25, xNone) :: xk_64_14
def xk_64_12 : xK := (24, xNone) :: xk_64_13
def xk_64_11 : xK := (21, xNone) :: xk_64_12
def xk_64_10 : xK := (20, xNone) :: xk_64_11
def xk_64_9 : xK := (17, xBr xc_ine 19) :: xk_64_10
def xk_64_8 : xK := (16, xPure (xo_push (.int (1)))) :: xk_64_9
def xk_64_7 : xK := (15, xIal) :: xk_64_8
def xk_64_6 : xK := (12, xGet 12 7) :: xk_64_7
def xk_64_5 : xK := (11, xLd 0 xisA) :: xk_64_6
def xk_64_4 : xK := (8, xGet 12 4) :: xk_64_5
def xk_64_3 : xK := (7, xLd 0 xisA) :: xk_64_4
def xk_64_2 : xK := (4, xBr xc_ne 19) :: xk_64_3
def xk_64_1 : xK := (1, xGet 12 8) :: xk_64_2
def xk_64_0 : xK := (0, xLd 0 xisA) :: xk_64_1
theorem xq_64_21 : xOKs xsg xm_64 xk_64_0 xk_64_21 := trivial
theorem xq_64_20 : xOKs xsg xm_64 xk_64_0 xk_64_20 := ⟨xok_retZ (by decide +kernel : decode xm_64.2.1 38 = .ok (.ireturn, 1)) rfl, xq_64_21⟩
theorem xq_64_19 : xOKs xsg xm_64 xk_64_0 xk_64_19 := ⟨xok_p (xp_iconst (v := 0) (by decide +kernel : decode xm_64.2.1 37 = .ok (.iconst 0, 1)) (by decide)) rfl, xq_64_20⟩
theorem xq_64_18 : xOKs xsg xm_64 xk_64_0 xk_64_18 := ⟨xok_none, xq_64_19⟩
theorem xq_64_17 : xOKs xsg xm_64 xk_64_0 xk_64_17 := ⟨xok_none, xq_64_18⟩
theorem xq_64_16 : xOKs xsg xm_64 xk_64_0 xk_64_16 := ⟨xok_none, xq_64_17⟩
theorem xq_64_15 : xOKs xsg xm_64 xk_64_0 xk_64_15 := ⟨xok_none, xq_64_16⟩
theorem xq_64_14 : xOKs xsg xm_64 xk_64_0 xk_64_14 := ⟨xok_none, xq_64_15⟩
theorem xq_64_13 : xOKs xsg xm_64 xk_64_0 xk_64_13 := ⟨xok_none, xq_64_14⟩
theorem xq_64_12 : xOKs xsg xm_64 xk_64_0 xk_64_12 := ⟨xok_none, xq_64_13⟩
theorem xq_64_11 : xOKs xsg xm_64 xk_64_0 xk_64_11 := ⟨xok_none, xq_64_12⟩
theorem xq_64_10 : xOKs xsg xm_64 xk_64_0 xk_64_10 := ⟨xok_none, xq_64_11⟩
theorem xq_64_9 : xOKs xsg xm_64 xk_64_0 xk_64_9 := ⟨xok_br (tgt := 37) (xb_ine (by decide +kernel : decode xm_64.2.1 17 = .ok (.if_icmp .ne 20, 3)) (by decide)) (by decide +kernel) rfl, xq_64_10⟩
theorem xq_64_8 : xOKs xsg xm_64 xk_64_0 xk_64_8 := ⟨xok_p (xp_iconst (v := 1) (by decide +kernel : decode xm_64.2.1 16 = .ok (.iconst 1, 1)) (by decide)) rfl, xq_64_9⟩
theorem xq_64_7 : xOKs xsg xm_64 xk_64_0 xk_64_7 := ⟨xok_ial (by decide +kernel : decode xm_64.2.1 15 = .ok (.iaload, 1)) rfl, xq_64_8⟩
theorem xq_64_6 : xOKs xsg xm_64 xk_64_0 xk_64_6 := ⟨xok_get (by decide +kernel : decode xm_64.2.1 12 = .ok (.getfield 297, 3)) (rfl : vwCl[12]? = some (RX12, TX12, 125)) inX12 (by decide) (xT_c6 68 rfl rfl) rfl, xq_64_7⟩
theorem xq_64_5 : xOKs xsg xm_64 xk_64_0 xk_64_5 := ⟨xok_ld (xl_aload_n (by decide +kernel : decode xm_64.2.1 11 = .ok (.aload_n 0, 1))) rfl, xq_64_6⟩
theorem xq_64_4 : xOKs xsg xm_64 xk_64_0 xk_64_4 := ⟨xok_get (by decide +kernel : decode xm_64.2.1 8 = .ok (.getfield 13, 3)) (rfl : vwCl[12]? = some (RX12, TX12, 125)) inX12 (by decide) (xT_c6 65 rfl rfl) rfl, xq_64_5⟩
theorem xq_64_3 : xOKs xsg xm_64 xk_64_0 xk_64_3 := ⟨xok_ld (xl_aload_n (by decide +kernel : decode xm_64.2.1 7 = .ok (.aload_n 0, 1))) rfl, xq_64_4⟩
theorem xq_64_2 : xOKs xsg xm_64 xk_64_0 xk_64_2 := ⟨xok_br (tgt := 37) (xb_ne (by decide +kernel : decode xm_64.2.1 4 = .ok (.ifCond .ne 33, 3)) (by decide)) (by decide +kernel) rfl, xq_64_3⟩
theorem xq_64_1 : xOKs xsg xm_64 xk_64_0 xk_64_1 := ⟨xok_get (by decide +kernel : decode xm_64.2.1 1 = .ok (.getfield 300, 3)) (rfl : vwCl[12]? = some (RX12, TX12, 125)) inX12 (by decide) (xT_c6 69 rfl rfl) rfl, xq_64_2⟩
theorem xq_64_0 : xOKs xsg xm_64 xk_64_0 xk_64_0 := ⟨xok_ld (xl_aload_n (by decide +kernel : decode xm_64.2.1 0 = .ok (.aload_n 0, 1))) rfl, xq_64_1⟩
theorem xz_64 : xwf xsg xm_64 xk_64_0 := ⟨xq_64_0, rfl, by decide⟩
/-! FeatherBenchModel.takeSign(I)V -/
def xk_65_17 : xK := []
def xk_65_16 : xK := (30, xRet0) :: xk_65_17
def xk_65_15 : xK := (27, xCall 61 3 (some 12)) :: xk_65_16
def xk_65_14 : xK := (24, xGet 12 7) :: xk_65_15
def xk_65_13 : xK := (23, xLd 0 xisA) :: xk_65_14
def xk_65_12 : xK := (22, xPure (xo_push (.int (1)))) :: xk_65_13
def xk_65_11 : xK := (21, xLd 0 xisA) :: xk_65_12
def xk_65_10 : xK := (18, xNone) :: xk_65_11
def xk_65_9 : xK := (15, xNone) :: xk_65_10
def xk_65_8 : xK := (14, xNone) :: xk_65_9
def xk_65_7 : xK := (13, xNone) :: xk_65_8
def xk_65_6 : xK := (10, xNone) :: xk_65_7
def xk_65_5 : xK := (9, xNone) :: xk_65_6
def xk_65_4 : xK := (8, xNone) :: xk_65_5
def xk_65_3 : xK := (5, xBr xc_eq 11) :: xk_65_4
def xk_65_2 : xK := (2, xCall 62 2 (some 12)) :: xk_65_3
def xk_65_1 : xK := (1, xLd 1 xisI) :: xk_65_2
def xk_65_0 : xK := (0, xLd 0 xisA) :: xk_65_1
theorem xq_65_17 : xOKs xsg xm_65 xk_65_0 xk_65_17 := trivial
theorem xq_65_16 : xOKs xsg xm_65 xk_65_0 xk_65_16 := ⟨xok_ret0 (by decide +kernel : decode xm_65.2.1 30 = .ok (.return_, 1)) rfl, xq_65_17⟩
theorem xq_65_15 : xOKs xsg xm_65 xk_65_0 xk_65_15 := ⟨xok_callV (M' := xm_61) rfl (rfl : vwCl[12]? = some (RX12, TX12, 125)) (by decide +kernel : decode xm_65.2.1 27 = .ok (.invokevirtual 306, 3)) xn_61 (xT_c8 10 rfl rfl) (xT_c0 74 rfl rfl) (xT_c8 8 rfl rfl) rfl, xq_65_16⟩
theorem xq_65_14 : xOKs xsg xm_65 xk_65_0 xk_65_14 := ⟨xok_get (by decide +kernel : decode xm_65.2.1 24 = .ok (.getfield 297, 3)) (rfl : vwCl[12]? = some (RX12, TX12, 125)) inX12 (by decide) (xT_c6 68 rfl rfl) rfl, xq_65_15⟩
theorem xq_65_13 : xOKs xsg xm_65 xk_65_0 xk_65_13 := ⟨xok_ld (xl_aload_n (by decide +kernel : decode xm_65.2.1 23 = .ok (.aload_n 0, 1))) rfl, xq_65_14⟩
theorem xq_65_12 : xOKs xsg xm_65 xk_65_0 xk_65_12 := ⟨xok_p (xp_iconst (v := 1) (by decide +kernel : decode xm_65.2.1 22 = .ok (.iconst 1, 1)) (by decide)) rfl, xq_65_13⟩
theorem xq_65_11 : xOKs xsg xm_65 xk_65_0 xk_65_11 := ⟨xok_ld (xl_aload_n (by decide +kernel : decode xm_65.2.1 21 = .ok (.aload_n 0, 1))) rfl, xq_65_12⟩
theorem xq_65_10 : xOKs xsg xm_65 xk_65_0 xk_65_10 := ⟨xok_none, xq_65_11⟩
theorem xq_65_9 : xOKs xsg xm_65 xk_65_0 xk_65_9 := ⟨xok_none, xq_65_10⟩
theorem xq_65_8 : xOKs xsg xm_65 xk_65_0 xk_65_8 := ⟨xok_none, xq_65_9⟩
theorem xq_65_7 : xOKs xsg xm_65 xk_65_0 xk_65_7 := ⟨xok_none, xq_65_8⟩
theorem xq_65_6 : xOKs xsg xm_65 xk_65_0 xk_65_6 := ⟨xok_none, xq_65_7⟩
theorem xq_65_5 : xOKs xsg xm_65 xk_65_0 xk_65_5 := ⟨xok_none, xq_65_6⟩
theorem xq_65_4 : xOKs xsg xm_65 xk_65_0 xk_65_4 := ⟨xok_none, xq_65_5⟩
theorem xq_65_3 : xOKs xsg xm_65 xk_65_0 xk_65_3 := ⟨xok_br (tgt := 21) (xb_eq (by decide +kernel : decode xm_65.2.1 5 = .ok (.ifCond .eq 16, 3)) (by decide)) (by decide +kernel) rfl, xq_65_4⟩
theorem xq_65_2 : xOKs xsg xm_65 xk_65_0 xk_65_2 := ⟨xok_callV (M' := xm_62) rfl (rfl : vwCl[12]? = some (RX12, TX12, 125)) (by decide +kernel : decode xm_65.2.1 2 = .ok (.invokevirtual 303, 3)) xn_62 (xT_c8 22 rfl rfl) (xT_c0 77 rfl rfl) (xT_c8 20 rfl rfl) rfl, xq_65_3⟩
theorem xq_65_1 : xOKs xsg xm_65 xk_65_0 xk_65_1 := ⟨xok_ld (xl_iload_n (by decide +kernel : decode xm_65.2.1 1 = .ok (.iload_n 1, 1))) rfl, xq_65_2⟩
theorem xq_65_0 : xOKs xsg xm_65 xk_65_0 xk_65_0 := ⟨xok_ld (xl_aload_n (by decide +kernel : decode xm_65.2.1 0 = .ok (.aload_n 0, 1))) rfl, xq_65_1⟩
theorem xz_65 : xwf xsg xm_65 xk_65_0 := ⟨xq_65_0, rfl, by decide⟩
/-! FeatherBenchModel.takeWord(I)V -/
def xk_66_17 : xK := []
def xk_66_16 : xK := (30, xRet0) :: xk_66_17
def xk_66_15 : xK := (27, xCall 61 3 (some 12)) :: xk_66_16
def xk_66_14 : xK := (24, xGet 12 7) :: xk_66_15
def xk_66_13 : xK := (23, xLd 0 xisA) :: xk_66_14
def xk_66_12 : xK := (22, xPure (xo_push (.int (1)))) :: xk_66_13
def xk_66_11 : xK := (21, xLd 0 xisA) :: xk_66_12
def xk_66_10 : xK := (18, xNone) :: xk_66_11
def xk_66_9 : xK := (15, xNone) :: xk_66_10
def xk_66_8 : xK := (14, xNone) :: xk_66_9
def xk_66_7 : xK := (13, xNone) :: xk_66_8
def xk_66_6 : xK := (10, xNone) :: xk_66_7
def xk_66_5 : xK := (9, xNone) :: xk_66_6
def xk_66_4 : xK := (8, xNone) :: xk_66_5
def xk_66_3 : xK := (5, xBr xc_eq 11) :: xk_66_4
def xk_66_2 : xK := (2, xCall 63 2 (some 12)) :: xk_66_3
def xk_66_1 : xK := (1, xLd 1 xisI) :: xk_66_2
def xk_66_0 : xK := (0, xLd 0 xisA) :: xk_66_1
theorem xq_66_17 : xOKs xsg xm_66 xk_66_0 xk_66_17 := trivial
theorem xq_66_16 : xOKs xsg xm_66 xk_66_0 xk_66_16 := ⟨xok_ret0 (by decide +kernel : decode xm_66.2.1 30 = .ok (.return_, 1)) rfl, xq_66_17⟩
theorem xq_66_15 : xOKs xsg xm_66 xk_66_0 xk_66_15 := ⟨xok_callV (M' := xm_61) rfl (rfl : vwCl[12]? = some (RX12, TX12, 125)) (by decide +kernel : decode xm_66.2.1 27 = .ok (.invokevirtual 306, 3)) xn_61 (xT_c8 10 rfl rfl) (xT_c0 74 rfl rfl) (xT_c8 8 rfl rfl) rfl, xq_66_16⟩
theorem xq_66_14 : xOKs xsg xm_66 xk_66_0 xk_66_14 := ⟨xok_get (by decide +kernel : decode xm_66.2.1 24 = .ok (.getfield 297, 3)) (rfl : vwCl[12]? = some (RX12, TX12, 125)) inX12 (by decide) (xT_c6 68 rfl rfl) rfl, xq_66_15⟩
theorem xq_66_13 : xOKs xsg xm_66 xk_66_0 xk_66_13 := ⟨xok_ld (xl_aload_n (by decide +kernel : decode xm_66.2.1 23 = .ok (.aload_n 0, 1))) rfl, xq_66_14⟩
theorem xq_66_12 : xOKs xsg xm_66 xk_66_0 xk_66_12 := ⟨xok_p (xp_iconst (v := 1) (by decide +kernel : decode xm_66.2.1 22 = .ok (.iconst 1, 1)) (by decide)) rfl, xq_66_13⟩
theorem xq_66_11 : xOKs xsg xm_66 xk_66_0 xk_66_11 := ⟨xok_ld (xl_aload_n (by decide +kernel : decode xm_66.2.1 21 = .ok (.aload_n 0, 1))) rfl, xq_66_12⟩
theorem xq_66_10 : xOKs xsg xm_66 xk_66_0 xk_66_10 := ⟨xok_none, xq_66_11⟩
theorem xq_66_9 : xOKs xsg xm_66 xk_66_0 xk_66_9 := ⟨xok_none, xq_66_10⟩
theorem xq_66_8 : xOKs xsg xm_66 xk_66_0 xk_66_8 := ⟨xok_none, xq_66_9⟩
theorem xq_66_7 : xOKs xsg xm_66 xk_66_0 xk_66_7 := ⟨xok_none, xq_66_8⟩
theorem xq_66_6 : xOKs xsg xm_66 xk_66_0 xk_66_6 := ⟨xok_none, xq_66_7⟩
theorem xq_66_5 : xOKs xsg xm_66 xk_66_0 xk_66_5 := ⟨xok_none, xq_66_6⟩
theorem xq_66_4 : xOKs xsg xm_66 xk_66_0 xk_66_4 := ⟨xok_none, xq_66_5⟩
theorem xq_66_3 : xOKs xsg xm_66 xk_66_0 xk_66_3 := ⟨xok_br (tgt := 21) (xb_eq (by decide +kernel : decode xm_66.2.1 5 = .ok (.ifCond .eq 16, 3)) (by decide)) (by decide +kernel) rfl, xq_66_4⟩
theorem xq_66_2 : xOKs xsg xm_66 xk_66_0 xk_66_2 := ⟨xok_callV (M' := xm_63) rfl (rfl : vwCl[12]? = some (RX12, TX12, 125)) (by decide +kernel : decode xm_66.2.1 2 = .ok (.invokevirtual 310, 3)) xn_63 (xT_c8 2 rfl rfl) (xT_c0 72 rfl rfl) (xT_c8 0 rfl rfl) rfl, xq_66_3⟩
theorem xq_66_1 : xOKs xsg xm_66 xk_66_0 xk_66_1 := ⟨xok_ld (xl_iload_n (by decide +kernel : decode xm_66.2.1 1 = .ok (.iload_n 1, 1))) rfl, xq_66_2⟩
theorem xq_66_0 : xOKs xsg xm_66 xk_66_0 xk_66_0 := ⟨xok_ld (xl_aload_n (by decide +kernel : decode xm_66.2.1 0 = .ok (.aload_n 0, 1))) rfl, xq_66_1⟩
theorem xz_66 : xwf xsg xm_66 xk_66_0 := ⟨xq_66_0, rfl, by decide⟩
/-! FeatherBenchModel.node(I)I -/
def xk_67_66 : xK := []
def xk_67_65 : xK := (109, xRetI) :: xk_67_66
def xk_67_64 : xK := (108, xPure xo_isub) :: xk_67_65
def xk_67_63 : xK := (107, xPure (xo_push (.int (1)))) :: xk_67_64
def xk_67_62 : xK := (104, xGet 12 26) :: xk_67_63
def xk_67_61 : xK := (103, xLd 0 xisA) :: xk_67_62
def xk_67_60 : xK := (100, xPut 12 26 0) :: xk_67_61
def xk_67_59 : xK := (99, xPure xo_iadd) :: xk_67_60
def xk_67_58 : xK := (98, xPure (xo_push (.int (1)))) :: xk_67_59
def xk_67_57 : xK := (95, xGet 12 26) :: xk_67_58
def xk_67_56 : xK := (94, xPure xo_dup) :: xk_67_57
def xk_67_55 : xK := (93, xLd 0 xisA) :: xk_67_56
def xk_67_54 : xK := (92, xIas) :: xk_67_55
def xk_67_53 : xK := (91, xPure (xo_push (.int (0)))) :: xk_67_54
def xk_67_52 : xK := (88, xGet 12 26) :: xk_67_53
def xk_67_51 : xK := (87, xLd 0 xisA) :: xk_67_52
def xk_67_50 : xK := (84, xGet 12 23) :: xk_67_51
def xk_67_49 : xK := (83, xLd 0 xisA) :: xk_67_50
def xk_67_48 : xK := (82, xIas) :: xk_67_49
def xk_67_47 : xK := (81, xPure (xo_push (.int (-1)))) :: xk_67_48
def xk_67_46 : xK := (78, xGet 12 26) :: xk_67_47
def xk_67_45 : xK := (77, xLd 0 xisA) :: xk_67_46
def xk_67_44 : xK := (74, xGet 12 22) :: xk_67_45
def xk_67_43 : xK := (73, xLd 0 xisA) :: xk_67_44
def xk_67_42 : xK := (72, xIas) :: xk_67_43
def xk_67_41 : xK := (71, xPure (xo_push (.int (-1)))) :: xk_67_42
def xk_67_40 : xK := (68, xGet 12 26) :: xk_67_41
def xk_67_39 : xK := (67, xLd 0 xisA) :: xk_67_40
def xk_67_38 : xK := (64, xGet 12 21) :: xk_67_39
def xk_67_37 : xK := (63, xLd 0 xisA) :: xk_67_38
def xk_67_36 : xK := (62, xIas) :: xk_67_37
def xk_67_35 : xK := (61, xPure (xo_push (.int (-1)))) :: xk_67_36
def xk_67_34 : xK := (58, xGet 12 26) :: xk_67_35
def xk_67_33 : xK := (57, xLd 0 xisA) :: xk_67_34
def xk_67_32 : xK := (54, xGet 12 20) :: xk_67_33
def xk_67_31 : xK := (53, xLd 0 xisA) :: xk_67_32
def xk_67_30 : xK := (52, xIas) :: xk_67_31
def xk_67_29 : xK := (51, xPure (xo_push (.int (0)))) :: xk_67_30
def xk_67_28 : xK := (48, xGet 12 26) :: xk_67_29
def xk_67_27 : xK := (47, xLd 0 xisA) :: xk_67_28
def xk_67_26 : xK := (44, xGet 12 19) :: xk_67_27
def xk_67_25 : xK := (43, xLd 0 xisA) :: xk_67_26
def xk_67_24 : xK := (42, xIas) :: xk_67_25
def xk_67_23 : xK := (41, xPure (xo_push (.int (-1)))) :: xk_67_24
def xk_67_22 : xK := (38, xGet 12 26) :: xk_67_23
def xk_67_21 : xK := (37, xLd 0 xisA) :: xk_67_22
def xk_67_20 : xK := (34, xGet 12 18) :: xk_67_21
def xk_67_19 : xK := (33, xLd 0 xisA) :: xk_67_20
def xk_67_18 : xK := (32, xIas) :: xk_67_19
def xk_67_17 : xK := (31, xPure (xo_push (.int (-1)))) :: xk_67_18
def xk_67_16 : xK := (28, xGet 12 26) :: xk_67_17
def xk_67_15 : xK := (27, xLd 0 xisA) :: xk_67_16
def xk_67_14 : xK := (24, xGet 12 17) :: xk_67_15
def xk_67_13 : xK := (23, xLd 0 xisA) :: xk_67_14
def xk_67_12 : xK := (22, xIas) :: xk_67_13
def xk_67_11 : xK := (19, xGet 12 7) :: xk_67_12
def xk_67_10 : xK := (18, xLd 0 xisA) :: xk_67_11
def xk_67_9 : xK := (15, xGet 12 26) :: xk_67_10
def xk_67_8 : xK := (14, xLd 0 xisA) :: xk_67_9
def xk_67_7 : xK := (11, xGet 12 15) :: xk_67_8
def xk_67_6 : xK := (10, xLd 0 xisA) :: xk_67_7
def xk_67_5 : xK := (9, xIas) :: xk_67_6
def xk_67_4 : xK := (8, xLd 1 xisI) :: xk_67_5
def xk_67_3 : xK := (5, xGet 12 26) :: xk_67_4
def xk_67_2 : xK := (4, xLd 0 xisA) :: xk_67_3
def xk_67_1 : xK := (1, xGet 12 14) :: xk_67_2
def xk_67_0 : xK := (0, xLd 0 xisA) :: xk_67_1
theorem xq_67_66 : xOKs xsg xm_67 xk_67_0 xk_67_66 := trivial
theorem xq_67_65 : xOKs xsg xm_67 xk_67_0 xk_67_65 := ⟨xok_retI (by decide +kernel : decode xm_67.2.1 109 = .ok (.ireturn, 1)) rfl, xq_67_66⟩
theorem xq_67_64 : xOKs xsg xm_67 xk_67_0 xk_67_64 := ⟨xok_p (xp_isub (by decide +kernel : decode xm_67.2.1 108 = .ok (.isub, 1))) rfl, xq_67_65⟩
theorem xq_67_63 : xOKs xsg xm_67 xk_67_0 xk_67_63 := ⟨xok_p (xp_iconst (v := 1) (by decide +kernel : decode xm_67.2.1 107 = .ok (.iconst 1, 1)) (by decide)) rfl, xq_67_64⟩
theorem xq_67_62 : xOKs xsg xm_67 xk_67_0 xk_67_62 := ⟨xok_get (by decide +kernel : decode xm_67.2.1 104 = .ok (.getfield 317, 3)) (rfl : vwCl[12]? = some (RX12, TX12, 125)) inX12 (by decide) (xT_c6 87 rfl rfl) rfl, xq_67_63⟩
theorem xq_67_61 : xOKs xsg xm_67 xk_67_0 xk_67_61 := ⟨xok_ld (xl_aload_n (by decide +kernel : decode xm_67.2.1 103 = .ok (.aload_n 0, 1))) rfl, xq_67_62⟩
theorem xq_67_60 : xOKs xsg xm_67 xk_67_0 xk_67_60 := ⟨xok_put (by decide +kernel : decode xm_67.2.1 100 = .ok (.putfield 317, 3)) (rfl : vwCl[12]? = some (RX12, TX12, 125)) inX12 tyX12_ok nmX12 (k := 26) (by decide) rfl (xT_c6 87 rfl rfl) rfl, xq_67_61⟩
theorem xq_67_59 : xOKs xsg xm_67 xk_67_0 xk_67_59 := ⟨xok_p (xp_iadd (by decide +kernel : decode xm_67.2.1 99 = .ok (.iadd, 1))) rfl, xq_67_60⟩
theorem xq_67_58 : xOKs xsg xm_67 xk_67_0 xk_67_58 := ⟨xok_p (xp_iconst (v := 1) (by decide +kernel : decode xm_67.2.1 98 = .ok (.iconst 1, 1)) (by decide)) rfl, xq_67_59⟩
theorem xq_67_57 : xOKs xsg xm_67 xk_67_0 xk_67_57 := ⟨xok_get (by decide +kernel : decode xm_67.2.1 95 = .ok (.getfield 317, 3)) (rfl : vwCl[12]? = some (RX12, TX12, 125)) inX12 (by decide) (xT_c6 87 rfl rfl) rfl, xq_67_58⟩
theorem xq_67_56 : xOKs xsg xm_67 xk_67_0 xk_67_56 := ⟨xok_p (xp_dup (by decide +kernel : decode xm_67.2.1 94 = .ok (.dup, 1))) rfl, xq_67_57⟩
theorem xq_67_55 : xOKs xsg xm_67 xk_67_0 xk_67_55 := ⟨xok_ld (xl_aload_n (by decide +kernel : decode xm_67.2.1 93 = .ok (.aload_n 0, 1))) rfl, xq_67_56⟩
theorem xq_67_54 : xOKs xsg xm_67 xk_67_0 xk_67_54 := ⟨xok_ias (by decide +kernel : decode xm_67.2.1 92 = .ok (.iastore, 1)) rfl, xq_67_55⟩
theorem xq_67_53 : xOKs xsg xm_67 xk_67_0 xk_67_53 := ⟨xok_p (xp_iconst (v := 0) (by decide +kernel : decode xm_67.2.1 91 = .ok (.iconst 0, 1)) (by decide)) rfl, xq_67_54⟩
theorem xq_67_52 : xOKs xsg xm_67 xk_67_0 xk_67_52 := ⟨xok_get (by decide +kernel : decode xm_67.2.1 88 = .ok (.getfield 317, 3)) (rfl : vwCl[12]? = some (RX12, TX12, 125)) inX12 (by decide) (xT_c6 87 rfl rfl) rfl, xq_67_53⟩
theorem xq_67_51 : xOKs xsg xm_67 xk_67_0 xk_67_51 := ⟨xok_ld (xl_aload_n (by decide +kernel : decode xm_67.2.1 87 = .ok (.aload_n 0, 1))) rfl, xq_67_52⟩
theorem xq_67_50 : xOKs xsg xm_67 xk_67_0 xk_67_50 := ⟨xok_get (by decide +kernel : decode xm_67.2.1 84 = .ok (.getfield 65, 3)) (rfl : vwCl[12]? = some (RX12, TX12, 125)) inX12 (by decide) (xT_c6 84 rfl rfl) rfl, xq_67_51⟩
theorem xq_67_49 : xOKs xsg xm_67 xk_67_0 xk_67_49 := ⟨xok_ld (xl_aload_n (by decide +kernel : decode xm_67.2.1 83 = .ok (.aload_n 0, 1))) rfl, xq_67_50⟩
theorem xq_67_48 : xOKs xsg xm_67 xk_67_0 xk_67_48 := ⟨xok_ias (by decide +kernel : decode xm_67.2.1 82 = .ok (.iastore, 1)) rfl, xq_67_49⟩
theorem xq_67_47 : xOKs xsg xm_67 xk_67_0 xk_67_47 := ⟨xok_p (xp_iconst (v := -1) (by decide +kernel : decode xm_67.2.1 81 = .ok (.iconst (-1), 1)) (by decide)) rfl, xq_67_48⟩
theorem xq_67_46 : xOKs xsg xm_67 xk_67_0 xk_67_46 := ⟨xok_get (by decide +kernel : decode xm_67.2.1 78 = .ok (.getfield 317, 3)) (rfl : vwCl[12]? = some (RX12, TX12, 125)) inX12 (by decide) (xT_c6 87 rfl rfl) rfl, xq_67_47⟩
theorem xq_67_45 : xOKs xsg xm_67 xk_67_0 xk_67_45 := ⟨xok_ld (xl_aload_n (by decide +kernel : decode xm_67.2.1 77 = .ok (.aload_n 0, 1))) rfl, xq_67_46⟩
theorem xq_67_44 : xOKs xsg xm_67 xk_67_0 xk_67_44 := ⟨xok_get (by decide +kernel : decode xm_67.2.1 74 = .ok (.getfield 62, 3)) (rfl : vwCl[12]? = some (RX12, TX12, 125)) inX12 (by decide) (xT_c6 83 rfl rfl) rfl, xq_67_45⟩
theorem xq_67_43 : xOKs xsg xm_67 xk_67_0 xk_67_43 := ⟨xok_ld (xl_aload_n (by decide +kernel : decode xm_67.2.1 73 = .ok (.aload_n 0, 1))) rfl, xq_67_44⟩
theorem xq_67_42 : xOKs xsg xm_67 xk_67_0 xk_67_42 := ⟨xok_ias (by decide +kernel : decode xm_67.2.1 72 = .ok (.iastore, 1)) rfl, xq_67_43⟩
theorem xq_67_41 : xOKs xsg xm_67 xk_67_0 xk_67_41 := ⟨xok_p (xp_iconst (v := -1) (by decide +kernel : decode xm_67.2.1 71 = .ok (.iconst (-1), 1)) (by decide)) rfl, xq_67_42⟩
theorem xq_67_40 : xOKs xsg xm_67 xk_67_0 xk_67_40 := ⟨xok_get (by decide +kernel : decode xm_67.2.1 68 = .ok (.getfield 317, 3)) (rfl : vwCl[12]? = some (RX12, TX12, 125)) inX12 (by decide) (xT_c6 87 rfl rfl) rfl, xq_67_41⟩
theorem xq_67_39 : xOKs xsg xm_67 xk_67_0 xk_67_39 := ⟨xok_ld (xl_aload_n (by decide +kernel : decode xm_67.2.1 67 = .ok (.aload_n 0, 1))) rfl, xq_67_40⟩
theorem xq_67_38 : xOKs xsg xm_67 xk_67_0 xk_67_38 := ⟨xok_get (by decide +kernel : decode xm_67.2.1 64 = .ok (.getfield 59, 3)) (rfl : vwCl[12]? = some (RX12, TX12, 125)) inX12 (by decide) (xT_c6 82 rfl rfl) rfl, xq_67_39⟩
theorem xq_67_37 : xOKs xsg xm_67 xk_67_0 xk_67_37 := ⟨xok_ld (xl_aload_n (by decide +kernel : decode xm_67.2.1 63 = .ok (.aload_n 0, 1))) rfl, xq_67_38⟩
theorem xq_67_36 : xOKs xsg xm_67 xk_67_0 xk_67_36 := ⟨xok_ias (by decide +kernel : decode xm_67.2.1 62 = .ok (.iastore, 1)) rfl, xq_67_37⟩
theorem xq_67_35 : xOKs xsg xm_67 xk_67_0 xk_67_35 := ⟨xok_p (xp_iconst (v := -1) (by decide +kernel : decode xm_67.2.1 61 = .ok (.iconst (-1), 1)) (by decide)) rfl, xq_67_36⟩
theorem xq_67_34 : xOKs xsg xm_67 xk_67_0 xk_67_34 := ⟨xok_get (by decide +kernel : decode xm_67.2.1 58 = .ok (.getfield 317, 3)) (rfl : vwCl[12]? = some (RX12, TX12, 125)) inX12 (by decide) (xT_c6 87 rfl rfl) rfl, xq_67_35⟩
theorem xq_67_33 : xOKs xsg xm_67 xk_67_0 xk_67_33 := ⟨xok_ld (xl_aload_n (by decide +kernel : decode xm_67.2.1 57 = .ok (.aload_n 0, 1))) rfl, xq_67_34⟩
theorem xq_67_32 : xOKs xsg xm_67 xk_67_0 xk_67_32 := ⟨xok_get (by decide +kernel : decode xm_67.2.1 54 = .ok (.getfield 56, 3)) (rfl : vwCl[12]? = some (RX12, TX12, 125)) inX12 (by decide) (xT_c6 81 rfl rfl) rfl, xq_67_33⟩
theorem xq_67_31 : xOKs xsg xm_67 xk_67_0 xk_67_31 := ⟨xok_ld (xl_aload_n (by decide +kernel : decode xm_67.2.1 53 = .ok (.aload_n 0, 1))) rfl, xq_67_32⟩
theorem xq_67_30 : xOKs xsg xm_67 xk_67_0 xk_67_30 := ⟨xok_ias (by decide +kernel : decode xm_67.2.1 52 = .ok (.iastore, 1)) rfl, xq_67_31⟩
theorem xq_67_29 : xOKs xsg xm_67 xk_67_0 xk_67_29 := ⟨xok_p (xp_iconst (v := 0) (by decide +kernel : decode xm_67.2.1 51 = .ok (.iconst 0, 1)) (by decide)) rfl, xq_67_30⟩
theorem xq_67_28 : xOKs xsg xm_67 xk_67_0 xk_67_28 := ⟨xok_get (by decide +kernel : decode xm_67.2.1 48 = .ok (.getfield 317, 3)) (rfl : vwCl[12]? = some (RX12, TX12, 125)) inX12 (by decide) (xT_c6 87 rfl rfl) rfl, xq_67_29⟩
theorem xq_67_27 : xOKs xsg xm_67 xk_67_0 xk_67_27 := ⟨xok_ld (xl_aload_n (by decide +kernel : decode xm_67.2.1 47 = .ok (.aload_n 0, 1))) rfl, xq_67_28⟩
theorem xq_67_26 : xOKs xsg xm_67 xk_67_0 xk_67_26 := ⟨xok_get (by decide +kernel : decode xm_67.2.1 44 = .ok (.getfield 53, 3)) (rfl : vwCl[12]? = some (RX12, TX12, 125)) inX12 (by decide) (xT_c6 80 rfl rfl) rfl, xq_67_27⟩
theorem xq_67_25 : xOKs xsg xm_67 xk_67_0 xk_67_25 := ⟨xok_ld (xl_aload_n (by decide +kernel : decode xm_67.2.1 43 = .ok (.aload_n 0, 1))) rfl, xq_67_26⟩
theorem xq_67_24 : xOKs xsg xm_67 xk_67_0 xk_67_24 := ⟨xok_ias (by decide +kernel : decode xm_67.2.1 42 = .ok (.iastore, 1)) rfl, xq_67_25⟩
theorem xq_67_23 : xOKs xsg xm_67 xk_67_0 xk_67_23 := ⟨xok_p (xp_iconst (v := -1) (by decide +kernel : decode xm_67.2.1 41 = .ok (.iconst (-1), 1)) (by decide)) rfl, xq_67_24⟩
theorem xq_67_22 : xOKs xsg xm_67 xk_67_0 xk_67_22 := ⟨xok_get (by decide +kernel : decode xm_67.2.1 38 = .ok (.getfield 317, 3)) (rfl : vwCl[12]? = some (RX12, TX12, 125)) inX12 (by decide) (xT_c6 87 rfl rfl) rfl, xq_67_23⟩
theorem xq_67_21 : xOKs xsg xm_67 xk_67_0 xk_67_21 := ⟨xok_ld (xl_aload_n (by decide +kernel : decode xm_67.2.1 37 = .ok (.aload_n 0, 1))) rfl, xq_67_22⟩
theorem xq_67_20 : xOKs xsg xm_67 xk_67_0 xk_67_20 := ⟨xok_get (by decide +kernel : decode xm_67.2.1 34 = .ok (.getfield 50, 3)) (rfl : vwCl[12]? = some (RX12, TX12, 125)) inX12 (by decide) (xT_c6 79 rfl rfl) rfl, xq_67_21⟩
theorem xq_67_19 : xOKs xsg xm_67 xk_67_0 xk_67_19 := ⟨xok_ld (xl_aload_n (by decide +kernel : decode xm_67.2.1 33 = .ok (.aload_n 0, 1))) rfl, xq_67_20⟩
theorem xq_67_18 : xOKs xsg xm_67 xk_67_0 xk_67_18 := ⟨xok_ias (by decide +kernel : decode xm_67.2.1 32 = .ok (.iastore, 1)) rfl, xq_67_19⟩
theorem xq_67_17 : xOKs xsg xm_67 xk_67_0 xk_67_17 := ⟨xok_p (xp_iconst (v := -1) (by decide +kernel : decode xm_67.2.1 31 = .ok (.iconst (-1), 1)) (by decide)) rfl, xq_67_18⟩
theorem xq_67_16 : xOKs xsg xm_67 xk_67_0 xk_67_16 := ⟨xok_get (by decide +kernel : decode xm_67.2.1 28 = .ok (.getfield 317, 3)) (rfl : vwCl[12]? = some (RX12, TX12, 125)) inX12 (by decide) (xT_c6 87 rfl rfl) rfl, xq_67_17⟩
theorem xq_67_15 : xOKs xsg xm_67 xk_67_0 xk_67_15 := ⟨xok_ld (xl_aload_n (by decide +kernel : decode xm_67.2.1 27 = .ok (.aload_n 0, 1))) rfl, xq_67_16⟩
theorem xq_67_14 : xOKs xsg xm_67 xk_67_0 xk_67_14 := ⟨xok_get (by decide +kernel : decode xm_67.2.1 24 = .ok (.getfield 47, 3)) (rfl : vwCl[12]? = some (RX12, TX12, 125)) inX12 (by decide) (xT_c6 78 rfl rfl) rfl, xq_67_15⟩
theorem xq_67_13 : xOKs xsg xm_67 xk_67_0 xk_67_13 := ⟨xok_ld (xl_aload_n (by decide +kernel : decode xm_67.2.1 23 = .ok (.aload_n 0, 1))) rfl, xq_67_14⟩
theorem xq_67_12 : xOKs xsg xm_67 xk_67_0 xk_67_12 := ⟨xok_ias (by decide +kernel : decode xm_67.2.1 22 = .ok (.iastore, 1)) rfl, xq_67_13⟩
theorem xq_67_11 : xOKs xsg xm_67 xk_67_0 xk_67_11 := ⟨xok_get (by decide +kernel : decode xm_67.2.1 19 = .ok (.getfield 297, 3)) (rfl : vwCl[12]? = some (RX12, TX12, 125)) inX12 (by decide) (xT_c6 68 rfl rfl) rfl, xq_67_12⟩
theorem xq_67_10 : xOKs xsg xm_67 xk_67_0 xk_67_10 := ⟨xok_ld (xl_aload_n (by decide +kernel : decode xm_67.2.1 18 = .ok (.aload_n 0, 1))) rfl, xq_67_11⟩
theorem xq_67_9 : xOKs xsg xm_67 xk_67_0 xk_67_9 := ⟨xok_get (by decide +kernel : decode xm_67.2.1 15 = .ok (.getfield 317, 3)) (rfl : vwCl[12]? = some (RX12, TX12, 125)) inX12 (by decide) (xT_c6 87 rfl rfl) rfl, xq_67_10⟩
theorem xq_67_8 : xOKs xsg xm_67 xk_67_0 xk_67_8 := ⟨xok_ld (xl_aload_n (by decide +kernel : decode xm_67.2.1 14 = .ok (.aload_n 0, 1))) rfl, xq_67_9⟩
theorem xq_67_7 : xOKs xsg xm_67 xk_67_0 xk_67_7 := ⟨xok_get (by decide +kernel : decode xm_67.2.1 11 = .ok (.getfield 41, 3)) (rfl : vwCl[12]? = some (RX12, TX12, 125)) inX12 (by decide) (xT_c6 76 rfl rfl) rfl, xq_67_8⟩
theorem xq_67_6 : xOKs xsg xm_67 xk_67_0 xk_67_6 := ⟨xok_ld (xl_aload_n (by decide +kernel : decode xm_67.2.1 10 = .ok (.aload_n 0, 1))) rfl, xq_67_7⟩
theorem xq_67_5 : xOKs xsg xm_67 xk_67_0 xk_67_5 := ⟨xok_ias (by decide +kernel : decode xm_67.2.1 9 = .ok (.iastore, 1)) rfl, xq_67_6⟩
theorem xq_67_4 : xOKs xsg xm_67 xk_67_0 xk_67_4 := ⟨xok_ld (xl_iload_n (by decide +kernel : decode xm_67.2.1 8 = .ok (.iload_n 1, 1))) rfl, xq_67_5⟩
theorem xq_67_3 : xOKs xsg xm_67 xk_67_0 xk_67_3 := ⟨xok_get (by decide +kernel : decode xm_67.2.1 5 = .ok (.getfield 317, 3)) (rfl : vwCl[12]? = some (RX12, TX12, 125)) inX12 (by decide) (xT_c6 87 rfl rfl) rfl, xq_67_4⟩
theorem xq_67_2 : xOKs xsg xm_67 xk_67_0 xk_67_2 := ⟨xok_ld (xl_aload_n (by decide +kernel : decode xm_67.2.1 4 = .ok (.aload_n 0, 1))) rfl, xq_67_3⟩
theorem xq_67_1 : xOKs xsg xm_67 xk_67_0 xk_67_1 := ⟨xok_get (by decide +kernel : decode xm_67.2.1 1 = .ok (.getfield 38, 3)) (rfl : vwCl[12]? = some (RX12, TX12, 125)) inX12 (by decide) (xT_c6 75 rfl rfl) rfl, xq_67_2⟩
theorem xq_67_0 : xOKs xsg xm_67 xk_67_0 xk_67_0 := ⟨xok_ld (xl_aload_n (by decide +kernel : decode xm_67.2.1 0 = .ok (.aload_n 0, 1))) rfl, xq_67_1⟩
theorem xz_67 : xwf xsg xm_67 xk_67_0 := ⟨xq_67_0, rfl, by decide⟩
/-! FeatherBenchModel.within(Z)V -/
def xk_68_24 : xK := []
def xk_68_23 : xK := (44, xRet0) :: xk_68_24
def xk_68_22 : xK := (41, xPut 12 27 0) :: xk_68_23
def xk_68_21 : xK := (40, xPure xo_iadd) :: xk_68_22
def xk_68_20 : xK := (39, xPure (xo_push (.int (1)))) :: xk_68_21
def xk_68_19 : xK := (36, xGet 12 27) :: xk_68_20
def xk_68_18 : xK := (35, xPure xo_dup) :: xk_68_19
def xk_68_17 : xK := (34, xLd 0 xisA) :: xk_68_18
def xk_68_16 : xK := (31, xNone) :: xk_68_17
def xk_68_15 : xK := (28, xNone) :: xk_68_16
def xk_68_14 : xK := (27, xNone) :: xk_68_15
def xk_68_13 : xK := (26, xNone) :: xk_68_14
def xk_68_12 : xK := (25, xNone) :: xk_68_13
def xk_68_11 : xK := (22, xNone) :: xk_68_12
def xk_68_10 : xK := (20, xNone) :: xk_68_11
def xk_68_9 : xK := (17, xNone) :: xk_68_10
def xk_68_8 : xK := (16, xNone) :: xk_68_9
def xk_68_7 : xK := (13, xBr xc_go 17) :: xk_68_8
def xk_68_6 : xK := (10, xCall 61 3 (some 12)) :: xk_68_7
def xk_68_5 : xK := (7, xGet 12 7) :: xk_68_6
def xk_68_4 : xK := (6, xLd 0 xisA) :: xk_68_5
def xk_68_3 : xK := (5, xPure (xo_push (.int (1)))) :: xk_68_4
def xk_68_2 : xK := (4, xLd 0 xisA) :: xk_68_3
def xk_68_1 : xK := (1, xBr xc_ne 8) :: xk_68_2
def xk_68_0 : xK := (0, xLd 1 xisI) :: xk_68_1
theorem xq_68_24 : xOKs xsg xm_68 xk_68_0 xk_68_24 := trivial
theorem xq_68_23 : xOKs xsg xm_68 xk_68_0 xk_68_23 := ⟨xok_ret0 (by decide +kernel : decode xm_68.2.1 44 = .ok (.return_, 1)) rfl, xq_68_24⟩
theorem xq_68_22 : xOKs xsg xm_68 xk_68_0 xk_68_22 := ⟨xok_put (by decide +kernel : decode xm_68.2.1 41 = .ok (.putfield 320, 3)) (rfl : vwCl[12]? = some (RX12, TX12, 125)) inX12 tyX12_ok nmX12 (k := 27) (by decide) rfl (xT_c6 88 rfl rfl) rfl, xq_68_23⟩
theorem xq_68_21 : xOKs xsg xm_68 xk_68_0 xk_68_21 := ⟨xok_p (xp_iadd (by decide +kernel : decode xm_68.2.1 40 = .ok (.iadd, 1))) rfl, xq_68_22⟩
theorem xq_68_20 : xOKs xsg xm_68 xk_68_0 xk_68_20 := ⟨xok_p (xp_iconst (v := 1) (by decide +kernel : decode xm_68.2.1 39 = .ok (.iconst 1, 1)) (by decide)) rfl, xq_68_21⟩
theorem xq_68_19 : xOKs xsg xm_68 xk_68_0 xk_68_19 := ⟨xok_get (by decide +kernel : decode xm_68.2.1 36 = .ok (.getfield 320, 3)) (rfl : vwCl[12]? = some (RX12, TX12, 125)) inX12 (by decide) (xT_c6 88 rfl rfl) rfl, xq_68_20⟩
theorem xq_68_18 : xOKs xsg xm_68 xk_68_0 xk_68_18 := ⟨xok_p (xp_dup (by decide +kernel : decode xm_68.2.1 35 = .ok (.dup, 1))) rfl, xq_68_19⟩
theorem xq_68_17 : xOKs xsg xm_68 xk_68_0 xk_68_17 := ⟨xok_ld (xl_aload_n (by decide +kernel : decode xm_68.2.1 34 = .ok (.aload_n 0, 1))) rfl, xq_68_18⟩
theorem xq_68_16 : xOKs xsg xm_68 xk_68_0 xk_68_16 := ⟨xok_none, xq_68_17⟩
theorem xq_68_15 : xOKs xsg xm_68 xk_68_0 xk_68_15 := ⟨xok_none, xq_68_16⟩
theorem xq_68_14 : xOKs xsg xm_68 xk_68_0 xk_68_14 := ⟨xok_none, xq_68_15⟩
theorem xq_68_13 : xOKs xsg xm_68 xk_68_0 xk_68_13 := ⟨xok_none, xq_68_14⟩
theorem xq_68_12 : xOKs xsg xm_68 xk_68_0 xk_68_12 := ⟨xok_none, xq_68_13⟩
theorem xq_68_11 : xOKs xsg xm_68 xk_68_0 xk_68_11 := ⟨xok_none, xq_68_12⟩
theorem xq_68_10 : xOKs xsg xm_68 xk_68_0 xk_68_10 := ⟨xok_none, xq_68_11⟩
theorem xq_68_9 : xOKs xsg xm_68 xk_68_0 xk_68_9 := ⟨xok_none, xq_68_10⟩
theorem xq_68_8 : xOKs xsg xm_68 xk_68_0 xk_68_8 := ⟨xok_none, xq_68_9⟩
theorem xq_68_7 : xOKs xsg xm_68 xk_68_0 xk_68_7 := ⟨xok_br (tgt := 34) (xb_go (by decide +kernel : decode xm_68.2.1 13 = .ok (.goto 21, 3)) (by decide)) (by decide +kernel) rfl, xq_68_8⟩
theorem xq_68_6 : xOKs xsg xm_68 xk_68_0 xk_68_6 := ⟨xok_callV (M' := xm_61) rfl (rfl : vwCl[12]? = some (RX12, TX12, 125)) (by decide +kernel : decode xm_68.2.1 10 = .ok (.invokevirtual 306, 3)) xn_61 (xT_c8 10 rfl rfl) (xT_c0 74 rfl rfl) (xT_c8 8 rfl rfl) rfl, xq_68_7⟩
theorem xq_68_5 : xOKs xsg xm_68 xk_68_0 xk_68_5 := ⟨xok_get (by decide +kernel : decode xm_68.2.1 7 = .ok (.getfield 297, 3)) (rfl : vwCl[12]? = some (RX12, TX12, 125)) inX12 (by decide) (xT_c6 68 rfl rfl) rfl, xq_68_6⟩
theorem xq_68_4 : xOKs xsg xm_68 xk_68_0 xk_68_4 := ⟨xok_ld (xl_aload_n (by decide +kernel : decode xm_68.2.1 6 = .ok (.aload_n 0, 1))) rfl, xq_68_5⟩
theorem xq_68_3 : xOKs xsg xm_68 xk_68_0 xk_68_3 := ⟨xok_p (xp_iconst (v := 1) (by decide +kernel : decode xm_68.2.1 5 = .ok (.iconst 1, 1)) (by decide)) rfl, xq_68_4⟩
theorem xq_68_2 : xOKs xsg xm_68 xk_68_0 xk_68_2 := ⟨xok_ld (xl_aload_n (by decide +kernel : decode xm_68.2.1 4 = .ok (.aload_n 0, 1))) rfl, xq_68_3⟩
theorem xq_68_1 : xOKs xsg xm_68 xk_68_0 xk_68_1 := ⟨xok_br (tgt := 16) (xb_ne (by decide +kernel : decode xm_68.2.1 1 = .ok (.ifCond .ne 15, 3)) (by decide)) (by decide +kernel) rfl, xq_68_2⟩
theorem xq_68_0 : xOKs xsg xm_68 xk_68_0 xk_68_0 := ⟨xok_ld (xl_iload_n (by decide +kernel : decode xm_68.2.1 0 = .ok (.iload_n 1, 1))) rfl, xq_68_1⟩
theorem xz_68 : xwf xsg xm_68 xk_68_0 := ⟨xq_68_0, rfl, by decide⟩
/-! FeatherBenchModel.takeType()I -/
def xk_69_38 : xK := []
def xk_69_37 : xK := (64, xRetI) :: xk_69_38
def xk_69_36 : xK := (63, xLd 1 xisI) :: xk_69_37
def xk_69_35 : xK := (60, xPut 12 27 0) :: xk_69_36
def xk_69_34 : xK := (59, xPure xo_isub) :: xk_69_35
def xk_69_33 : xK := (58, xPure (xo_push (.int (1)))) :: xk_69_34
def xk_69_32 : xK := (55, xGet 12 27) :: xk_69_33
def xk_69_31 : xK := (54, xPure xo_dup) :: xk_69_32
def xk_69_30 : xK := (53, xLd 0 xisA) :: xk_69_31
def xk_69_29 : xK := (52, xNone) :: xk_69_30
def xk_69_28 : xK := (49, xNone) :: xk_69_29
def xk_69_27 : xK := (48, xNone) :: xk_69_28
def xk_69_26 : xK := (47, xNone) :: xk_69_27
def xk_69_25 : xK := (44, xNone) :: xk_69_26
def xk_69_24 : xK := (43, xNone) :: xk_69_25
def xk_69_23 : xK := (42, xNone) :: xk_69_24
def xk_69_22 : xK := (39, xNone) :: xk_69_23
def xk_69_21 : xK := (38, xNone) :: xk_69_22
def xk_69_20 : xK := (37, xNone) :: xk_69_21
def xk_69_19 : xK := (34, xNone) :: xk_69_20
def xk_69_18 : xK := (33, xNone) :: xk_69_19
def xk_69_17 : xK := (30, xBr xc_eq 30) :: xk_69_18
def xk_69_16 : xK := (27, xCall 62 2 (some 12)) :: xk_69_17
def xk_69_15 : xK := (25, xPure (xo_push (.int (91)))) :: xk_69_16
def xk_69_14 : xK := (24, xLd 0 xisA) :: xk_69_15
def xk_69_13 : xK := (21, xPut 12 7 0) :: xk_69_14
def xk_69_12 : xK := (20, xPure xo_iadd) :: xk_69_13
def xk_69_11 : xK := (19, xPure (xo_push (.int (1)))) :: xk_69_12
def xk_69_10 : xK := (16, xGet 12 7) :: xk_69_11
def xk_69_9 : xK := (15, xPure xo_dup) :: xk_69_10
def xk_69_8 : xK := (14, xLd 0 xisA) :: xk_69_9
def xk_69_7 : xK := (13, xSt 1 xisI xf1) :: xk_69_8
def xk_69_6 : xK := (10, xCall 67 2 (some 12)) :: xk_69_7
def xk_69_5 : xK := (9, xPure (xo_push (.int (0)))) :: xk_69_6
def xk_69_4 : xK := (8, xLd 0 xisA) :: xk_69_5
def xk_69_3 : xK := (5, xCall 68 2 (some 12)) :: xk_69_4
def xk_69_2 : xK := (2, xCall 64 1 (some 12)) :: xk_69_3
def xk_69_1 : xK := (1, xLd 0 xisA) :: xk_69_2
def xk_69_0 : xK := (0, xLd 0 xisA) :: xk_69_1
theorem xq_69_38 : xOKs xsg xm_69 xk_69_0 xk_69_38 := trivial
theorem xq_69_37 : xOKs xsg xm_69 xk_69_0 xk_69_37 := ⟨xok_retI (by decide +kernel : decode xm_69.2.1 64 = .ok (.ireturn, 1)) rfl, xq_69_38⟩
theorem xq_69_36 : xOKs xsg xm_69 xk_69_0 xk_69_36 := ⟨xok_ld (xl_iload_n (by decide +kernel : decode xm_69.2.1 63 = .ok (.iload_n 1, 1))) rfl, xq_69_37⟩
theorem xq_69_35 : xOKs xsg xm_69 xk_69_0 xk_69_35 := ⟨xok_put (by decide +kernel : decode xm_69.2.1 60 = .ok (.putfield 320, 3)) (rfl : vwCl[12]? = some (RX12, TX12, 125)) inX12 tyX12_ok nmX12 (k := 27) (by decide) rfl (xT_c6 88 rfl rfl) rfl, xq_69_36⟩
theorem xq_69_34 : xOKs xsg xm_69 xk_69_0 xk_69_34 := ⟨xok_p (xp_isub (by decide +kernel : decode xm_69.2.1 59 = .ok (.isub, 1))) rfl, xq_69_35⟩
theorem xq_69_33 : xOKs xsg xm_69 xk_69_0 xk_69_33 := ⟨xok_p (xp_iconst (v := 1) (by decide +kernel : decode xm_69.2.1 58 = .ok (.iconst 1, 1)) (by decide)) rfl, xq_69_34⟩
theorem xq_69_32 : xOKs xsg xm_69 xk_69_0 xk_69_32 := ⟨xok_get (by decide +kernel : decode xm_69.2.1 55 = .ok (.getfield 320, 3)) (rfl : vwCl[12]? = some (RX12, TX12, 125)) inX12 (by decide) (xT_c6 88 rfl rfl) rfl, xq_69_33⟩
theorem xq_69_31 : xOKs xsg xm_69 xk_69_0 xk_69_31 := ⟨xok_p (xp_dup (by decide +kernel : decode xm_69.2.1 54 = .ok (.dup, 1))) rfl, xq_69_32⟩
theorem xq_69_30 : xOKs xsg xm_69 xk_69_0 xk_69_30 := ⟨xok_ld (xl_aload_n (by decide +kernel : decode xm_69.2.1 53 = .ok (.aload_n 0, 1))) rfl, xq_69_31⟩
theorem xq_69_29 : xOKs xsg xm_69 xk_69_0 xk_69_29 := ⟨xok_none, xq_69_30⟩
theorem xq_69_28 : xOKs xsg xm_69 xk_69_0 xk_69_28 := ⟨xok_none, xq_69_29⟩
theorem xq_69_27 : xOKs xsg xm_69 xk_69_0 xk_69_27 := ⟨xok_none, xq_69_28⟩
theorem xq_69_26 : xOKs xsg xm_69 xk_69_0 xk_69_26 := ⟨xok_none, xq_69_27⟩
theorem xq_69_25 : xOKs xsg xm_69 xk_69_0 xk_69_25 := ⟨xok_none, xq_69_26⟩
theorem xq_69_24 : xOKs xsg xm_69 xk_69_0 xk_69_24 := ⟨xok_none, xq_69_25⟩
theorem xq_69_23 : xOKs xsg xm_69 xk_69_0 xk_69_23 := ⟨xok_none, xq_69_24⟩
theorem xq_69_22 : xOKs xsg xm_69 xk_69_0 xk_69_22 := ⟨xok_none, xq_69_23⟩
theorem xq_69_21 : xOKs xsg xm_69 xk_69_0 xk_69_21 := ⟨xok_none, xq_69_22⟩
theorem xq_69_20 : xOKs xsg xm_69 xk_69_0 xk_69_20 := ⟨xok_none, xq_69_21⟩
theorem xq_69_19 : xOKs xsg xm_69 xk_69_0 xk_69_19 := ⟨xok_none, xq_69_20⟩
theorem xq_69_18 : xOKs xsg xm_69 xk_69_0 xk_69_18 := ⟨xok_none, xq_69_19⟩
theorem xq_69_17 : xOKs xsg xm_69 xk_69_0 xk_69_17 := ⟨xok_br (tgt := 53) (xb_eq (by decide +kernel : decode xm_69.2.1 30 = .ok (.ifCond .eq 23, 3)) (by decide)) (by decide +kernel) rfl, xq_69_18⟩
theorem xq_69_16 : xOKs xsg xm_69 xk_69_0 xk_69_16 := ⟨xok_callV (M' := xm_62) rfl (rfl : vwCl[12]? = some (RX12, TX12, 125)) (by decide +kernel : decode xm_69.2.1 27 = .ok (.invokevirtual 303, 3)) xn_62 (xT_c8 22 rfl rfl) (xT_c0 77 rfl rfl) (xT_c8 20 rfl rfl) rfl, xq_69_17⟩
theorem xq_69_15 : xOKs xsg xm_69 xk_69_0 xk_69_15 := ⟨xok_p (xp_bipush (v := 91) (by decide +kernel : decode xm_69.2.1 25 = .ok (.bipush 91, 2)) (by decide)) rfl, xq_69_16⟩
theorem xq_69_14 : xOKs xsg xm_69 xk_69_0 xk_69_14 := ⟨xok_ld (xl_aload_n (by decide +kernel : decode xm_69.2.1 24 = .ok (.aload_n 0, 1))) rfl, xq_69_15⟩
theorem xq_69_13 : xOKs xsg xm_69 xk_69_0 xk_69_13 := ⟨xok_put (by decide +kernel : decode xm_69.2.1 21 = .ok (.putfield 297, 3)) (rfl : vwCl[12]? = some (RX12, TX12, 125)) inX12 tyX12_ok nmX12 (k := 7) (by decide) rfl (xT_c6 68 rfl rfl) rfl, xq_69_14⟩
theorem xq_69_12 : xOKs xsg xm_69 xk_69_0 xk_69_12 := ⟨xok_p (xp_iadd (by decide +kernel : decode xm_69.2.1 20 = .ok (.iadd, 1))) rfl, xq_69_13⟩
theorem xq_69_11 : xOKs xsg xm_69 xk_69_0 xk_69_11 := ⟨xok_p (xp_iconst (v := 1) (by decide +kernel : decode xm_69.2.1 19 = .ok (.iconst 1, 1)) (by decide)) rfl, xq_69_12⟩
theorem xq_69_10 : xOKs xsg xm_69 xk_69_0 xk_69_10 := ⟨xok_get (by decide +kernel : decode xm_69.2.1 16 = .ok (.getfield 297, 3)) (rfl : vwCl[12]? = some (RX12, TX12, 125)) inX12 (by decide) (xT_c6 68 rfl rfl) rfl, xq_69_11⟩
theorem xq_69_9 : xOKs xsg xm_69 xk_69_0 xk_69_9 := ⟨xok_p (xp_dup (by decide +kernel : decode xm_69.2.1 15 = .ok (.dup, 1))) rfl, xq_69_10⟩
theorem xq_69_8 : xOKs xsg xm_69 xk_69_0 xk_69_8 := ⟨xok_ld (xl_aload_n (by decide +kernel : decode xm_69.2.1 14 = .ok (.aload_n 0, 1))) rfl, xq_69_9⟩
theorem xq_69_7 : xOKs xsg xm_69 xk_69_0 xk_69_7 := ⟨xok_st (xs_istore_n (by decide +kernel : decode xm_69.2.1 13 = .ok (.istore_n 1, 1)) (by decide)) rfl, xq_69_8⟩
theorem xq_69_6 : xOKs xsg xm_69 xk_69_0 xk_69_6 := ⟨xok_callV (M' := xm_67) rfl (rfl : vwCl[12]? = some (RX12, TX12, 125)) (by decide +kernel : decode xm_69.2.1 10 = .ok (.invokevirtual 327, 3)) xn_67 (xT_c8 42 rfl rfl) (xT_c0 82 rfl rfl) (xT_c8 40 rfl rfl) rfl, xq_69_7⟩
theorem xq_69_5 : xOKs xsg xm_69 xk_69_0 xk_69_5 := ⟨xok_p (xp_iconst (v := 0) (by decide +kernel : decode xm_69.2.1 9 = .ok (.iconst 0, 1)) (by decide)) rfl, xq_69_6⟩
theorem xq_69_4 : xOKs xsg xm_69 xk_69_0 xk_69_4 := ⟨xok_ld (xl_aload_n (by decide +kernel : decode xm_69.2.1 8 = .ok (.aload_n 0, 1))) rfl, xq_69_5⟩
theorem xq_69_3 : xOKs xsg xm_69 xk_69_0 xk_69_3 := ⟨xok_callV (M' := xm_68) rfl (rfl : vwCl[12]? = some (RX12, TX12, 125)) (by decide +kernel : decode xm_69.2.1 5 = .ok (.invokevirtual 323, 3)) xn_68 (xT_c8 38 rfl rfl) (xT_c0 81 rfl rfl) (xT_c8 36 rfl rfl) rfl, xq_69_4⟩
theorem xq_69_2 : xOKs xsg xm_69 xk_69_0 xk_69_2 := ⟨xok_callV (M' := xm_64) rfl (rfl : vwCl[12]? = some (RX12, TX12, 125)) (by decide +kernel : decode xm_69.2.1 2 = .ok (.invokevirtual 313, 3)) xn_64 (xT_c8 18 rfl rfl) (xT_c0 76 rfl rfl) (xT_c8 16 rfl rfl) rfl, xq_69_3⟩
theorem xq_69_1 : xOKs xsg xm_69 xk_69_0 xk_69_1 := ⟨xok_ld (xl_aload_n (by decide +kernel : decode xm_69.2.1 1 = .ok (.aload_n 0, 1))) rfl, xq_69_2⟩
theorem xq_69_0 : xOKs xsg xm_69 xk_69_0 xk_69_0 := ⟨xok_ld (xl_aload_n (by decide +kernel : decode xm_69.2.1 0 = .ok (.aload_n 0, 1))) rfl, xq_69_1⟩
theorem xz_69 : xwf xsg xm_69 xk_69_0 := ⟨xq_69_0, rfl, by decide⟩
/-! FeatherBenchModel.readAll()V -/
def xk_70_63 : xK := []
def xk_70_62 : xK := (125, xRet0) :: xk_70_63
def xk_70_61 : xK := (122, xNone) :: xk_70_62
def xk_70_60 : xK := (119, xNone) :: xk_70_61
def xk_70_59 : xK := (118, xNone) :: xk_70_60
def xk_70_58 : xK := (117, xNone) :: xk_70_59
def xk_70_57 : xK := (116, xNone) :: xk_70_58
def xk_70_56 : xK := (113, xNone) :: xk_70_57
def xk_70_55 : xK := (112, xNone) :: xk_70_56
def xk_70_54 : xK := (109, xNone) :: xk_70_55
def xk_70_53 : xK := (108, xNone) :: xk_70_54
def xk_70_52 : xK := (105, xNone) :: xk_70_53
def xk_70_51 : xK := (104, xNone) :: xk_70_52
def xk_70_50 : xK := (101, xBr xc_ne 62) :: xk_70_51
def xk_70_49 : xK := (98, xGet 12 8) :: xk_70_50
def xk_70_48 : xK := (97, xLd 0 xisA) :: xk_70_49
def xk_70_47 : xK := (94, xCall 65 2 (some 12)) :: xk_70_48
def xk_70_46 : xK := (92, xPure (xo_push (.int (59)))) :: xk_70_47
def xk_70_45 : xK := (91, xLd 0 xisA) :: xk_70_46
def xk_70_44 : xK := (90, xIas) :: xk_70_45
def xk_70_43 : xK := (89, xPure (xo_push (.int (-1)))) :: xk_70_44
def xk_70_42 : xK := (86, xNone) :: xk_70_43
def xk_70_41 : xK := (83, xNone) :: xk_70_42
def xk_70_40 : xK := (82, xNone) :: xk_70_41
def xk_70_39 : xK := (79, xBr xc_ne 43) :: xk_70_40
def xk_70_38 : xK := (76, xGet 12 8) :: xk_70_39
def xk_70_37 : xK := (75, xLd 0 xisA) :: xk_70_38
def xk_70_36 : xK := (72, xGet 12 30) :: xk_70_37
def xk_70_35 : xK := (71, xLd 0 xisA) :: xk_70_36
def xk_70_34 : xK := (68, xGet 12 58) :: xk_70_35
def xk_70_33 : xK := (67, xLd 0 xisA) :: xk_70_34
def xk_70_32 : xK := (64, xPut 12 27 0) :: xk_70_33
def xk_70_31 : xK := (63, xPure (xo_push (.int (0)))) :: xk_70_32
def xk_70_30 : xK := (62, xLd 0 xisA) :: xk_70_31
def xk_70_29 : xK := (59, xCall 66 2 (some 12)) :: xk_70_30
def xk_70_28 : xK := (58, xPure (xo_push (.int (5)))) :: xk_70_29
def xk_70_27 : xK := (57, xLd 0 xisA) :: xk_70_28
def xk_70_26 : xK := (54, xBr xc_go 0) :: xk_70_27
def xk_70_25 : xK := (51, xCall 61 3 (some 12)) :: xk_70_26
def xk_70_24 : xK := (48, xGet 12 7) :: xk_70_25
def xk_70_23 : xK := (47, xLd 0 xisA) :: xk_70_24
def xk_70_22 : xK := (46, xPure (xo_push (.int (1)))) :: xk_70_23
def xk_70_21 : xK := (45, xLd 0 xisA) :: xk_70_22
def xk_70_20 : xK := (42, xNone) :: xk_70_21
def xk_70_19 : xK := (39, xNone) :: xk_70_20
def xk_70_18 : xK := (38, xNone) :: xk_70_19
def xk_70_17 : xK := (35, xBr xc_eq 21) :: xk_70_18
def xk_70_16 : xK := (32, xCall 63 2 (some 12)) :: xk_70_17
def xk_70_15 : xK := (31, xPure (xo_push (.int (3)))) :: xk_70_16
def xk_70_14 : xK := (30, xLd 0 xisA) :: xk_70_15
def xk_70_13 : xK := (27, xNone) :: xk_70_14
def xk_70_12 : xK := (24, xNone) :: xk_70_13
def xk_70_11 : xK := (23, xNone) :: xk_70_12
def xk_70_10 : xK := (20, xBr xc_eq 14) :: xk_70_11
def xk_70_9 : xK := (17, xCall 63 2 (some 12)) :: xk_70_10
def xk_70_8 : xK := (16, xPure (xo_push (.int (0)))) :: xk_70_9
def xk_70_7 : xK := (15, xLd 0 xisA) :: xk_70_8
def xk_70_6 : xK := (12, xBr xc_ne 27) :: xk_70_7
def xk_70_5 : xK := (9, xCall 63 2 (some 12)) :: xk_70_6
def xk_70_4 : xK := (8, xPure (xo_push (.int (5)))) :: xk_70_5
def xk_70_3 : xK := (7, xLd 0 xisA) :: xk_70_4
def xk_70_2 : xK := (4, xBr xc_ne 27) :: xk_70_3
def xk_70_1 : xK := (1, xGet 12 8) :: xk_70_2
def xk_70_0 : xK := (0, xLd 0 xisA) :: xk_70_1
theorem xq_70_63 : xOKs xsg xm_70 xk_70_0 xk_70_63 := trivial
theorem xq_70_62 : xOKs xsg xm_70 xk_70_0 xk_70_62 := ⟨xok_ret0 (by decide +kernel : decode xm_70.2.1 125 = .ok (.return_, 1)) rfl, xq_70_63⟩
theorem xq_70_61 : xOKs xsg xm_70 xk_70_0 xk_70_61 := ⟨xok_none, xq_70_62⟩
theorem xq_70_60 : xOKs xsg xm_70 xk_70_0 xk_70_60 := ⟨xok_none, xq_70_61⟩
theorem xq_70_59 : xOKs xsg xm_70 xk_70_0 xk_70_59 := ⟨xok_none, xq_70_60⟩
theorem xq_70_58 : xOKs xsg xm_70 xk_70_0 xk_70_58 := ⟨xok_none, xq_70_59⟩
theorem xq_70_57 : xOKs xsg xm_70 xk_70_0 xk_70_57 := ⟨xok_none, xq_70_58⟩
theorem xq_70_56 : xOKs xsg xm_70 xk_70_0 xk_70_56 := ⟨xok_none, xq_70_57⟩
theorem xq_70_55 : xOKs xsg xm_70 xk_70_0 xk_70_55 := ⟨xok_none, xq_70_56⟩
theorem xq_70_54 : xOKs xsg xm_70 xk_70_0 xk_70_54 := ⟨xok_none, xq_70_55⟩
theorem xq_70_53 : xOKs xsg xm_70 xk_70_0 xk_70_53 := ⟨xok_none, xq_70_54⟩
theorem xq_70_52 : xOKs xsg xm_70 xk_70_0 xk_70_52 := ⟨xok_none, xq_70_53⟩
theorem xq_70_51 : xOKs xsg xm_70 xk_70_0 xk_70_51 := ⟨xok_none, xq_70_52⟩
theorem xq_70_50 : xOKs xsg xm_70 xk_70_0 xk_70_50 := ⟨xok_br (tgt := 125) (xb_ne (by decide +kernel : decode xm_70.2.1 101 = .ok (.ifCond .ne 24, 3)) (by decide)) (by decide +kernel) rfl, xq_70_51⟩
theorem xq_70_49 : xOKs xsg xm_70 xk_70_0 xk_70_49 := ⟨xok_get (by decide +kernel : decode xm_70.2.1 98 = .ok (.getfield 300, 3)) (rfl : vwCl[12]? = some (RX12, TX12, 125)) inX12 (by decide) (xT_c6 69 rfl rfl) rfl, xq_70_50⟩
theorem xq_70_48 : xOKs xsg xm_70 xk_70_0 xk_70_48 := ⟨xok_ld (xl_aload_n (by decide +kernel : decode xm_70.2.1 97 = .ok (.aload_n 0, 1))) rfl, xq_70_49⟩
theorem xq_70_47 : xOKs xsg xm_70 xk_70_0 xk_70_47 := ⟨xok_callV (M' := xm_65) rfl (rfl : vwCl[12]? = some (RX12, TX12, 125)) (by decide +kernel : decode xm_70.2.1 94 = .ok (.invokevirtual 336, 3)) xn_65 (xT_c8 30 rfl rfl) (xT_c0 79 rfl rfl) (xT_c8 28 rfl rfl) rfl, xq_70_48⟩
theorem xq_70_46 : xOKs xsg xm_70 xk_70_0 xk_70_46 := ⟨xok_p (xp_bipush (v := 59) (by decide +kernel : decode xm_70.2.1 92 = .ok (.bipush 59, 2)) (by decide)) rfl, xq_70_47⟩
theorem xq_70_45 : xOKs xsg xm_70 xk_70_0 xk_70_45 := ⟨xok_ld (xl_aload_n (by decide +kernel : decode xm_70.2.1 91 = .ok (.aload_n 0, 1))) rfl, xq_70_46⟩
theorem xq_70_44 : xOKs xsg xm_70 xk_70_0 xk_70_44 := ⟨xok_ias (by decide +kernel : decode xm_70.2.1 90 = .ok (.iastore, 1)) rfl, xq_70_45⟩
theorem xq_70_43 : xOKs xsg xm_70 xk_70_0 xk_70_43 := ⟨xok_p (xp_iconst (v := -1) (by decide +kernel : decode xm_70.2.1 89 = .ok (.iconst (-1), 1)) (by decide)) rfl, xq_70_44⟩
theorem xq_70_42 : xOKs xsg xm_70 xk_70_0 xk_70_42 := ⟨xok_none, xq_70_43⟩
theorem xq_70_41 : xOKs xsg xm_70 xk_70_0 xk_70_41 := ⟨xok_none, xq_70_42⟩
theorem xq_70_40 : xOKs xsg xm_70 xk_70_0 xk_70_40 := ⟨xok_none, xq_70_41⟩
theorem xq_70_39 : xOKs xsg xm_70 xk_70_0 xk_70_39 := ⟨xok_br (tgt := 89) (xb_ne (by decide +kernel : decode xm_70.2.1 79 = .ok (.ifCond .ne 10, 3)) (by decide)) (by decide +kernel) rfl, xq_70_40⟩
theorem xq_70_38 : xOKs xsg xm_70 xk_70_0 xk_70_38 := ⟨xok_get (by decide +kernel : decode xm_70.2.1 76 = .ok (.getfield 300, 3)) (rfl : vwCl[12]? = some (RX12, TX12, 125)) inX12 (by decide) (xT_c6 69 rfl rfl) rfl, xq_70_39⟩
theorem xq_70_37 : xOKs xsg xm_70 xk_70_0 xk_70_37 := ⟨xok_ld (xl_aload_n (by decide +kernel : decode xm_70.2.1 75 = .ok (.aload_n 0, 1))) rfl, xq_70_38⟩
theorem xq_70_36 : xOKs xsg xm_70 xk_70_0 xk_70_36 := ⟨xok_get (by decide +kernel : decode xm_70.2.1 72 = .ok (.getfield 364, 3)) (rfl : vwCl[12]? = some (RX12, TX12, 125)) inX12 (by decide) (xT_c6 91 rfl rfl) rfl, xq_70_37⟩
theorem xq_70_35 : xOKs xsg xm_70 xk_70_0 xk_70_35 := ⟨xok_ld (xl_aload_n (by decide +kernel : decode xm_70.2.1 71 = .ok (.aload_n 0, 1))) rfl, xq_70_36⟩
theorem xq_70_34 : xOKs xsg xm_70 xk_70_0 xk_70_34 := ⟨xok_get (by decide +kernel : decode xm_70.2.1 68 = .ok (.getfield 153, 3)) (rfl : vwCl[12]? = some (RX12, TX12, 125)) inX12 (by decide) (xT_c6 119 rfl rfl) rfl, xq_70_35⟩
theorem xq_70_33 : xOKs xsg xm_70 xk_70_0 xk_70_33 := ⟨xok_ld (xl_aload_n (by decide +kernel : decode xm_70.2.1 67 = .ok (.aload_n 0, 1))) rfl, xq_70_34⟩
theorem xq_70_32 : xOKs xsg xm_70 xk_70_0 xk_70_32 := ⟨xok_put (by decide +kernel : decode xm_70.2.1 64 = .ok (.putfield 320, 3)) (rfl : vwCl[12]? = some (RX12, TX12, 125)) inX12 tyX12_ok nmX12 (k := 27) (by decide) rfl (xT_c6 88 rfl rfl) rfl, xq_70_33⟩
theorem xq_70_31 : xOKs xsg xm_70 xk_70_0 xk_70_31 := ⟨xok_p (xp_iconst (v := 0) (by decide +kernel : decode xm_70.2.1 63 = .ok (.iconst 0, 1)) (by decide)) rfl, xq_70_32⟩
theorem xq_70_30 : xOKs xsg xm_70 xk_70_0 xk_70_30 := ⟨xok_ld (xl_aload_n (by decide +kernel : decode xm_70.2.1 62 = .ok (.aload_n 0, 1))) rfl, xq_70_31⟩
theorem xq_70_29 : xOKs xsg xm_70 xk_70_0 xk_70_29 := ⟨xok_callV (M' := xm_66) rfl (rfl : vwCl[12]? = some (RX12, TX12, 125)) (by decide +kernel : decode xm_70.2.1 59 = .ok (.invokevirtual 361, 3)) xn_66 (xT_c8 54 rfl rfl) (xT_c0 85 rfl rfl) (xT_c8 52 rfl rfl) rfl, xq_70_30⟩
theorem xq_70_28 : xOKs xsg xm_70 xk_70_0 xk_70_28 := ⟨xok_p (xp_iconst (v := 5) (by decide +kernel : decode xm_70.2.1 58 = .ok (.iconst 5, 1)) (by decide)) rfl, xq_70_29⟩
theorem xq_70_27 : xOKs xsg xm_70 xk_70_0 xk_70_27 := ⟨xok_ld (xl_aload_n (by decide +kernel : decode xm_70.2.1 57 = .ok (.aload_n 0, 1))) rfl, xq_70_28⟩
theorem xq_70_26 : xOKs xsg xm_70 xk_70_0 xk_70_26 := ⟨xok_br (tgt := 0) (xb_go (by decide +kernel : decode xm_70.2.1 54 = .ok (.goto (-54), 3)) (by decide)) (by decide +kernel) rfl, xq_70_27⟩
theorem xq_70_25 : xOKs xsg xm_70 xk_70_0 xk_70_25 := ⟨xok_callV (M' := xm_61) rfl (rfl : vwCl[12]? = some (RX12, TX12, 125)) (by decide +kernel : decode xm_70.2.1 51 = .ok (.invokevirtual 306, 3)) xn_61 (xT_c8 10 rfl rfl) (xT_c0 74 rfl rfl) (xT_c8 8 rfl rfl) rfl, xq_70_26⟩
theorem xq_70_24 : xOKs xsg xm_70 xk_70_0 xk_70_24 := ⟨xok_get (by decide +kernel : decode xm_70.2.1 48 = .ok (.getfield 297, 3)) (rfl : vwCl[12]? = some (RX12, TX12, 125)) inX12 (by decide) (xT_c6 68 rfl rfl) rfl, xq_70_25⟩
theorem xq_70_23 : xOKs xsg xm_70 xk_70_0 xk_70_23 := ⟨xok_ld (xl_aload_n (by decide +kernel : decode xm_70.2.1 47 = .ok (.aload_n 0, 1))) rfl, xq_70_24⟩
theorem xq_70_22 : xOKs xsg xm_70 xk_70_0 xk_70_22 := ⟨xok_p (xp_iconst (v := 1) (by decide +kernel : decode xm_70.2.1 46 = .ok (.iconst 1, 1)) (by decide)) rfl, xq_70_23⟩
theorem xq_70_21 : xOKs xsg xm_70 xk_70_0 xk_70_21 := ⟨xok_ld (xl_aload_n (by decide +kernel : decode xm_70.2.1 45 = .ok (.aload_n 0, 1))) rfl, xq_70_22⟩
theorem xq_70_20 : xOKs xsg xm_70 xk_70_0 xk_70_20 := ⟨xok_none, xq_70_21⟩
theorem xq_70_19 : xOKs xsg xm_70 xk_70_0 xk_70_19 := ⟨xok_none, xq_70_20⟩
theorem xq_70_18 : xOKs xsg xm_70 xk_70_0 xk_70_18 := ⟨xok_none, xq_70_19⟩
theorem xq_70_17 : xOKs xsg xm_70 xk_70_0 xk_70_17 := ⟨xok_br (tgt := 45) (xb_eq (by decide +kernel : decode xm_70.2.1 35 = .ok (.ifCond .eq 10, 3)) (by decide)) (by decide +kernel) rfl, xq_70_18⟩
theorem xq_70_16 : xOKs xsg xm_70 xk_70_0 xk_70_16 := ⟨xok_callV (M' := xm_63) rfl (rfl : vwCl[12]? = some (RX12, TX12, 125)) (by decide +kernel : decode xm_70.2.1 32 = .ok (.invokevirtual 310, 3)) xn_63 (xT_c8 2 rfl rfl) (xT_c0 72 rfl rfl) (xT_c8 0 rfl rfl) rfl, xq_70_17⟩
theorem xq_70_15 : xOKs xsg xm_70 xk_70_0 xk_70_15 := ⟨xok_p (xp_iconst (v := 3) (by decide +kernel : decode xm_70.2.1 31 = .ok (.iconst 3, 1)) (by decide)) rfl, xq_70_16⟩
theorem xq_70_14 : xOKs xsg xm_70 xk_70_0 xk_70_14 := ⟨xok_ld (xl_aload_n (by decide +kernel : decode xm_70.2.1 30 = .ok (.aload_n 0, 1))) rfl, xq_70_15⟩
theorem xq_70_13 : xOKs xsg xm_70 xk_70_0 xk_70_13 := ⟨xok_none, xq_70_14⟩
theorem xq_70_12 : xOKs xsg xm_70 xk_70_0 xk_70_12 := ⟨xok_none, xq_70_13⟩
theorem xq_70_11 : xOKs xsg xm_70 xk_70_0 xk_70_11 := ⟨xok_none, xq_70_12⟩
theorem xq_70_10 : xOKs xsg xm_70 xk_70_0 xk_70_10 := ⟨xok_br (tgt := 30) (xb_eq (by decide +kernel : decode xm_70.2.1 20 = .ok (.ifCond .eq 10, 3)) (by decide)) (by decide +kernel) rfl, xq_70_11⟩
theorem xq_70_9 : xOKs xsg xm_70 xk_70_0 xk_70_9 := ⟨xok_callV (M' := xm_63) rfl (rfl : vwCl[12]? = some (RX12, TX12, 125)) (by decide +kernel : decode xm_70.2.1 17 = .ok (.invokevirtual 310, 3)) xn_63 (xT_c8 2 rfl rfl) (xT_c0 72 rfl rfl) (xT_c8 0 rfl rfl) rfl, xq_70_10⟩
theorem xq_70_8 : xOKs xsg xm_70 xk_70_0 xk_70_8 := ⟨xok_p (xp_iconst (v := 0) (by decide +kernel : decode xm_70.2.1 16 = .ok (.iconst 0, 1)) (by decide)) rfl, xq_70_9⟩
theorem xq_70_7 : xOKs xsg xm_70 xk_70_0 xk_70_7 := ⟨xok_ld (xl_aload_n (by decide +kernel : decode xm_70.2.1 15 = .ok (.aload_n 0, 1))) rfl, xq_70_8⟩
theorem xq_70_6 : xOKs xsg xm_70 xk_70_0 xk_70_6 := ⟨xok_br (tgt := 57) (xb_ne (by decide +kernel : decode xm_70.2.1 12 = .ok (.ifCond .ne 45, 3)) (by decide)) (by decide +kernel) rfl, xq_70_7⟩
theorem xq_70_5 : xOKs xsg xm_70 xk_70_0 xk_70_5 := ⟨xok_callV (M' := xm_63) rfl (rfl : vwCl[12]? = some (RX12, TX12, 125)) (by decide +kernel : decode xm_70.2.1 9 = .ok (.invokevirtual 310, 3)) xn_63 (xT_c8 2 rfl rfl) (xT_c0 72 rfl rfl) (xT_c8 0 rfl rfl) rfl, xq_70_6⟩
theorem xq_70_4 : xOKs xsg xm_70 xk_70_0 xk_70_4 := ⟨xok_p (xp_iconst (v := 5) (by decide +kernel : decode xm_70.2.1 8 = .ok (.iconst 5, 1)) (by decide)) rfl, xq_70_5⟩
theorem xq_70_3 : xOKs xsg xm_70 xk_70_0 xk_70_3 := ⟨xok_ld (xl_aload_n (by decide +kernel : decode xm_70.2.1 7 = .ok (.aload_n 0, 1))) rfl, xq_70_4⟩
theorem xq_70_2 : xOKs xsg xm_70 xk_70_0 xk_70_2 := ⟨xok_br (tgt := 57) (xb_ne (by decide +kernel : decode xm_70.2.1 4 = .ok (.ifCond .ne 53, 3)) (by decide)) (by decide +kernel) rfl, xq_70_3⟩
theorem xq_70_1 : xOKs xsg xm_70 xk_70_0 xk_70_1 := ⟨xok_get (by decide +kernel : decode xm_70.2.1 1 = .ok (.getfield 300, 3)) (rfl : vwCl[12]? = some (RX12, TX12, 125)) inX12 (by decide) (xT_c6 69 rfl rfl) rfl, xq_70_2⟩
theorem xq_70_0 : xOKs xsg xm_70 xk_70_0 xk_70_0 := ⟨xok_ld (xl_aload_n (by decide +kernel : decode xm_70.2.1 0 = .ok (.aload_n 0, 1))) rfl, xq_70_1⟩
theorem xz_70 : xwf xsg xm_70 xk_70_0 := ⟨xq_70_0, rfl, by decide⟩
