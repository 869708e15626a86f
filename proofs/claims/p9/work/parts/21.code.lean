/-! FeatherBench$Machine.leave()V -/
def xE_29 : xCd := [(0, .aload_n 0, 1), (1, .invokevirtual 97, 3), (4, .istore_n 1, 1), (5, .aload_n 0, 1), (6, .getfield 66, 3), (9, .ifCond .ne 14, 3), (12, .aload_n 0, 1), (13, .iconst 0, 1), (14, .putfield 39, 3), (17, .aload_n 0, 1), (18, .iload_n 1, 1), (19, .putfield 156, 3), (22, .return_, 1), (23, .aload_n 0, 1), (24, .aload_n 0, 1), (25, .getfield 20, 3), (28, .iconst 2, 1), (29, .aload_n 0, 1), (30, .getfield 66, 3), (33, .imul, 1), (34, .iconst 1, 1), (35, .iadd, 1), (36, .invokevirtual 80, 3), (39, .putfield 63, 3), (42, .aload_n 0, 1), (43, .aload_n 0, 1), (44, .getfield 20, 3), (47, .iconst 2, 1), (48, .aload_n 0, 1), (49, .getfield 66, 3), (52, .imul, 1), (53, .invokevirtual 80, 3), (56, .putfield 60, 3), (59, .aload_n 0, 1), (60, .dup, 1), (61, .getfield 66, 3), (64, .iconst 1, 1), (65, .isub, 1), (66, .putfield 66, 3), (69, .aload_n 0, 1), (70, .iload_n 1, 1), (71, .invokevirtual 84, 3), (74, .return_, 1)]
set_option maxRecDepth 20000 in
theorem xD_29 : ∀ e ∈ xE_29, decode xm_29.2.1 e.1 = .ok e.2 := by decide +kernel
def xk_29 : xK := xmk xL_2 2 (none) false xE_29 xE_29
theorem xz_29 : xwf xsg xm_29 xk_29 := ⟨xmk_ok (M := xm_29) xLk_2 (fun h => by cases h) xE_29 xD_29, rfl, by decide⟩
/-! FeatherBench$Press.<init>(LFeatherBench$Program;)V -/
def xE_30 : xCd := [(0, .aload_n 0, 1), (1, .invokespecial 3, 3), (4, .aload_n 0, 1), (5, .new 9, 3), (8, .dup, 1), (9, .sipush 300, 3), (12, .sipush 2000, 3), (15, .invokespecial 11, 3), (18, .putfield 14, 3), (21, .aload_n 0, 1), (22, .new 9, 3), (25, .dup, 1), (26, .bipush 100, 2), (28, .sipush 4000, 3), (31, .invokespecial 11, 3), (34, .putfield 20, 3), (37, .aload_n 0, 1), (38, .new 9, 3), (41, .dup, 1), (42, .bipush 61, 2), (44, .bipush 61, 2), (46, .invokespecial 11, 3), (49, .putfield 23, 3), (52, .aload_n 0, 1), (53, .aload_n 1, 1), (54, .putfield 26, 3), (57, .return_, 1)]
set_option maxRecDepth 20000 in
theorem xD_30 : ∀ e ∈ xE_30, decode xm_30.2.1 e.1 = .ok e.2 := by decide +kernel
def xk_30 : xK := xmk xL_3 2 (none) true xE_30 xE_30
theorem xz_30 : xwf xsg xm_30 xk_30 := ⟨xmk_ok (M := xm_30) xLk_3 (fun _ => rfl) xE_30 xD_30, rfl, by decide⟩
/-! FeatherBench$Press.begin(LFeatherBench$Program;)V -/
def xE_31 : xCd := [(0, .aload_n 0, 1), (1, .aload_n 1, 1), (2, .putfield 26, 3), (5, .aload_n 0, 1), (6, .getfield 14, 3), (9, .invokevirtual 30, 3), (12, .return_, 1)]
set_option maxRecDepth 20000 in
theorem xD_31 : ∀ e ∈ xE_31, decode xm_31.2.1 e.1 = .ok e.2 := by decide +kernel
def xk_31 : xK := xmk xL_3 2 (none) false xE_31 xE_31
theorem xz_31 : xwf xsg xm_31 xk_31 := ⟨xmk_ok (M := xm_31) xLk_3 (fun h => by cases h) xE_31 xD_31, rfl, by decide⟩
/-! FeatherBench$Press.putType(I)V -/
def xE_32 : xCd := [(0, .iconst 0, 1), (1, .istore_n 2, 1), (2, .aload_n 0, 1), (3, .getfield 23, 3), (6, .iconst 0, 1), (7, .iconst 1, 1), (8, .invokevirtual 33, 3), (11, .iconst 0, 1), (12, .istore_n 3, 1), (13, .iload_n 3, 1), (14, .bipush 60, 2), (16, .if_icmp .ge 178, 3), (19, .aload_n 0, 1), (20, .getfield 23, 3), (23, .iconst 0, 1), (24, .invokevirtual 36, 3), (27, .ifCond .le 167, 3), (30, .aload_n 0, 1), (31, .getfield 26, 3), (34, .getfield 40, 3), (37, .iload_n 1, 1), (38, .iload_n 3, 1), (39, .iadd, 1), (40, .invokevirtual 36, 3), (43, .istore 4, 2), (45, .aload_n 0, 1), (46, .aload_n 0, 1), (47, .getfield 26, 3), (50, .iload 4, 2), (52, .iconst 0, 1), (53, .invokevirtual 45, 3), (56, .invokevirtual 49, 3), (59, .aload_n 0, 1), (60, .getfield 26, 3), (63, .getfield 53, 3), (66, .iload 4, 2), (68, .invokevirtual 36, 3), (71, .ifCond .le 38, 3), (74, .iinc 2 1, 3), (77, .aload_n 0, 1), (78, .getfield 23, 3), (81, .iload_n 2, 1), (82, .aload_n 0, 1), (83, .getfield 26, 3), (86, .getfield 53, 3), (89, .iload 4, 2), (91, .invokevirtual 36, 3), (94, .invokevirtual 33, 3), (97, .aload_n 0, 1), (98, .getfield 14, 3), (101, .bipush 91, 2), (103, .invokevirtual 56, 3), (106, .goto 82, 3), (109, .aload_n 0, 1), (110, .getfield 23, 3), (113, .iload_n 2, 1), (114, .aload_n 0, 1), (115, .getfield 23, 3), (118, .iload_n 2, 1), (119, .invokevirtual 36, 3), (122, .iconst 1, 1), (123, .isub, 1), (124, .invokevirtual 33, 3), (127, .iload_n 2, 1), (128, .ifCond .le 47, 3), (131, .aload_n 0, 1), (132, .getfield 23, 3), (135, .iload_n 2, 1), (136, .invokevirtual 36, 3), (139, .ifCond .ne 36, 3), (142, .aload_n 0, 1), (143, .getfield 14, 3), (146, .bipush 93, 2), (148, .invokevirtual 56, 3), (151, .iinc 2 (-1), 3), (154, .aload_n 0, 1), (155, .getfield 23, 3), (158, .iload_n 2, 1), (159, .aload_n 0, 1), (160, .getfield 23, 3), (163, .iload_n 2, 1), (164, .invokevirtual 36, 3), (167, .iconst 1, 1), (168, .isub, 1), (169, .invokevirtual 33, 3), (172, .goto (-45), 3), (175, .iload_n 2, 1), (176, .ifCond .le 12, 3), (179, .aload_n 0, 1), (180, .getfield 14, 3), (183, .bipush 44, 2), (185, .invokevirtual 56, 3), (188, .iinc 3 1, 3), (191, .goto (-178), 3), (194, .return_, 1)]
set_option maxRecDepth 20000 in
theorem xD_32 : ∀ e ∈ xE_32, decode xm_32.2.1 e.1 = .ok e.2 := by decide +kernel
def xk_32 : xK := xmk xL_3 5 (none) false xE_32 xE_32
theorem xz_32 : xwf xsg xm_32 xk_32 := ⟨xmk_ok (M := xm_32) xLk_3 (fun h => by cases h) xE_32 xD_32, rfl, by decide⟩
/-! FeatherBench$Press.putWord(I)V -/
def xE_33 : xCd := [(0, .aload_n 0, 1), (1, .getfield 26, 3), (4, .getfield 59, 3), (7, .getfield 63, 3), (10, .iload_n 1, 1), (11, .invokevirtual 36, 3), (14, .istore_n 2, 1), (15, .iconst 0, 1), (16, .istore_n 3, 1), (17, .iload_n 3, 1), (18, .aload_n 0, 1), (19, .getfield 26, 3), (22, .getfield 59, 3), (25, .getfield 68, 3), (28, .iload_n 1, 1), (29, .invokevirtual 36, 3), (32, .if_icmp .ge 32, 3), (35, .aload_n 0, 1), (36, .getfield 14, 3), (39, .aload_n 0, 1), (40, .getfield 26, 3), (43, .getfield 59, 3), (46, .getfield 71, 3), (49, .iload_n 2, 1), (50, .iload_n 3, 1), (51, .iadd, 1), (52, .invokevirtual 36, 3), (55, .invokevirtual 56, 3), (58, .iinc 3 1, 3), (61, .goto (-44), 3), (64, .return_, 1)]
set_option maxRecDepth 20000 in
theorem xD_33 : ∀ e ∈ xE_33, decode xm_33.2.1 e.1 = .ok e.2 := by decide +kernel
def xk_33 : xK := xmk xL_3 4 (none) false xE_33 xE_33
theorem xz_33 : xwf xsg xm_33 xk_33 := ⟨xmk_ok (M := xm_33) xLk_3 (fun h => by cases h) xE_33 xD_33, rfl, by decide⟩
/-! FeatherBench$Press.putValue(LFeatherBench$Row;I)V -/
def xE_34 : xCd := [(0, .iconst 0, 1), (1, .istore_n 3, 1), (2, .aload_n 0, 1), (3, .aload_n 1, 1), (4, .iload_n 2, 1), (5, .iconst 0, 1), (6, .invokevirtual 72, 3), (9, .iconst 0, 1), (10, .istore 4, 2), (12, .iload 4, 2), (14, .sipush 2000, 3), (17, .if_icmp .ge 146, 3), (20, .iload_n 3, 1), (21, .ifCond .lt 142, 3), (24, .aload_n 0, 1), (25, .getfield 14, 3), (28, .getfield 76, 3), (31, .sipush 2000, 3), (34, .if_icmp .ge 129, 3), (37, .aload_n 0, 1), (38, .getfield 20, 3), (41, .iconst 2, 1), (42, .iload_n 3, 1), (43, .imul, 1), (44, .invokevirtual 36, 3), (47, .istore 5, 2), (49, .aload_n 0, 1), (50, .getfield 20, 3), (53, .iconst 2, 1), (54, .iload_n 3, 1), (55, .imul, 1), (56, .iconst 1, 1), (57, .iadd, 1), (58, .invokevirtual 36, 3), (61, .istore 6, 2), (63, .iload 6, 2), (65, .aload_n 0, 1), (66, .getfield 26, 3), (69, .aload_n 0, 1), (70, .getfield 26, 3), (73, .getfield 40, 3), (76, .aload_n 1, 1), (77, .iload 5, 2), (79, .invokevirtual 36, 3), (82, .invokevirtual 36, 3), (85, .iconst 4, 1), (86, .invokevirtual 45, 3), (89, .if_icmp .ne 18, 3), (92, .aload_n 0, 1), (93, .getfield 14, 3), (96, .bipush 125, 2), (98, .invokevirtual 56, 3), (101, .iinc 3 (-1), 3), (104, .goto 53, 3), (107, .iload 6, 2), (109, .ifCond .le 12, 3), (112, .aload_n 0, 1), (113, .getfield 14, 3), (116, .bipush 44, 2), (118, .invokevirtual 56, 3), (121, .aload_n 0, 1), (122, .getfield 20, 3), (125, .iconst 2, 1), (126, .iload_n 3, 1), (127, .imul, 1), (128, .iconst 1, 1), (129, .iadd, 1), (130, .iload 6, 2), (132, .iconst 1, 1), (133, .iadd, 1), (134, .invokevirtual 33, 3), (137, .iinc 3 1, 3), (140, .aload_n 0, 1), (141, .aload_n 1, 1), (142, .aload_n 1, 1), (143, .iload 5, 2), (145, .iconst 1, 1), (146, .iadd, 1), (147, .iload 6, 2), (149, .iadd, 1), (150, .invokevirtual 36, 3), (153, .iload_n 3, 1), (154, .invokevirtual 72, 3), (157, .iinc 4 1, 3), (160, .goto (-148), 3), (163, .return_, 1)]
set_option maxRecDepth 20000 in
theorem xD_34 : ∀ e ∈ xE_34, decode xm_34.2.1 e.1 = .ok e.2 := by decide +kernel
def xk_34 : xK := xmk xL_3 7 (none) false xE_34 xE_34
theorem xz_34 : xwf xsg xm_34 xk_34 := ⟨xmk_ok (M := xm_34) xLk_3 (fun h => by cases h) xE_34 xD_34, rfl, by decide⟩
/-! FeatherBench$Press.openValue(LFeatherBench$Row;II)V -/
def xE_35 : xCd := [(0, .aload_n 0, 1), (1, .aload_n 1, 1), (2, .iload_n 2, 1), (3, .invokevirtual 36, 3), (6, .invokevirtual 80, 3), (9, .aload_n 0, 1), (10, .getfield 14, 3), (13, .bipush 123, 2), (15, .invokevirtual 56, 3), (18, .aload_n 0, 1), (19, .getfield 20, 3), (22, .iconst 2, 1), (23, .iload_n 3, 1), (24, .imul, 1), (25, .iload_n 2, 1), (26, .invokevirtual 33, 3), (29, .aload_n 0, 1), (30, .getfield 20, 3), (33, .iconst 2, 1), (34, .iload_n 3, 1), (35, .imul, 1), (36, .iconst 1, 1), (37, .iadd, 1), (38, .iconst 0, 1), (39, .invokevirtual 33, 3), (42, .return_, 1)]
set_option maxRecDepth 20000 in
theorem xD_35 : ∀ e ∈ xE_35, decode xm_35.2.1 e.1 = .ok e.2 := by decide +kernel
def xk_35 : xK := xmk xL_3 4 (none) false xE_35 xE_35
theorem xz_35 : xwf xsg xm_35 xk_35 := ⟨xmk_ok (M := xm_35) xLk_3 (fun h => by cases h) xE_35 xD_35, rfl, by decide⟩
/-! FeatherBench$Program.<init>()V -/
def xE_36 : xCd := [(0, .aload_n 0, 1), (1, .invokespecial 3, 3), (4, .aload_n 0, 1), (5, .new 9, 3), (8, .dup, 1), (9, .invokespecial 11, 3), (12, .putfield 12, 3), (15, .aload_n 0, 1), (16, .new 18, 3), (19, .dup, 1), (20, .sipush 19738, 3), (23, .ldc 20, 2), (25, .invokespecial 21, 3), (28, .putfield 24, 3), (31, .aload_n 0, 1), (32, .new 18, 3), (35, .dup, 1), (36, .sipush 300, 3), (39, .ldc 28, 2), (41, .invokespecial 21, 3), (44, .putfield 29, 3), (47, .aload_n 0, 1), (48, .new 18, 3), (51, .dup, 1), (52, .bipush 24, 2), (54, .bipush 24, 2), (56, .invokespecial 21, 3), (59, .putfield 32, 3), (62, .aload_n 0, 1), (63, .new 18, 3), (66, .dup, 1), (67, .sipush 144, 3), (70, .sipush 144, 3), (73, .invokespecial 21, 3), (76, .putfield 35, 3), (79, .aload_n 0, 1), (80, .new 18, 3), (83, .dup, 1), (84, .bipush 100, 2), (86, .sipush 600, 3), (89, .invokespecial 21, 3), (92, .putfield 38, 3), (95, .aload_n 0, 1), (96, .new 18, 3), (99, .dup, 1), (100, .bipush 100, 2), (102, .sipush 20000, 3), (105, .invokespecial 21, 3), (108, .putfield 41, 3), (111, .aload_n 0, 1), (112, .new 18, 3), (115, .dup, 1), (116, .sipush 400, 3), (119, .sipush 20000, 3), (122, .invokespecial 21, 3), (125, .putfield 44, 3), (128, .aload_n 0, 1), (129, .new 18, 3), (132, .dup, 1), (133, .bipush 90, 2), (135, .sipush 252, 3), (138, .invokespecial 21, 3), (141, .putfield 47, 3), (144, .aload_n 0, 1), (145, .new 18, 3), (148, .dup, 1), (149, .sipush 600, 3), (152, .sipush 24000, 3), (155, .invokespecial 21, 3), (158, .putfield 50, 3), (161, .iconst 0, 1), (162, .istore_n 1, 1), (163, .iload_n 1, 1), (164, .bipush 18, 2), (166, .if_icmp .ge 21, 3), (169, .aload_n 0, 1), (170, .getfield 24, 3), (173, .iload_n 1, 1), (174, .bipush 24, 2), (176, .iload_n 1, 1), (177, .iadd, 1), (178, .invokevirtual 53, 3), (181, .iinc 1 1, 3), (184, .goto (-21), 3), (187, .return_, 1)]
set_option maxRecDepth 20000 in
theorem xD_36 : ∀ e ∈ xE_36, decode xm_36.2.1 e.1 = .ok e.2 := by decide +kernel
def xk_36 : xK := xmk xL_4 2 (none) true xE_36 xE_36
theorem xz_36 : xwf xsg xm_36 xk_36 := ⟨xmk_ok (M := xm_36) xLk_4 (fun _ => rfl) xE_36 xD_36, rfl, by decide⟩
/-! FeatherBench$Program.begin(LFeatherBench$Row;)V -/
def xE_37 : xCd := [(0, .aload_n 0, 1), (1, .getfield 12, 3), (4, .aload_n 1, 1), (5, .invokevirtual 56, 3), (8, .aload_n 0, 1), (9, .getfield 35, 3), (12, .invokevirtual 60, 3), (15, .aload_n 0, 1), (16, .getfield 38, 3), (19, .invokevirtual 60, 3), (22, .aload_n 0, 1), (23, .getfield 41, 3), (26, .invokevirtual 60, 3), (29, .aload_n 0, 1), (30, .getfield 44, 3), (33, .invokevirtual 60, 3), (36, .aload_n 0, 1), (37, .getfield 47, 3), (40, .invokevirtual 60, 3), (43, .aload_n 0, 1), (44, .getfield 50, 3), (47, .invokevirtual 60, 3), (50, .aload_n 0, 1), (51, .sipush 18738, 3), (54, .putfield 63, 3), (57, .aload_n 0, 1), (58, .iconst 0, 1), (59, .putfield 67, 3), (62, .return_, 1)]
set_option maxRecDepth 20000 in
theorem xD_37 : ∀ e ∈ xE_37, decode xm_37.2.1 e.1 = .ok e.2 := by decide +kernel
def xk_37 : xK := xmk xL_4 2 (none) false xE_37 xE_37
theorem xz_37 : xwf xsg xm_37 xk_37 := ⟨xmk_ok (M := xm_37) xLk_4 (fun h => by cases h) xE_37 xD_37, rfl, by decide⟩
/-! FeatherBench$Program.blame(II)V -/
def xE_38 : xCd := [(0, .aload_n 0, 1), (1, .getfield 67, 3), (4, .ifCond .ne 27, 3), (7, .iload_n 1, 1), (8, .ifCond .eq 23, 3), (11, .aload_n 0, 1), (12, .iload_n 1, 1), (13, .bipush 16, 2), (15, .aload_n 0, 1), (16, .getfield 12, 3), (19, .getfield 70, 3), (22, .iload_n 2, 1), (23, .invokevirtual 73, 3), (26, .imul, 1), (27, .iadd, 1), (28, .putfield 67, 3), (31, .return_, 1)]
set_option maxRecDepth 20000 in
theorem xD_38 : ∀ e ∈ xE_38, decode xm_38.2.1 e.1 = .ok e.2 := by decide +kernel
def xk_38 : xK := xmk xL_4 3 (none) false xE_38 xE_38
theorem xz_38 : xwf xsg xm_38 xk_38 := ⟨xmk_ok (M := xm_38) xLk_4 (fun h => by cases h) xE_38 xD_38, rfl, by decide⟩
/-! FeatherBench$Program.type(II)I -/
def xE_39 : xCd := [(0, .aload_n 0, 1), (1, .getfield 35, 3), (4, .iload_n 1, 1), (5, .bipush 6, 2), (7, .imul, 1), (8, .iload_n 2, 1), (9, .iadd, 1), (10, .invokevirtual 73, 3), (13, .ireturn, 1)]
set_option maxRecDepth 20000 in
theorem xD_39 : ∀ e ∈ xE_39, decode xm_39.2.1 e.1 = .ok e.2 := by decide +kernel
def xk_39 : xK := xmk xL_4 3 (some .int) false xE_39 xE_39
theorem xz_39 : xwf xsg xm_39 xk_39 := ⟨xmk_ok (M := xm_39) xLk_4 (fun h => by cases h) xE_39 xD_39, rfl, by decide⟩
/-! FeatherBench$Program.func(II)I -/
def xE_40 : xCd := [(0, .aload_n 0, 1), (1, .getfield 38, 3), (4, .iload_n 1, 1), (5, .bipush 10, 2), (7, .imul, 1), (8, .iload_n 2, 1), (9, .iadd, 1), (10, .invokevirtual 73, 3), (13, .ireturn, 1)]
set_option maxRecDepth 20000 in
theorem xD_40 : ∀ e ∈ xE_40, decode xm_40.2.1 e.1 = .ok e.2 := by decide +kernel
def xk_40 : xK := xmk xL_4 3 (some .int) false xE_40 xE_40
theorem xz_40 : xwf xsg xm_40 xk_40 := ⟨xmk_ok (M := xm_40) xLk_4 (fun h => by cases h) xE_40 xD_40, rfl, by decide⟩
/-! FeatherBench$Program.sig(II)I -/
def xE_41 : xCd := [(0, .aload_n 0, 1), (1, .getfield 41, 3), (4, .iload_n 1, 1), (5, .iconst 5, 1), (6, .imul, 1), (7, .iload_n 2, 1), (8, .iadd, 1), (9, .invokevirtual 73, 3), (12, .ireturn, 1)]
set_option maxRecDepth 20000 in
theorem xD_41 : ∀ e ∈ xE_41, decode xm_41.2.1 e.1 = .ok e.2 := by decide +kernel
def xk_41 : xK := xmk xL_4 3 (some .int) false xE_41 xE_41
theorem xz_41 : xwf xsg xm_41 xk_41 := ⟨xmk_ok (M := xm_41) xLk_4 (fun h => by cases h) xE_41 xD_41, rfl, by decide⟩
/-! FeatherBench$Program.slot(II)I -/
def xE_42 : xCd := [(0, .aload_n 0, 1), (1, .getfield 44, 3), (4, .iload_n 1, 1), (5, .iconst 5, 1), (6, .imul, 1), (7, .iload_n 2, 1), (8, .iadd, 1), (9, .invokevirtual 73, 3), (12, .ireturn, 1)]
set_option maxRecDepth 20000 in
theorem xD_42 : ∀ e ∈ xE_42, decode xm_42.2.1 e.1 = .ok e.2 := by decide +kernel
def xk_42 : xK := xmk xL_4 3 (some .int) false xE_42 xE_42
theorem xz_42 : xwf xsg xm_42 xk_42 := ⟨xmk_ok (M := xm_42) xLk_4 (fun h => by cases h) xE_42 xD_42, rfl, by decide⟩
/-! FeatherBench$Program.decl(II)I -/
def xE_43 : xCd := [(0, .aload_n 0, 1), (1, .getfield 47, 3), (4, .iload_n 1, 1), (5, .iconst 3, 1), (6, .imul, 1), (7, .iload_n 2, 1), (8, .iadd, 1), (9, .invokevirtual 73, 3), (12, .ireturn, 1)]
set_option maxRecDepth 20000 in
theorem xD_43 : ∀ e ∈ xE_43, decode xm_43.2.1 e.1 = .ok e.2 := by decide +kernel
def xk_43 : xK := xmk xL_4 3 (some .int) false xE_43 xE_43
theorem xz_43 : xwf xsg xm_43 xk_43 := ⟨xmk_ok (M := xm_43) xLk_4 (fun h => by cases h) xE_43 xD_43, rfl, by decide⟩
/-! FeatherBench$Program.typeCount()I -/
def xE_44 : xCd := [(0, .aload_n 0, 1), (1, .getfield 35, 3), (4, .getfield 77, 3), (7, .bipush 6, 2), (9, .idiv, 1), (10, .ireturn, 1)]
set_option maxRecDepth 20000 in
theorem xD_44 : ∀ e ∈ xE_44, decode xm_44.2.1 e.1 = .ok e.2 := by decide +kernel
def xk_44 : xK := xmk xL_4 1 (some .int) false xE_44 xE_44
theorem xz_44 : xwf xsg xm_44 xk_44 := ⟨xmk_ok (M := xm_44) xLk_4 (fun h => by cases h) xE_44 xD_44, rfl, by decide⟩
/-! FeatherBench$Program.funcCount()I -/
def xE_45 : xCd := [(0, .aload_n 0, 1), (1, .getfield 38, 3), (4, .getfield 77, 3), (7, .bipush 10, 2), (9, .idiv, 1), (10, .ireturn, 1)]
set_option maxRecDepth 20000 in
theorem xD_45 : ∀ e ∈ xE_45, decode xm_45.2.1 e.1 = .ok e.2 := by decide +kernel
def xk_45 : xK := xmk xL_4 1 (some .int) false xE_45 xE_45
theorem xz_45 : xwf xsg xm_45 xk_45 := ⟨xmk_ok (M := xm_45) xLk_4 (fun h => by cases h) xE_45 xD_45, rfl, by decide⟩
/-! FeatherBench$Program.sigCount()I -/
def xE_46 : xCd := [(0, .aload_n 0, 1), (1, .getfield 41, 3), (4, .getfield 77, 3), (7, .iconst 5, 1), (8, .idiv, 1), (9, .ireturn, 1)]
set_option maxRecDepth 20000 in
theorem xD_46 : ∀ e ∈ xE_46, decode xm_46.2.1 e.1 = .ok e.2 := by decide +kernel
def xk_46 : xK := xmk xL_4 1 (some .int) false xE_46 xE_46
theorem xz_46 : xwf xsg xm_46 xk_46 := ⟨xmk_ok (M := xm_46) xLk_4 (fun h => by cases h) xE_46 xD_46, rfl, by decide⟩
/-! FeatherBench$Program.slotCount()I -/
def xE_47 : xCd := [(0, .aload_n 0, 1), (1, .getfield 44, 3), (4, .getfield 77, 3), (7, .iconst 5, 1), (8, .idiv, 1), (9, .ireturn, 1)]
set_option maxRecDepth 20000 in
theorem xD_47 : ∀ e ∈ xE_47, decode xm_47.2.1 e.1 = .ok e.2 := by decide +kernel
def xk_47 : xK := xmk xL_4 1 (some .int) false xE_47 xE_47
theorem xz_47 : xwf xsg xm_47 xk_47 := ⟨xmk_ok (M := xm_47) xLk_4 (fun h => by cases h) xE_47 xD_47, rfl, by decide⟩
/-! FeatherBench$Program.declCount()I -/
def xE_48 : xCd := [(0, .aload_n 0, 1), (1, .getfield 47, 3), (4, .getfield 77, 3), (7, .iconst 3, 1), (8, .idiv, 1), (9, .ireturn, 1)]
set_option maxRecDepth 20000 in
theorem xD_48 : ∀ e ∈ xE_48, decode xm_48.2.1 e.1 = .ok e.2 := by decide +kernel
def xk_48 : xK := xmk xL_4 1 (some .int) false xE_48 xE_48
theorem xz_48 : xwf xsg xm_48 xk_48 := ⟨xmk_ok (M := xm_48) xLk_4 (fun h => by cases h) xE_48 xD_48, rfl, by decide⟩
/-! FeatherBench$Program.isStruct(I)Z -/
def xE_49 : xCd := [(0, .iload_n 1, 1), (1, .aload_n 0, 1), (2, .invokevirtual 80, 3), (5, .if_icmp .ge 24, 3), (8, .aload_n 0, 1), (9, .getfield 35, 3), (12, .iload_n 1, 1), (13, .bipush 6, 2), (15, .imul, 1), (16, .iconst 1, 1), (17, .iadd, 1), (18, .invokevirtual 73, 3), (21, .iconst 4, 1), (22, .if_icmp .ne 7, 3), (25, .iconst 1, 1), (26, .goto 4, 3), (29, .iconst 0, 1), (30, .ireturn, 1)]
set_option maxRecDepth 20000 in
theorem xD_49 : ∀ e ∈ xE_49, decode xm_49.2.1 e.1 = .ok e.2 := by decide +kernel
def xk_49 : xK := xmk xL_4 2 (some .boolean) false xE_49 xE_49
theorem xz_49 : xwf xsg xm_49 xk_49 := ⟨xmk_ok (M := xm_49) xLk_4 (fun h => by cases h) xE_49 xD_49, rfl, by decide⟩
/-! FeatherBench$Program.isInterface(I)Z -/
def xE_50 : xCd := [(0, .iload_n 1, 1), (1, .aload_n 0, 1), (2, .invokevirtual 80, 3), (5, .if_icmp .ge 24, 3), (8, .aload_n 0, 1), (9, .getfield 35, 3), (12, .iload_n 1, 1), (13, .bipush 6, 2), (15, .imul, 1), (16, .iconst 1, 1), (17, .iadd, 1), (18, .invokevirtual 73, 3), (21, .iconst 5, 1), (22, .if_icmp .ne 7, 3), (25, .iconst 1, 1), (26, .goto 4, 3), (29, .iconst 0, 1), (30, .ireturn, 1)]
set_option maxRecDepth 20000 in
theorem xD_50 : ∀ e ∈ xE_50, decode xm_50.2.1 e.1 = .ok e.2 := by decide +kernel
def xk_50 : xK := xmk xL_4 2 (some .boolean) false xE_50 xE_50
theorem xz_50 : xwf xsg xm_50 xk_50 := ⟨xmk_ok (M := xm_50) xLk_4 (fun h => by cases h) xE_50 xD_50, rfl, by decide⟩
/-! FeatherBench$Program.typeNamed(LFeatherBench$Text;I)I -/
def xE_51 : xCd := [(0, .iconst 0, 1), (1, .istore_n 3, 1), (2, .iload_n 3, 1), (3, .aload_n 0, 1), (4, .invokevirtual 80, 3), (7, .if_icmp .ge 29, 3), (10, .aload_n 0, 1), (11, .getfield 12, 3), (14, .aload_n 0, 1), (15, .iload_n 3, 1), (16, .iconst 0, 1), (17, .invokevirtual 84, 3), (20, .aload_n 1, 1), (21, .iload_n 2, 1), (22, .invokevirtual 88, 3), (25, .ifCond .eq 5, 3), (28, .iload_n 3, 1), (29, .ireturn, 1), (30, .iinc 3 1, 3), (33, .goto (-31), 3), (36, .iconst (-1), 1), (37, .ireturn, 1)]
set_option maxRecDepth 20000 in
theorem xD_51 : ∀ e ∈ xE_51, decode xm_51.2.1 e.1 = .ok e.2 := by decide +kernel
def xk_51 : xK := xmk xL_4 4 (some .int) false xE_51 xE_51
theorem xz_51 : xwf xsg xm_51 xk_51 := ⟨xmk_ok (M := xm_51) xLk_4 (fun h => by cases h) xE_51 xD_51, rfl, by decide⟩
/-! FeatherBench$Program.sigOf(II)I -/
def xE_52 : xCd := [(0, .aload_n 0, 1), (1, .iload_n 1, 1), (2, .invokevirtual 92, 3), (5, .ifCond .eq 25, 3), (8, .aload_n 0, 1), (9, .iload_n 1, 1), (10, .iload_n 2, 1), (11, .invokevirtual 96, 3), (14, .istore_n 3, 1), (15, .iload_n 3, 1), (16, .ifCond .ge 7, 3), (19, .iconst (-1), 1), (20, .goto 9, 3), (23, .aload_n 0, 1), (24, .iload_n 3, 1), (25, .iconst 5, 1), (26, .invokevirtual 99, 3), (29, .ireturn, 1), (30, .aload_n 0, 1), (31, .iload_n 1, 1), (32, .invokevirtual 102, 3), (35, .ifCond .ne 5, 3), (38, .iconst (-1), 1), (39, .ireturn, 1), (40, .aload_n 0, 1), (41, .iload_n 1, 1), (42, .iconst 3, 1), (43, .invokevirtual 84, 3), (46, .istore_n 3, 1), (47, .iconst 0, 1), (48, .istore 4, 2), (50, .iload 4, 2), (52, .aload_n 0, 1), (53, .iload_n 1, 1), (54, .iconst 4, 1), (55, .invokevirtual 84, 3), (58, .if_icmp .ge 27, 3), (61, .aload_n 0, 1), (62, .iload_n 3, 1), (63, .iload 4, 2), (65, .iadd, 1), (66, .iconst 1, 1), (67, .invokevirtual 105, 3), (70, .iload_n 2, 1), (71, .if_icmp .ne 8, 3), (74, .iload_n 3, 1), (75, .iload 4, 2), (77, .iadd, 1), (78, .ireturn, 1), (79, .iinc 4 1, 3), (82, .goto (-32), 3), (85, .iconst (-1), 1), (86, .ireturn, 1)]
set_option maxRecDepth 20000 in
theorem xD_52 : ∀ e ∈ xE_52, decode xm_52.2.1 e.1 = .ok e.2 := by decide +kernel
def xk_52 : xK := xmk xL_4 5 (some .int) false xE_52 xE_52
theorem xz_52 : xwf xsg xm_52 xk_52 := ⟨xmk_ok (M := xm_52) xLk_4 (fun h => by cases h) xE_52 xD_52, rfl, by decide⟩
/-! FeatherBench$Program.funcOf(II)I -/
def xE_53 : xCd := [(0, .aload_n 0, 1), (1, .getfield 35, 3), (4, .iload_n 1, 1), (5, .bipush 6, 2), (7, .imul, 1), (8, .iconst 5, 1), (9, .iadd, 1), (10, .invokevirtual 73, 3), (13, .istore_n 3, 1), (14, .iconst 0, 1), (15, .istore 4, 2), (17, .iload 4, 2), (19, .bipush 60, 2), (21, .if_icmp .ge 48, 3), (24, .iload_n 3, 1), (25, .ifCond .lt 44, 3), (28, .aload_n 0, 1), (29, .getfield 38, 3), (32, .iload_n 3, 1), (33, .bipush 10, 2), (35, .imul, 1), (36, .bipush 6, 2), (38, .iadd, 1), (39, .invokevirtual 73, 3), (42, .iload_n 2, 1), (43, .if_icmp .ne 5, 3), (46, .iload_n 3, 1), (47, .ireturn, 1), (48, .aload_n 0, 1), (49, .getfield 38, 3), (52, .iload_n 3, 1), (53, .bipush 10, 2), (55, .imul, 1), (56, .bipush 9, 2), (58, .iadd, 1), (59, .invokevirtual 73, 3), (62, .istore_n 3, 1), (63, .iinc 4 1, 3), (66, .goto (-49), 3), (69, .iconst (-1), 1), (70, .ireturn, 1)]
set_option maxRecDepth 20000 in
theorem xD_53 : ∀ e ∈ xE_53, decode xm_53.2.1 e.1 = .ok e.2 := by decide +kernel
def xk_53 : xK := xmk xL_4 5 (some .int) false xE_53 xE_53
theorem xz_53 : xwf xsg xm_53 xk_53 := ⟨xmk_ok (M := xm_53) xLk_4 (fun h => by cases h) xE_53 xD_53, rfl, by decide⟩
/-! FeatherBench$Program.addSlot(IIII)V -/
def xE_54 : xCd := [(0, .aload_n 0, 1), (1, .getfield 44, 3), (4, .iload_n 1, 1), (5, .invokevirtual 108, 3), (8, .aload_n 0, 1), (9, .getfield 44, 3), (12, .iload_n 2, 1), (13, .invokevirtual 108, 3), (16, .aload_n 0, 1), (17, .getfield 44, 3), (20, .iload_n 3, 1), (21, .invokevirtual 108, 3), (24, .aload_n 0, 1), (25, .getfield 44, 3), (28, .iconst (-1), 1), (29, .invokevirtual 108, 3), (32, .aload_n 0, 1), (33, .getfield 44, 3), (36, .iload 4, 2), (38, .invokevirtual 108, 3), (41, .return_, 1)]
set_option maxRecDepth 20000 in
theorem xD_54 : ∀ e ∈ xE_54, decode xm_54.2.1 e.1 = .ok e.2 := by decide +kernel
def xk_54 : xK := xmk xL_4 5 (none) false xE_54 xE_54
theorem xz_54 : xwf xsg xm_54 xk_54 := ⟨xmk_ok (M := xm_54) xLk_4 (fun h => by cases h) xE_54 xD_54, rfl, by decide⟩
/-! FeatherBench$Program.addSig(IIII)V -/
def xE_55 : xCd := [(0, .aload_n 0, 1), (1, .getfield 41, 3), (4, .iload_n 1, 1), (5, .invokevirtual 108, 3), (8, .aload_n 0, 1), (9, .getfield 41, 3), (12, .aload_n 0, 1), (13, .getfield 12, 3), (16, .getfield 112, 3), (19, .iload_n 1, 1), (20, .invokevirtual 73, 3), (23, .invokevirtual 108, 3), (26, .aload_n 0, 1), (27, .getfield 41, 3), (30, .iload_n 2, 1), (31, .invokevirtual 108, 3), (34, .aload_n 0, 1), (35, .getfield 41, 3), (38, .iload_n 3, 1), (39, .invokevirtual 108, 3), (42, .aload_n 0, 1), (43, .getfield 41, 3), (46, .iload 4, 2), (48, .invokevirtual 108, 3), (51, .return_, 1)]
set_option maxRecDepth 20000 in
theorem xD_55 : ∀ e ∈ xE_55, decode xm_55.2.1 e.1 = .ok e.2 := by decide +kernel
def xk_55 : xK := xmk xL_4 5 (none) false xE_55 xE_55
theorem xz_55 : xwf xsg xm_55 xk_55 := ⟨xmk_ok (M := xm_55) xLk_4 (fun h => by cases h) xE_55 xD_55, rfl, by decide⟩
/-! FeatherBench$Program.addType(IIIIII)V -/
def xE_56 : xCd := [(0, .aload_n 0, 1), (1, .getfield 32, 3), (4, .aload_n 0, 1), (5, .invokevirtual 80, 3), (8, .iload 4, 2), (10, .invokevirtual 53, 3), (13, .aload_n 0, 1), (14, .aload_n 0, 1), (15, .invokevirtual 80, 3), (18, .iload_n 3, 1), (19, .invokevirtual 113, 3), (22, .aload_n 0, 1), (23, .getfield 35, 3), (26, .iload_n 1, 1), (27, .invokevirtual 108, 3), (30, .aload_n 0, 1), (31, .getfield 35, 3), (34, .iload_n 2, 1), (35, .invokevirtual 108, 3), (38, .aload_n 0, 1), (39, .getfield 35, 3), (42, .iload_n 3, 1), (43, .invokevirtual 108, 3), (46, .aload_n 0, 1), (47, .getfield 35, 3), (50, .iload 5, 2), (52, .invokevirtual 108, 3), (55, .aload_n 0, 1), (56, .getfield 35, 3), (59, .iload 6, 2), (61, .invokevirtual 108, 3), (64, .aload_n 0, 1), (65, .getfield 35, 3), (68, .iconst (-1), 1), (69, .invokevirtual 108, 3), (72, .return_, 1)]
set_option maxRecDepth 20000 in
theorem xD_56 : ∀ e ∈ xE_56, decode xm_56.2.1 e.1 = .ok e.2 := by decide +kernel
def xk_56 : xK := xmk xL_4 7 (none) false xE_56 xE_56
theorem xz_56 : xwf xsg xm_56 xk_56 := ⟨xmk_ok (M := xm_56) xLk_4 (fun h => by cases h) xE_56 xD_56, rfl, by decide⟩
/-! FeatherBench$Program.addFunc(IIIIII)V -/
def xE_57 : xCd := [(0, .aload_n 0, 1), (1, .iconst (-1), 1), (2, .aload_n 0, 1), (3, .invokevirtual 116, 3), (6, .isub, 1), (7, .iload_n 3, 1), (8, .invokevirtual 113, 3), (11, .aload_n 0, 1), (12, .getfield 38, 3), (15, .iload_n 1, 1), (16, .invokevirtual 108, 3), (19, .aload_n 0, 1), (20, .getfield 38, 3), (23, .iload_n 2, 1), (24, .invokevirtual 108, 3), (27, .aload_n 0, 1), (28, .getfield 38, 3), (31, .iconst (-1), 1), (32, .invokevirtual 108, 3), (35, .aload_n 0, 1), (36, .getfield 38, 3), (39, .iload_n 3, 1), (40, .iconst 1, 1), (41, .iadd, 1), (42, .invokevirtual 108, 3), (45, .aload_n 0, 1), (46, .getfield 38, 3), (49, .iload 4, 2), (51, .invokevirtual 108, 3), (54, .aload_n 0, 1), (55, .getfield 38, 3), (58, .iload 5, 2), (60, .invokevirtual 108, 3), (63, .aload_n 0, 1), (64, .getfield 38, 3), (67, .aload_n 0, 1), (68, .iload 5, 2), (70, .iconst 1, 1), (71, .invokevirtual 105, 3), (74, .invokevirtual 108, 3), (77, .aload_n 0, 1), (78, .getfield 38, 3), (81, .iload 6, 2), (83, .invokevirtual 108, 3), (86, .aload_n 0, 1), (87, .getfield 38, 3), (90, .iconst (-1), 1), (91, .invokevirtual 108, 3), (94, .aload_n 0, 1), (95, .getfield 38, 3), (98, .iconst (-1), 1), (99, .invokevirtual 108, 3), (102, .return_, 1)]
set_option maxRecDepth 20000 in
theorem xD_57 : ∀ e ∈ xE_57, decode xm_57.2.1 e.1 = .ok e.2 := by decide +kernel
def xk_57 : xK := xmk xL_4 7 (none) false xE_57 xE_57
theorem xz_57 : xwf xsg xm_57 xk_57 := ⟨xmk_ok (M := xm_57) xLk_4 (fun h => by cases h) xE_57 xD_57, rfl, by decide⟩
/-! FeatherBench$Program.addDecl(II)V -/
def xE_58 : xCd := [(0, .aload_n 0, 1), (1, .getfield 47, 3), (4, .iload_n 1, 1), (5, .invokevirtual 108, 3), (8, .aload_n 0, 1), (9, .getfield 47, 3), (12, .iload_n 2, 1), (13, .invokevirtual 108, 3), (16, .aload_n 0, 1), (17, .getfield 47, 3), (20, .aload_n 0, 1), (21, .invokevirtual 119, 3), (24, .invokevirtual 108, 3), (27, .return_, 1)]
set_option maxRecDepth 20000 in
theorem xD_58 : ∀ e ∈ xE_58, decode xm_58.2.1 e.1 = .ok e.2 := by decide +kernel
def xk_58 : xK := xmk xL_4 3 (none) false xE_58 xE_58
theorem xz_58 : xwf xsg xm_58 xk_58 := ⟨xmk_ok (M := xm_58) xLk_4 (fun h => by cases h) xE_58 xD_58, rfl, by decide⟩
/-! FeatherBench$Program.addCode(IIIIII)V -/
def xE_59 : xCd := [(0, .aload_n 0, 1), (1, .getfield 50, 3), (4, .iload_n 1, 1), (5, .invokevirtual 108, 3), (8, .aload_n 0, 1), (9, .getfield 50, 3), (12, .iload_n 2, 1), (13, .invokevirtual 108, 3), (16, .aload_n 0, 1), (17, .getfield 50, 3), (20, .iload_n 3, 1), (21, .invokevirtual 108, 3), (24, .aload_n 0, 1), (25, .getfield 50, 3), (28, .iload 4, 2), (30, .invokevirtual 108, 3), (33, .aload_n 0, 1), (34, .getfield 50, 3), (37, .iload 5, 2), (39, .invokevirtual 108, 3), (42, .aload_n 0, 1), (43, .getfield 50, 3), (46, .iload 6, 2), (48, .invokevirtual 108, 3), (51, .return_, 1)]
set_option maxRecDepth 20000 in
theorem xD_59 : ∀ e ∈ xE_59, decode xm_59.2.1 e.1 = .ok e.2 := by decide +kernel
def xk_59 : xK := xmk xL_4 7 (none) false xE_59 xE_59
theorem xz_59 : xwf xsg xm_59 xk_59 := ⟨xmk_ok (M := xm_59) xLk_4 (fun h => by cases h) xE_59 xD_59, rfl, by decide⟩
/-! FeatherBench$Reader.<init>(LFeatherBench$Program;)V -/
def xE_60 : xCd := [(0, .aload_n 0, 1), (1, .invokespecial 3, 3), (4, .aload_n 0, 1), (5, .aload_n 1, 1), (6, .putfield 9, 3), (9, .aload_n 0, 1), (10, .aload_n 1, 1), (11, .getfield 15, 3), (14, .putfield 21, 3), (17, .aload_n 0, 1), (18, .aload_n 0, 1), (19, .getfield 21, 3), (22, .getfield 22, 3), (25, .putfield 28, 3), (28, .return_, 1)]
set_option maxRecDepth 20000 in
theorem xD_60 : ∀ e ∈ xE_60, decode xm_60.2.1 e.1 = .ok e.2 := by decide +kernel
def xk_60 : xK := xmk xL_5 2 (none) true xE_60 xE_60
theorem xz_60 : xwf xsg xm_60 xk_60 := ⟨xmk_ok (M := xm_60) xLk_5 (fun _ => rfl) xE_60 xD_60, rfl, by decide⟩
/-! FeatherBench$Reader.read(LFeatherBench$Program;)V -/
def xE_61 : xCd := [(0, .aload_n 0, 1), (1, .aload_n 1, 1), (2, .putfield 9, 3), (5, .aload_n 0, 1), (6, .aload_n 0, 1), (7, .getfield 9, 3), (10, .getfield 15, 3), (13, .putfield 21, 3), (16, .aload_n 0, 1), (17, .aload_n 0, 1), (18, .getfield 21, 3), (21, .getfield 22, 3), (24, .putfield 28, 3), (27, .aload_n 0, 1), (28, .iconst 0, 1), (29, .putfield 29, 3), (32, .iconst 0, 1), (33, .istore_n 2, 1), (34, .iload_n 2, 1), (35, .sipush 4000, 3), (38, .if_icmp .ge 62, 3), (41, .aload_n 0, 1), (42, .getfield 9, 3), (45, .getfield 33, 3), (48, .ifCond .ne 52, 3), (51, .aload_n 0, 1), (52, .getfield 28, 3), (55, .aload_n 0, 1), (56, .getfield 29, 3), (59, .invokevirtual 36, 3), (62, .bipush 8, 2), (64, .if_icmp .eq 36, 3), (67, .aload_n 0, 1), (68, .getfield 28, 3), (71, .aload_n 0, 1), (72, .getfield 29, 3), (75, .invokevirtual 36, 3), (78, .bipush 6, 2), (80, .if_icmp .ne 10, 3), (83, .aload_n 0, 1), (84, .invokevirtual 42, 3), (87, .goto 7, 3), (90, .aload_n 0, 1), (91, .invokevirtual 45, 3), (94, .iinc 2 1, 3), (97, .goto (-63), 3), (100, .aload_n 0, 1), (101, .bipush 8, 2), (103, .invokevirtual 48, 3), (106, .aload_n 0, 1), (107, .getfield 9, 3), (110, .aload_n 0, 1), (111, .getfield 29, 3), (114, .putfield 52, 3), (117, .aload_n 0, 1), (118, .iconst 1, 1), (119, .iconst 0, 1), (120, .invokevirtual 55, 3), (123, .aload_n 0, 1), (124, .bipush 59, 2), (126, .invokevirtual 48, 3), (129, .aload_n 0, 1), (130, .iconst 0, 1), (131, .invokevirtual 48, 3), (134, .return_, 1)]
set_option maxRecDepth 20000 in
theorem xD_61 : ∀ e ∈ xE_61, decode xm_61.2.1 e.1 = .ok e.2 := by decide +kernel
def xk_61 : xK := xmk xL_5 3 (none) false xE_61 xE_61
theorem xz_61 : xwf xsg xm_61 xk_61 := ⟨xmk_ok (M := xm_61) xLk_5 (fun h => by cases h) xE_61 xD_61, rfl, by decide⟩
/-! FeatherBench$Reader.readType()V -/
def xE_62 : xCd := [(0, .aload_n 0, 1), (1, .getfield 28, 3), (4, .aload_n 0, 1), (5, .getfield 29, 3), (8, .invokevirtual 36, 3), (11, .iconst 3, 1), (12, .if_icmp .ne 27, 3), (15, .aload_n 0, 1), (16, .getfield 9, 3), (19, .invokevirtual 59, 3), (22, .bipush 24, 2), (24, .if_icmp .lt 15, 3), (27, .aload_n 0, 1), (28, .getfield 9, 3), (31, .iconst 5, 1), (32, .aload_n 0, 1), (33, .getfield 29, 3), (36, .invokevirtual 63, 3), (39, .aload_n 0, 1), (40, .iconst 3, 1), (41, .invokevirtual 48, 3), (44, .aload_n 0, 1), (45, .getfield 9, 3), (48, .invokevirtual 66, 3), (51, .istore_n 1, 1), (52, .aload_n 0, 1), (53, .getfield 29, 3), (56, .istore_n 2, 1), (57, .aload_n 0, 1), (58, .iconst 1, 1), (59, .invokevirtual 48, 3), (62, .aload_n 0, 1), (63, .bipush 91, 2), (65, .invokevirtual 69, 3), (68, .ifCond .eq 14, 3), (71, .aload_n 0, 1), (72, .bipush 93, 2), (74, .iconst 0, 1), (75, .iconst (-1), 1), (76, .invokevirtual 73, 3), (79, .goto 4, 3), (82, .iconst 0, 1), (83, .istore_n 3, 1), (84, .aload_n 0, 1), (85, .iconst 4, 1), (86, .invokevirtual 69, 3), (89, .istore 4, 2), (91, .iload 4, 2), (93, .ifCond .ne 8, 3), (96, .aload_n 0, 1), (97, .iconst 5, 1), (98, .invokevirtual 48, 3), (101, .aload_n 0, 1), (102, .bipush 123, 2), (104, .invokevirtual 48, 3), (107, .iload 4, 2), (109, .ifCond .eq 13, 3), (112, .aload_n 0, 1), (113, .getfield 9, 3), (116, .invokevirtual 66, 3), (119, .goto 10, 3), (122, .aload_n 0, 1), (123, .getfield 9, 3), (126, .invokevirtual 77, 3), (129, .istore 5, 2), (131, .iconst 0, 1), (132, .istore 6, 2), (134, .iload 6, 2), (136, .bipush 6, 2), (138, .if_icmp .gt 98, 3), (141, .aload_n 0, 1), (142, .getfield 9, 3), (145, .getfield 33, 3), (148, .ifCond .ne 88, 3), (151, .aload_n 0, 1), (152, .getfield 28, 3), (155, .aload_n 0, 1), (156, .getfield 29, 3), (159, .invokevirtual 36, 3), (162, .bipush 125, 2), (164, .if_icmp .eq 72, 3), (167, .aload_n 0, 1), (168, .getfield 29, 3), (171, .istore 7, 2), (173, .aload_n 0, 1), (174, .iload 6, 2), (176, .bipush 6, 2), (178, .if_icmp .lt 7, 3), (181, .iconst 1, 1), (182, .goto 4, 3), (185, .iconst 0, 1), (186, .invokevirtual 80, 3), (189, .iload 4, 2), (191, .ifCond .eq 27, 3), (194, .aload_n 0, 1), (195, .getfield 9, 3), (198, .iload 7, 2), (200, .iconst 2, 1), (201, .aload_n 0, 1), (202, .getfield 29, 3), (205, .iconst (-1), 1), (206, .invokevirtual 84, 3), (209, .aload_n 0, 1), (210, .iconst 1, 1), (211, .iconst 0, 1), (212, .invokevirtual 88, 3), (215, .goto 9, 3), (218, .aload_n 0, 1), (219, .iload 7, 2), (221, .invokevirtual 91, 3), (224, .aload_n 0, 1), (225, .bipush 59, 2), (227, .invokevirtual 48, 3), (230, .iinc 6 1, 3), (233, .goto (-99), 3), (236, .aload_n 0, 1), (237, .bipush 125, 2), (239, .invokevirtual 48, 3), (242, .aload_n 0, 1), (243, .getfield 9, 3), (246, .iload_n 2, 1), (247, .iload 4, 2), (249, .ifCond .eq 7, 3), (252, .iconst 4, 1), (253, .goto 4, 3), (256, .iconst 5, 1), (257, .iload_n 1, 1), (258, .iload_n 3, 1), (259, .iload 5, 2), (261, .iload 6, 2), (263, .invokevirtual 94, 3), (266, .return_, 1)]
set_option maxRecDepth 20000 in
theorem xD_62 : ∀ e ∈ xE_62, decode xm_62.2.1 e.1 = .ok e.2 := by decide +kernel
def xk_62 : xK := xmk xL_5 8 (none) false xE_62 xE_62
theorem xz_62 : xwf xsg xm_62 xk_62 := ⟨xmk_ok (M := xm_62) xLk_5 (fun h => by cases h) xE_62 xD_62, rfl, by decide⟩
/-! FeatherBench$Reader.readFunc()V -/
def xE_63 : xCd := [(0, .aload_n 0, 1), (1, .getfield 9, 3), (4, .invokevirtual 98, 3), (7, .bipush 60, 2), (9, .if_icmp .lt 15, 3), (12, .aload_n 0, 1), (13, .getfield 9, 3), (16, .iconst 5, 1), (17, .aload_n 0, 1), (18, .getfield 29, 3), (21, .invokevirtual 63, 3), (24, .aload_n 0, 1), (25, .bipush 6, 2), (27, .invokevirtual 48, 3), (30, .aload_n 0, 1), (31, .bipush 40, 2), (33, .invokevirtual 48, 3), (36, .aload_n 0, 1), (37, .getfield 9, 3), (40, .invokevirtual 66, 3), (43, .istore_n 1, 1), (44, .aload_n 0, 1), (45, .getfield 9, 3), (48, .invokevirtual 77, 3), (51, .istore_n 2, 1), (52, .aload_n 0, 1), (53, .getfield 29, 3), (56, .istore_n 3, 1), (57, .aload_n 0, 1), (58, .iconst 1, 1), (59, .invokevirtual 48, 3), (62, .aload_n 0, 1), (63, .getfield 9, 3), (66, .iload_n 3, 1), (67, .iconst 3, 1), (68, .iconst (-1), 1), (69, .iload_n 2, 1), (70, .invokevirtual 84, 3), (73, .aload_n 0, 1), (74, .getfield 29, 3), (77, .istore 4, 2), (79, .aload_n 0, 1), (80, .iconst 1, 1), (81, .invokevirtual 48, 3), (84, .aload_n 0, 1), (85, .bipush 91, 2), (87, .invokevirtual 69, 3), (90, .ifCond .eq 11, 3), (93, .aload_n 0, 1), (94, .iload_n 2, 1), (95, .invokevirtual 101, 3), (98, .goto 4, 3), (101, .iconst 0, 1), (102, .istore 5, 2), (104, .aload_n 0, 1), (105, .bipush 41, 2), (107, .invokevirtual 48, 3), (110, .aload_n 0, 1), (111, .getfield 29, 3), (114, .istore 6, 2), (116, .aload_n 0, 1), (117, .iconst 1, 1), (118, .invokevirtual 48, 3), (121, .aload_n 0, 1), (122, .iload 6, 2), (124, .invokevirtual 91, 3), (127, .aload_n 0, 1), (128, .bipush 123, 2), (130, .invokevirtual 48, 3), (133, .aload_n 0, 1), (134, .bipush 7, 2), (136, .invokevirtual 48, 3), (139, .aload_n 0, 1), (140, .getfield 29, 3), (143, .istore 7, 2), (145, .aload_n 0, 1), (146, .iconst 1, 1), (147, .iconst 0, 1), (148, .invokevirtual 55, 3), (151, .aload_n 0, 1), (152, .bipush 125, 2), (154, .invokevirtual 48, 3), (157, .aload_n 0, 1), (158, .getfield 9, 3), (161, .iload 4, 2), (163, .iload_n 3, 1), (164, .iload_n 1, 1), (165, .iload 5, 2), (167, .iload_n 2, 1), (168, .iload 7, 2), (170, .invokevirtual 104, 3), (173, .return_, 1)]
set_option maxRecDepth 20000 in
theorem xD_63 : ∀ e ∈ xE_63, decode xm_63.2.1 e.1 = .ok e.2 := by decide +kernel
def xk_63 : xK := xmk xL_5 8 (none) false xE_63 xE_63
theorem xz_63 : xwf xsg xm_63 xk_63 := ⟨xmk_ok (M := xm_63) xLk_5 (fun h => by cases h) xE_63 xD_63, rfl, by decide⟩
/-! FeatherBench$Reader.readParams(I)I -/
def xE_64 : xCd := [(0, .iconst 0, 1), (1, .istore_n 2, 1), (2, .aload_n 0, 1), (3, .getfield 9, 3), (6, .aload_n 0, 1), (7, .getfield 29, 3), (10, .iconst 1, 1), (11, .iconst (-1), 1), (12, .iload_n 1, 1), (13, .invokevirtual 84, 3), (16, .aload_n 0, 1), (17, .iload_n 2, 1), (18, .bipush 6, 2), (20, .if_icmp .lt 7, 3), (23, .iconst 1, 1), (24, .goto 4, 3), (27, .iconst 0, 1), (28, .invokevirtual 80, 3), (31, .iinc 2 1, 3), (34, .iload_n 2, 1), (35, .bipush 6, 2), (37, .if_icmp .gt 12, 3), (40, .aload_n 0, 1), (41, .bipush 44, 2), (43, .invokevirtual 69, 3), (46, .ifCond .ne (-44), 3), (49, .aload_n 0, 1), (50, .bipush 93, 2), (52, .invokevirtual 48, 3), (55, .iload_n 2, 1), (56, .ireturn, 1)]
set_option maxRecDepth 20000 in
theorem xD_64 : ∀ e ∈ xE_64, decode xm_64.2.1 e.1 = .ok e.2 := by decide +kernel
def xk_64 : xK := xmk xL_5 3 (some .int) false xE_64 xE_64
theorem xz_64 : xwf xsg xm_64 xk_64 := ⟨xmk_ok (M := xm_64) xLk_5 (fun h => by cases h) xE_64 xD_64, rfl, by decide⟩
/-! FeatherBench$Reader.readNamed(III)I -/
def xE_65 : xCd := [(0, .iconst 0, 1), (1, .istore 4, 2), (3, .aload_n 0, 1), (4, .getfield 29, 3), (7, .istore 5, 2), (9, .aload_n 0, 1), (10, .iload 4, 2), (12, .bipush 6, 2), (14, .if_icmp .lt 7, 3), (17, .iconst 1, 1), (18, .goto 4, 3), (21, .iconst 0, 1), (22, .invokevirtual 80, 3), (25, .aload_n 0, 1), (26, .getfield 9, 3), (29, .iload 5, 2), (31, .iload_n 2, 1), (32, .aload_n 0, 1), (33, .getfield 29, 3), (36, .iload_n 3, 1), (37, .invokevirtual 84, 3), (40, .aload_n 0, 1), (41, .iconst 1, 1), (42, .iconst 0, 1), (43, .invokevirtual 88, 3), (46, .iinc 4 1, 3), (49, .iload 4, 2), (51, .bipush 6, 2), (53, .if_icmp .gt 12, 3), (56, .aload_n 0, 1), (57, .bipush 44, 2), (59, .invokevirtual 69, 3), (62, .ifCond .ne (-59), 3), (65, .aload_n 0, 1), (66, .iload_n 1, 1), (67, .invokevirtual 48, 3), (70, .iload 4, 2), (72, .ireturn, 1)]
set_option maxRecDepth 20000 in
theorem xD_65 : ∀ e ∈ xE_65, decode xm_65.2.1 e.1 = .ok e.2 := by decide +kernel
def xk_65 : xK := xmk xL_5 6 (some .int) false xE_65 xE_65
theorem xz_65 : xwf xsg xm_65 xk_65 := ⟨xmk_ok (M := xm_65) xLk_5 (fun h => by cases h) xE_65 xD_65, rfl, by decide⟩
/-! FeatherBench$Reader.readHead(I)V -/
def xE_66 : xCd := [(0, .aload_n 0, 1), (1, .getfield 9, 3), (4, .invokevirtual 77, 3), (7, .istore_n 2, 1), (8, .aload_n 0, 1), (9, .getfield 9, 3), (12, .invokevirtual 66, 3), (15, .istore_n 3, 1), (16, .aload_n 0, 1), (17, .bipush 91, 2), (19, .invokevirtual 69, 3), (22, .ifCond .eq 14, 3), (25, .aload_n 0, 1), (26, .bipush 93, 2), (28, .iconst 0, 1), (29, .iload_n 2, 1), (30, .invokevirtual 73, 3), (33, .goto 4, 3), (36, .iconst 0, 1), (37, .istore 4, 2), (39, .aload_n 0, 1), (40, .bipush 40, 2), (42, .invokevirtual 48, 3), (45, .aload_n 0, 1), (46, .bipush 41, 2), (48, .invokevirtual 69, 3), (51, .ifCond .eq 7, 3), (54, .iconst 0, 1), (55, .goto 11, 3), (58, .aload_n 0, 1), (59, .bipush 41, 2), (61, .iconst 3, 1), (62, .iload_n 2, 1), (63, .invokevirtual 73, 3), (66, .istore 5, 2), (68, .aload_n 0, 1), (69, .getfield 9, 3), (72, .iconst (-1), 1), (73, .iconst 4, 1), (74, .aload_n 0, 1), (75, .getfield 29, 3), (78, .iload_n 2, 1), (79, .invokevirtual 84, 3), (82, .aload_n 0, 1), (83, .iconst 1, 1), (84, .iconst 0, 1), (85, .invokevirtual 88, 3), (88, .aload_n 0, 1), (89, .getfield 9, 3), (92, .iload_n 1, 1), (93, .iload_n 3, 1), (94, .iload 4, 2), (96, .iload 5, 2), (98, .invokevirtual 107, 3), (101, .return_, 1)]
set_option maxRecDepth 20000 in
theorem xD_66 : ∀ e ∈ xE_66, decode xm_66.2.1 e.1 = .ok e.2 := by decide +kernel
def xk_66 : xK := xmk xL_5 6 (none) false xE_66 xE_66
theorem xz_66 : xwf xsg xm_66 xk_66 := ⟨xmk_ok (M := xm_66) xLk_5 (fun h => by cases h) xE_66 xD_66, rfl, by decide⟩
/-! FeatherBench$Reader.passType(II)V -/
def xE_67 : xCd := [(0, .aload_n 0, 1), (1, .iload_n 1, 1), (2, .bipush 10, 2), (4, .if_icmp .gt 9, 3), (7, .iload_n 2, 1), (8, .bipush 6, 2), (10, .if_icmp .lt 7, 3), (13, .iconst 1, 1), (14, .goto 4, 3), (17, .iconst 0, 1), (18, .invokevirtual 80, 3), (21, .aload_n 0, 1), (22, .getfield 9, 3), (25, .getfield 33, 3), (28, .ifCond .ne 24, 3), (31, .aload_n 0, 1), (32, .getfield 28, 3), (35, .aload_n 0, 1), (36, .getfield 29, 3), (39, .invokevirtual 36, 3), (42, .bipush 91, 2), (44, .if_icmp .ne 8, 3), (47, .aload_n 0, 1), (48, .iload_n 1, 1), (49, .invokevirtual 110, 3), (52, .return_, 1)]
set_option maxRecDepth 20000 in
theorem xD_67 : ∀ e ∈ xE_67, decode xm_67.2.1 e.1 = .ok e.2 := by decide +kernel
def xk_67 : xK := xmk xL_5 3 (none) false xE_67 xE_67
theorem xz_67 : xwf xsg xm_67 xk_67 := ⟨xmk_ok (M := xm_67) xLk_5 (fun h => by cases h) xE_67 xD_67, rfl, by decide⟩
/-! FeatherBench$Reader.passTypes(I)V -/
def xE_68 : xCd := [(0, .aload_n 0, 1), (1, .getfield 29, 3), (4, .istore_n 2, 1), (5, .aload_n 0, 1), (6, .bipush 91, 2), (8, .invokevirtual 48, 3), (11, .iconst 0, 1), (12, .istore_n 3, 1), (13, .aload_n 0, 1), (14, .iload_n 1, 1), (15, .iconst 1, 1), (16, .iadd, 1), (17, .iload_n 3, 1), (18, .invokevirtual 88, 3), (21, .iinc 3 1, 3), (24, .iload_n 3, 1), (25, .bipush 6, 2), (27, .if_icmp .gt 12, 3), (30, .aload_n 0, 1), (31, .bipush 44, 2), (33, .invokevirtual 69, 3), (36, .ifCond .ne (-23), 3), (39, .aload_n 0, 1), (40, .bipush 93, 2), (42, .invokevirtual 48, 3), (45, .aload_n 0, 1), (46, .getfield 21, 3), (49, .getfield 113, 3), (52, .iload_n 2, 1), (53, .iload_n 3, 1), (54, .invokevirtual 116, 3), (57, .return_, 1)]
set_option maxRecDepth 20000 in
theorem xD_68 : ∀ e ∈ xE_68, decode xm_68.2.1 e.1 = .ok e.2 := by decide +kernel
def xk_68 : xK := xmk xL_5 4 (none) false xE_68 xE_68
theorem xz_68 : xwf xsg xm_68 xk_68 := ⟨xmk_ok (M := xm_68) xLk_5 (fun h => by cases h) xE_68 xD_68, rfl, by decide⟩
/-! FeatherBench$Reader.passValue(II)V -/
def xE_69 : xCd := [(0, .aload_n 0, 1), (1, .getfield 29, 3), (4, .istore_n 3, 1), (5, .aload_n 0, 1), (6, .iload_n 1, 1), (7, .bipush 10, 2), (9, .if_icmp .gt 9, 3), (12, .iload_n 2, 1), (13, .bipush 6, 2), (15, .if_icmp .lt 7, 3), (18, .iconst 1, 1), (19, .goto 4, 3), (22, .iconst 0, 1), (23, .invokevirtual 80, 3), (26, .aload_n 0, 1), (27, .getfield 9, 3), (30, .getfield 33, 3), (33, .ifCond .ne 61, 3), (36, .aload_n 0, 1), (37, .getfield 28, 3), (40, .aload_n 0, 1), (41, .getfield 29, 3), (44, .invokevirtual 36, 3), (47, .bipush 123, 2), (49, .if_icmp .eq 19, 3), (52, .aload_n 0, 1), (53, .getfield 28, 3), (56, .aload_n 0, 1), (57, .getfield 29, 3), (60, .invokevirtual 36, 3), (63, .bipush 91, 2), (65, .if_icmp .ne 29, 3), (68, .aload_n 0, 1), (69, .iload_n 3, 1), (70, .putfield 29, 3), (73, .aload_n 0, 1), (74, .iload_n 1, 1), (75, .iconst 1, 1), (76, .iadd, 1), (77, .iconst 0, 1), (78, .invokevirtual 88, 3), (81, .aload_n 0, 1), (82, .bipush 123, 2), (84, .bipush 125, 2), (86, .aload_n 0, 1), (87, .getfield 29, 3), (90, .iload_n 1, 1), (91, .invokevirtual 119, 3), (94, .iconst 0, 1), (95, .istore 4, 2), (97, .iload 4, 2), (99, .bipush 20, 2), (101, .if_icmp .gt 62, 3), (104, .aload_n 0, 1), (105, .getfield 9, 3), (108, .getfield 33, 3), (111, .ifCond .ne 52, 3), (114, .aload_n 0, 1), (115, .getfield 28, 3), (118, .aload_n 0, 1), (119, .getfield 29, 3), (122, .invokevirtual 36, 3), (125, .bipush 46, 2), (127, .if_icmp .ne 36, 3), (130, .iload 4, 2), (132, .bipush 20, 2), (134, .if_icmp .ne 18, 3), (137, .aload_n 0, 1), (138, .getfield 9, 3), (141, .iconst 5, 1), (142, .aload_n 0, 1), (143, .getfield 29, 3), (146, .invokevirtual 63, 3), (149, .goto 8, 3), (152, .aload_n 0, 1), (153, .iload_n 1, 1), (154, .invokevirtual 122, 3), (157, .iinc 4 1, 3), (160, .goto (-63), 3), (163, .return_, 1)]
set_option maxRecDepth 20000 in
theorem xD_69 : ∀ e ∈ xE_69, decode xm_69.2.1 e.1 = .ok e.2 := by decide +kernel
def xk_69 : xK := xmk xL_5 5 (none) false xE_69 xE_69
theorem xz_69 : xwf xsg xm_69 xk_69 := ⟨xmk_ok (M := xm_69) xLk_5 (fun h => by cases h) xE_69 xD_69, rfl, by decide⟩
/-! FeatherBench$Reader.passPoint(I)V -/
def xE_70 : xCd := [(0, .aload_n 0, 1), (1, .bipush 46, 2), (3, .invokevirtual 48, 3), (6, .aload_n 0, 1), (7, .bipush 40, 2), (9, .invokevirtual 69, 3), (12, .ifCond .eq 18, 3), (15, .aload_n 0, 1), (16, .iload_n 1, 1), (17, .iconst 1, 1), (18, .iadd, 1), (19, .iconst 0, 1), (20, .invokevirtual 88, 3), (23, .aload_n 0, 1), (24, .bipush 41, 2), (26, .invokevirtual 48, 3), (29, .return_, 1), (30, .aload_n 0, 1), (31, .getfield 29, 3), (34, .istore_n 2, 1), (35, .aload_n 0, 1), (36, .iconst 1, 1), (37, .invokevirtual 48, 3), (40, .aload_n 0, 1), (41, .getfield 9, 3), (44, .getfield 33, 3), (47, .ifCond .ne 23, 3), (50, .aload_n 0, 1), (51, .getfield 28, 3), (54, .aload_n 0, 1), (55, .getfield 29, 3), (58, .invokevirtual 36, 3), (61, .bipush 91, 2), (63, .if_icmp .ne 7, 3), (66, .iconst 1, 1), (67, .goto 4, 3), (70, .iconst 0, 1), (71, .istore_n 3, 1), (72, .iload_n 3, 1), (73, .ifCond .eq 8, 3), (76, .aload_n 0, 1), (77, .iload_n 1, 1), (78, .invokevirtual 110, 3), (81, .iload_n 3, 1), (82, .ifCond .ne 19, 3), (85, .aload_n 0, 1), (86, .getfield 28, 3), (89, .aload_n 0, 1), (90, .getfield 29, 3), (93, .invokevirtual 36, 3), (96, .bipush 40, 2), (98, .if_icmp .ne 13, 3), (101, .aload_n 0, 1), (102, .bipush 40, 2), (104, .bipush 41, 2), (106, .iload_n 2, 1), (107, .iload_n 1, 1), (108, .invokevirtual 119, 3), (111, .return_, 1)]
set_option maxRecDepth 20000 in
theorem xD_70 : ∀ e ∈ xE_70, decode xm_70.2.1 e.1 = .ok e.2 := by decide +kernel
def xk_70 : xK := xmk xL_5 4 (none) false xE_70 xE_70
theorem xz_70 : xwf xsg xm_70 xk_70 := ⟨xmk_ok (M := xm_70) xLk_5 (fun h => by cases h) xE_70 xD_70, rfl, by decide⟩
/-! FeatherBench$Reader.passValues(IIII)V -/
def xE_71 : xCd := [(0, .aload_n 0, 1), (1, .iload_n 1, 1), (2, .invokevirtual 48, 3), (5, .iconst 0, 1), (6, .istore 5, 2), (8, .aload_n 0, 1), (9, .getfield 9, 3), (12, .getfield 33, 3), (15, .ifCond .ne 47, 3), (18, .aload_n 0, 1), (19, .getfield 28, 3), (22, .aload_n 0, 1), (23, .getfield 29, 3), (26, .invokevirtual 36, 3), (29, .iload_n 2, 1), (30, .if_icmp .eq 32, 3), (33, .aload_n 0, 1), (34, .iload 4, 2), (36, .iconst 1, 1), (37, .iadd, 1), (38, .iload 5, 2), (40, .invokevirtual 55, 3), (43, .iinc 5 1, 3), (46, .iload 5, 2), (48, .bipush 6, 2), (50, .if_icmp .gt 12, 3), (53, .aload_n 0, 1), (54, .bipush 44, 2), (56, .invokevirtual 69, 3), (59, .ifCond .ne (-26), 3), (62, .aload_n 0, 1), (63, .iload_n 2, 1), (64, .invokevirtual 48, 3), (67, .aload_n 0, 1), (68, .getfield 21, 3), (71, .getfield 113, 3), (74, .iload_n 3, 1), (75, .iload 5, 2), (77, .invokevirtual 116, 3), (80, .return_, 1)]
set_option maxRecDepth 20000 in
theorem xD_71 : ∀ e ∈ xE_71, decode xm_71.2.1 e.1 = .ok e.2 := by decide +kernel
def xk_71 : xK := xmk xL_5 6 (none) false xE_71 xE_71
theorem xz_71 : xwf xsg xm_71 xk_71 := ⟨xmk_ok (M := xm_71) xLk_5 (fun h => by cases h) xE_71 xD_71, rfl, by decide⟩
/-! FeatherBench$Reader.took(I)Z -/
def xE_72 : xCd := [(0, .aload_n 0, 1), (1, .getfield 9, 3), (4, .getfield 33, 3), (7, .ifCond .ne 22, 3), (10, .aload_n 0, 1), (11, .getfield 28, 3), (14, .aload_n 0, 1), (15, .getfield 29, 3), (18, .invokevirtual 36, 3), (21, .iload_n 1, 1), (22, .if_icmp .ne 7, 3), (25, .iconst 1, 1), (26, .goto 4, 3), (29, .iconst 0, 1), (30, .istore_n 2, 1), (31, .iload_n 2, 1), (32, .ifCond .eq 13, 3), (35, .aload_n 0, 1), (36, .dup, 1), (37, .getfield 29, 3), (40, .iconst 1, 1), (41, .iadd, 1), (42, .putfield 29, 3), (45, .iload_n 2, 1), (46, .ireturn, 1)]
set_option maxRecDepth 20000 in
theorem xD_72 : ∀ e ∈ xE_72, decode xm_72.2.1 e.1 = .ok e.2 := by decide +kernel
def xk_72 : xK := xmk xL_5 3 (some .boolean) false xE_72 xE_72
theorem xz_72 : xwf xsg xm_72 xk_72 := ⟨xmk_ok (M := xm_72) xLk_5 (fun h => by cases h) xE_72 xD_72, rfl, by decide⟩
/-! FeatherBench$Reader.expect(I)V -/
def xE_73 : xCd := [(0, .aload_n 0, 1), (1, .getfield 9, 3), (4, .getfield 33, 3), (7, .ifCond .ne 44, 3), (10, .aload_n 0, 1), (11, .getfield 28, 3), (14, .aload_n 0, 1), (15, .getfield 29, 3), (18, .invokevirtual 36, 3), (21, .iload_n 1, 1), (22, .if_icmp .eq 29, 3), (25, .aload_n 0, 1), (26, .getfield 9, 3), (29, .iconst 1, 1), (30, .bipush 16, 2), (32, .aload_n 0, 1), (33, .getfield 21, 3), (36, .getfield 125, 3), (39, .aload_n 0, 1), (40, .getfield 29, 3), (43, .invokevirtual 36, 3), (46, .imul, 1), (47, .iadd, 1), (48, .putfield 33, 3), (51, .aload_n 0, 1), (52, .getfield 9, 3), (55, .getfield 33, 3), (58, .ifCond .ne 13, 3), (61, .aload_n 0, 1), (62, .dup, 1), (63, .getfield 29, 3), (66, .iconst 1, 1), (67, .iadd, 1), (68, .putfield 29, 3), (71, .return_, 1)]
set_option maxRecDepth 20000 in
theorem xD_73 : ∀ e ∈ xE_73, decode xm_73.2.1 e.1 = .ok e.2 := by decide +kernel
def xk_73 : xK := xmk xL_5 2 (none) false xE_73 xE_73
theorem xz_73 : xwf xsg xm_73 xk_73 := ⟨xmk_ok (M := xm_73) xLk_5 (fun h => by cases h) xE_73 xD_73, rfl, by decide⟩
/-! FeatherBench$Reader.expectFirst(Z)V -/
def xE_74 : xCd := [(0, .aload_n 0, 1), (1, .getfield 9, 3), (4, .getfield 33, 3), (7, .ifCond .ne 48, 3), (10, .iload_n 1, 1), (11, .ifCond .eq 44, 3), (14, .aload_n 0, 1), (15, .getfield 28, 3), (18, .aload_n 0, 1), (19, .getfield 29, 3), (22, .invokevirtual 36, 3), (25, .iconst 1, 1), (26, .if_icmp .ne 29, 3), (29, .aload_n 0, 1), (30, .getfield 9, 3), (33, .iconst 5, 1), (34, .bipush 16, 2), (36, .aload_n 0, 1), (37, .getfield 21, 3), (40, .getfield 125, 3), (43, .aload_n 0, 1), (44, .getfield 29, 3), (47, .invokevirtual 36, 3), (50, .imul, 1), (51, .iadd, 1), (52, .putfield 33, 3), (55, .aload_n 0, 1), (56, .getfield 9, 3), (59, .getfield 33, 3), (62, .ifCond .ne 44, 3), (65, .aload_n 0, 1), (66, .getfield 28, 3), (69, .aload_n 0, 1), (70, .getfield 29, 3), (73, .invokevirtual 36, 3), (76, .iconst 1, 1), (77, .if_icmp .eq 29, 3), (80, .aload_n 0, 1), (81, .getfield 9, 3), (84, .iconst 1, 1), (85, .bipush 16, 2), (87, .aload_n 0, 1), (88, .getfield 21, 3), (91, .getfield 125, 3), (94, .aload_n 0, 1), (95, .getfield 29, 3), (98, .invokevirtual 36, 3), (101, .imul, 1), (102, .iadd, 1), (103, .putfield 33, 3), (106, .aload_n 0, 1), (107, .getfield 9, 3), (110, .getfield 33, 3), (113, .ifCond .ne 13, 3), (116, .aload_n 0, 1), (117, .dup, 1), (118, .getfield 29, 3), (121, .iconst 1, 1), (122, .iadd, 1), (123, .putfield 29, 3), (126, .return_, 1)]
set_option maxRecDepth 20000 in
theorem xD_74 : ∀ e ∈ xE_74, decode xm_74.2.1 e.1 = .ok e.2 := by decide +kernel
def xk_74 : xK := xmk xL_5 2 (none) false xE_74 xE_74
theorem xz_74 : xwf xsg xm_74 xk_74 := ⟨xmk_ok (M := xm_74) xLk_5 (fun h => by cases h) xE_74 xD_74, rfl, by decide⟩
/-! FeatherBench$Row.<init>(II)V -/
def xE_75 : xCd := [(0, .aload_n 0, 1), (1, .invokespecial 1, 3), (4, .aload_n 0, 1), (5, .iload_n 2, 1), (6, .iconst 1, 1), (7, .invokestatic 7, 3), (10, .putfield 13, 3), (13, .aload_n 0, 1), (14, .iload_n 1, 1), (15, .iconst 1, 1), (16, .invokestatic 7, 3), (19, .aload_n 0, 1), (20, .getfield 13, 3), (23, .invokestatic 19, 3), (26, .newarray .int, 2), (28, .putfield 22, 3), (31, .return_, 1)]
set_option maxRecDepth 20000 in
theorem xD_75 : ∀ e ∈ xE_75, decode xm_75.2.1 e.1 = .ok e.2 := by decide +kernel
def xk_75 : xK := xmk xL_6 3 (none) true xE_75 xE_75
theorem xz_75 : xwf xsg xm_75 xk_75 := ⟨xmk_ok (M := xm_75) xLk_6 (fun _ => rfl) xE_75 xD_75, rfl, by decide⟩
/-! FeatherBench$Row.get(I)I -/
def xE_76 : xCd := [(0, .iload_n 1, 1), (1, .ifCond .lt 21, 3), (4, .iload_n 1, 1), (5, .aload_n 0, 1), (6, .getfield 22, 3), (9, .arraylength, 1), (10, .if_icmp .ge 12, 3), (13, .aload_n 0, 1), (14, .getfield 22, 3), (17, .iload_n 1, 1), (18, .iaload, 1), (19, .goto 4, 3), (22, .iconst 0, 1), (23, .ireturn, 1)]
set_option maxRecDepth 20000 in
theorem xD_76 : ∀ e ∈ xE_76, decode xm_76.2.1 e.1 = .ok e.2 := by decide +kernel
def xk_76 : xK := xmk xL_6 2 (some .int) false xE_76 xE_76
theorem xz_76 : xwf xsg xm_76 xk_76 := ⟨xmk_ok (M := xm_76) xLk_6 (fun h => by cases h) xE_76 xD_76, rfl, by decide⟩
/-! FeatherBench$Row.set(II)V -/
def xE_77 : xCd := [(0, .iload_n 1, 1), (1, .ifCond .lt 11, 3), (4, .iload_n 1, 1), (5, .aload_n 0, 1), (6, .getfield 13, 3), (9, .if_icmp .lt 4, 3), (12, .return_, 1), (13, .iload_n 1, 1), (14, .aload_n 0, 1), (15, .getfield 22, 3), (18, .arraylength, 1), (19, .if_icmp .lt 34, 3), (22, .aload_n 0, 1), (23, .aload_n 0, 1), (24, .getfield 22, 3), (27, .aload_n 0, 1), (28, .getfield 13, 3), (31, .iload_n 1, 1), (32, .iconst 1, 1), (33, .iadd, 1), (34, .iconst 2, 1), (35, .aload_n 0, 1), (36, .getfield 22, 3), (39, .arraylength, 1), (40, .imul, 1), (41, .invokestatic 7, 3), (44, .invokestatic 19, 3), (47, .invokestatic 26, 3), (50, .putfield 22, 3), (53, .aload_n 0, 1), (54, .getfield 22, 3), (57, .iload_n 1, 1), (58, .iload_n 2, 1), (59, .iastore, 1), (60, .return_, 1)]
set_option maxRecDepth 20000 in
theorem xD_77 : ∀ e ∈ xE_77, decode xm_77.2.1 e.1 = .ok e.2 := by decide +kernel
def xk_77 : xK := xmk xL_6 3 (none) false xE_77 xE_77
theorem xz_77 : xwf xsg xm_77 xk_77 := ⟨xmk_ok (M := xm_77) xLk_6 (fun h => by cases h) xE_77 xD_77, rfl, by decide⟩
/-! FeatherBench$Row.add(I)V -/
def xE_78 : xCd := [(0, .aload_n 0, 1), (1, .getfield 32, 3), (4, .aload_n 0, 1), (5, .getfield 13, 3), (8, .if_icmp .ge 22, 3), (11, .aload_n 0, 1), (12, .aload_n 0, 1), (13, .getfield 32, 3), (16, .iload_n 1, 1), (17, .invokevirtual 35, 3), (20, .aload_n 0, 1), (21, .dup, 1), (22, .getfield 32, 3), (25, .iconst 1, 1), (26, .iadd, 1), (27, .putfield 32, 3), (30, .return_, 1)]
set_option maxRecDepth 20000 in
theorem xD_78 : ∀ e ∈ xE_78, decode xm_78.2.1 e.1 = .ok e.2 := by decide +kernel
def xk_78 : xK := xmk xL_6 2 (none) false xE_78 xE_78
theorem xz_78 : xwf xsg xm_78 xk_78 := ⟨xmk_ok (M := xm_78) xLk_6 (fun h => by cases h) xE_78 xD_78, rfl, by decide⟩
/-! FeatherBench$Row.clear()V -/
def xE_79 : xCd := [(0, .aload_n 0, 1), (1, .iconst 0, 1), (2, .putfield 32, 3), (5, .return_, 1)]
set_option maxRecDepth 20000 in
theorem xD_79 : ∀ e ∈ xE_79, decode xm_79.2.1 e.1 = .ok e.2 := by decide +kernel
def xk_79 : xK := xmk xL_6 1 (none) false xE_79 xE_79
theorem xz_79 : xwf xsg xm_79 xk_79 := ⟨xmk_ok (M := xm_79) xLk_6 (fun h => by cases h) xE_79 xD_79, rfl, by decide⟩
/-! FeatherBench$Shapes.<init>(LFeatherBench$Program;)V -/
def xE_80 : xCd := [(0, .aload_n 0, 1), (1, .invokespecial 3, 3), (4, .aload_n 0, 1), (5, .new 9, 3), (8, .dup, 1), (9, .bipush 24, 2), (11, .bipush 24, 2), (13, .invokespecial 11, 3), (16, .putfield 14, 3), (19, .aload_n 0, 1), (20, .new 9, 3), (23, .dup, 1), (24, .bipush 24, 2), (26, .bipush 24, 2), (28, .invokespecial 11, 3), (31, .putfield 20, 3), (34, .aload_n 0, 1), (35, .new 9, 3), (38, .dup, 1), (39, .bipush 24, 2), (41, .bipush 24, 2), (43, .invokespecial 11, 3), (46, .putfield 23, 3), (49, .aload_n 0, 1), (50, .aload_n 1, 1), (51, .putfield 26, 3), (54, .aload_n 0, 1), (55, .aload_n 1, 1), (56, .getfield 30, 3), (59, .putfield 35, 3), (62, .aload_n 0, 1), (63, .aload_n 1, 1), (64, .getfield 36, 3), (67, .putfield 39, 3), (70, .return_, 1)]
set_option maxRecDepth 20000 in
theorem xD_80 : ∀ e ∈ xE_80, decode xm_80.2.1 e.1 = .ok e.2 := by decide +kernel
def xk_80 : xK := xmk xL_7 2 (none) true xE_80 xE_80
theorem xz_80 : xwf xsg xm_80 xk_80 := ⟨xmk_ok (M := xm_80) xLk_7 (fun _ => rfl) xE_80 xD_80, rfl, by decide⟩
/-! FeatherBench$Shapes.use(LFeatherBench$Program;I)V -/
def xE_81 : xCd := [(0, .aload_n 0, 1), (1, .aload_n 1, 1), (2, .putfield 26, 3), (5, .aload_n 0, 1), (6, .aload_n 0, 1), (7, .getfield 26, 3), (10, .getfield 30, 3), (13, .putfield 35, 3), (16, .aload_n 0, 1), (17, .aload_n 0, 1), (18, .getfield 26, 3), (21, .getfield 36, 3), (24, .putfield 39, 3), (27, .aload_n 0, 1), (28, .iload_n 2, 1), (29, .putfield 40, 3), (32, .aload_n 0, 1), (33, .iconst (-1), 1), (34, .iconst (-1), 1), (35, .iconst (-1), 1), (36, .invokevirtual 44, 3), (39, .return_, 1)]
set_option maxRecDepth 20000 in
theorem xD_81 : ∀ e ∈ xE_81, decode xm_81.2.1 e.1 = .ok e.2 := by decide +kernel
def xk_81 : xK := xmk xL_7 3 (none) false xE_81 xE_81
theorem xz_81 : xwf xsg xm_81 xk_81 := ⟨xmk_ok (M := xm_81) xLk_7 (fun h => by cases h) xE_81 xD_81, rfl, by decide⟩
/-! FeatherBench$Shapes.enter(III)V -/
def xE_82 : xCd := [(0, .aload_n 0, 1), (1, .iload_n 1, 1), (2, .putfield 48, 3), (5, .aload_n 0, 1), (6, .iload_n 2, 1), (7, .putfield 51, 3), (10, .aload_n 0, 1), (11, .iload_n 3, 1), (12, .putfield 54, 3), (15, .return_, 1)]
set_option maxRecDepth 20000 in
theorem xD_82 : ∀ e ∈ xE_82, decode xm_82.2.1 e.1 = .ok e.2 := by decide +kernel
def xk_82 : xK := xmk xL_7 4 (none) false xE_82 xE_82
theorem xz_82 : xwf xsg xm_82 xk_82 := ⟨xmk_ok (M := xm_82) xLk_7 (fun h => by cases h) xE_82 xD_82, rfl, by decide⟩
/-! FeatherBench$Shapes.end(I)I -/
def xE_83 : xCd := [(0, .iload_n 1, 1), (1, .istore_n 2, 1), (2, .iconst 1, 1), (3, .istore_n 3, 1), (4, .iconst 0, 1), (5, .istore 4, 2), (7, .iload 4, 2), (9, .sipush 4000, 3), (12, .if_icmp .ge 36, 3), (15, .iload_n 3, 1), (16, .ifCond .le 32, 3), (19, .iload_n 3, 1), (20, .aload_n 0, 1), (21, .getfield 39, 3), (24, .aload_n 0, 1), (25, .getfield 35, 3), (28, .iload_n 2, 1), (29, .invokevirtual 57, 3), (32, .invokevirtual 57, 3), (35, .iconst 1, 1), (36, .isub, 1), (37, .iadd, 1), (38, .istore_n 3, 1), (39, .iinc 2 1, 3), (42, .iinc 4 1, 3), (45, .goto (-38), 3), (48, .iload_n 2, 1), (49, .ireturn, 1)]
set_option maxRecDepth 20000 in
theorem xD_83 : ∀ e ∈ xE_83, decode xm_83.2.1 e.1 = .ok e.2 := by decide +kernel
def xk_83 : xK := xmk xL_7 5 (some .int) false xE_83 xE_83
theorem xz_83 : xwf xsg xm_83 xk_83 := ⟨xmk_ok (M := xm_83) xLk_7 (fun h => by cases h) xE_83 xD_83, rfl, by decide⟩
/-! FeatherBench$Shapes.same(II)Z -/
def xE_84 : xCd := [(0, .iconst 1, 1), (1, .istore_n 3, 1), (2, .iconst 0, 1), (3, .istore 4, 2), (5, .iload 4, 2), (7, .bipush 60, 2), (9, .if_icmp .ge 58, 3), (12, .iload_n 3, 1), (13, .ifCond .le 54, 3), (16, .aload_n 0, 1), (17, .getfield 35, 3), (20, .iload_n 1, 1), (21, .iload 4, 2), (23, .iadd, 1), (24, .invokevirtual 57, 3), (27, .istore 5, 2), (29, .iload 5, 2), (31, .aload_n 0, 1), (32, .getfield 35, 3), (35, .iload_n 2, 1), (36, .iload 4, 2), (38, .iadd, 1), (39, .invokevirtual 57, 3), (42, .if_icmp .eq 5, 3), (45, .iconst 0, 1), (46, .ireturn, 1), (47, .iload_n 3, 1), (48, .aload_n 0, 1), (49, .getfield 39, 3), (52, .iload 5, 2), (54, .invokevirtual 57, 3), (57, .iconst 1, 1), (58, .isub, 1), (59, .iadd, 1), (60, .istore_n 3, 1), (61, .iinc 4 1, 3), (64, .goto (-59), 3), (67, .iconst 1, 1), (68, .ireturn, 1)]
set_option maxRecDepth 20000 in
theorem xD_84 : ∀ e ∈ xE_84, decode xm_84.2.1 e.1 = .ok e.2 := by decide +kernel
def xk_84 : xK := xmk xL_7 6 (some .boolean) false xE_84 xE_84
theorem xz_84 : xwf xsg xm_84 xk_84 := ⟨xmk_ok (M := xm_84) xLk_7 (fun h => by cases h) xE_84 xD_84, rfl, by decide⟩
/-! FeatherBench$Shapes.bind(LFeatherBench$Row;II)V -/
def xE_85 : xCd := [(0, .aload_n 1, 1), (1, .iload_n 2, 1), (2, .iload_n 3, 1), (3, .invokevirtual 61, 3), (6, .aload_n 1, 1), (7, .bipush 12, 2), (9, .iload_n 2, 1), (10, .iadd, 1), (11, .aload_n 0, 1), (12, .iload_n 3, 1), (13, .invokevirtual 64, 3), (16, .invokevirtual 61, 3), (19, .return_, 1)]
set_option maxRecDepth 20000 in
theorem xD_85 : ∀ e ∈ xE_85, decode xm_85.2.1 e.1 = .ok e.2 := by decide +kernel
def xk_85 : xK := xmk xL_7 4 (none) false xE_85 xE_85
theorem xz_85 : xwf xsg xm_85 xk_85 := ⟨xmk_ok (M := xm_85) xLk_7 (fun h => by cases h) xE_85 xD_85, rfl, by decide⟩
/-! FeatherBench$Shapes.fill(LFeatherBench$Row;III)V -/
def xE_86 : xCd := [(0, .aload_n 0, 1), (1, .getfield 39, 3), (4, .aload_n 0, 1), (5, .getfield 35, 3), (8, .iload_n 2, 1), (9, .invokevirtual 57, 3), (12, .invokevirtual 57, 3), (15, .istore 5, 2), (17, .iload_n 2, 1), (18, .iconst 1, 1), (19, .iadd, 1), (20, .istore 6, 2), (22, .iconst 0, 1), (23, .istore 7, 2), (25, .iload 7, 2), (27, .bipush 12, 2), (29, .if_icmp .ge 85, 3), (32, .iload 7, 2), (34, .bipush 6, 2), (36, .if_icmp .ne 13, 3), (39, .bipush 6, 2), (41, .iload 4, 2), (43, .iadd, 1), (44, .istore 5, 2), (46, .iload_n 3, 1), (47, .istore 6, 2), (49, .iload 7, 2), (51, .iload 5, 2), (53, .if_icmp .ge 8, 3), (56, .iload 6, 2), (58, .goto 5, 3), (61, .iload 7, 2), (63, .istore 8, 2), (65, .aload_n 0, 1), (66, .iload 8, 2), (68, .invokevirtual 64, 3), (71, .istore 9, 2), (73, .aload_n 1, 1), (74, .iload 7, 2), (76, .iload 8, 2), (78, .invokevirtual 61, 3), (81, .aload_n 1, 1), (82, .bipush 12, 2), (84, .iload 7, 2), (86, .iadd, 1), (87, .iload 9, 2), (89, .invokevirtual 61, 3), (92, .iload 7, 2), (94, .iload 5, 2), (96, .if_icmp .ge 8, 3), (99, .iload 9, 2), (101, .goto 5, 3), (104, .iload 6, 2), (106, .istore 6, 2), (108, .iinc 7 1, 3), (111, .goto (-86), 3), (114, .return_, 1)]
set_option maxRecDepth 20000 in
theorem xD_86 : ∀ e ∈ xE_86, decode xm_86.2.1 e.1 = .ok e.2 := by decide +kernel
def xk_86 : xK := xmk xL_7 10 (none) false xE_86 xE_86
theorem xz_86 : xwf xsg xm_86 xk_86 := ⟨xmk_ok (M := xm_86) xLk_7 (fun h => by cases h) xE_86 xD_86, rfl, by decide⟩
