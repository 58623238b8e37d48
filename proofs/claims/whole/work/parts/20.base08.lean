def LX11_image_p1 : List (Nat × Instr × Nat) := [(116, .goto (-66), 3), (119, .bipush 83, 2), (121, .istore_n 1, 1), (122, .iconst 0, 1), (123, .istore_n 2, 1), (124, .iload_n 2, 1), (125, .aload_n 0, 1), (126, .getfield 300, 3), (129, .if_icmp .ge 29, 3), (132, .iload_n 2, 1), (133, .aload_n 0, 1), (134, .getfield 97, 3), (137, .arraylength, 1), (138, .if_icmp .ge 20, 3), (141, .iload_n 1, 1), (142, .aload_n 0, 1), (143, .getfield 97, 3), (146, .iload_n 2, 1), (147, .iaload, 1), (148, .invokestatic 312, 3), (151, .istore_n 1, 1), (152, .iinc 2 1, 3), (155, .goto (-31), 3), (158, .aload_n 0, 1), (159, .iload_n 1, 1), (160, .invokevirtual 309, 3), (163, .aload_n 0, 1), (164, .getfield 300, 3), (167, .ireturn, 1)]
set_option maxRecDepth 100000 in
theorem eX11_image_p1 : mf_dec cX11_image LX11_image_p1 = true := by decide +kernel
set_option maxRecDepth 100000 in
theorem okX11_image : mf_ok YX11_image 0 := ⟨mf_m5 (i := 132) rfl rfl, mf_m1 (i := 1) rfl rfl, by decide +kernel, by decide⟩
abbrev YX11_octet : mf_Y := (yX11_octet, cX11_octet, 2, (some .int))
def LX11_octet : List (Nat × Instr × Nat) := [(0, .iload_n 1, 1), (1, .ifCond .lt 20, 3), (4, .iload_n 1, 1), (5, .aload_n 0, 1), (6, .getfield 300, 3), (9, .if_icmp .ge 12, 3), (12, .iload_n 1, 1), (13, .aload_n 0, 1), (14, .getfield 97, 3), (17, .arraylength, 1), (18, .if_icmp .lt 7, 3), (21, .iconst (-1), 1), (22, .goto 9, 3), (25, .aload_n 0, 1), (26, .getfield 97, 3), (29, .iload_n 1, 1), (30, .iaload, 1), (31, .ireturn, 1)]
set_option maxRecDepth 100000 in
theorem eX11_octet : mf_dec cX11_octet LX11_octet = true := by decide +kernel
set_option maxRecDepth 100000 in
theorem okX11_octet : mf_ok YX11_octet 1 := ⟨mf_m5 (i := 147) rfl rfl, mf_m1 (i := 1) rfl rfl, by decide +kernel, by decide⟩
abbrev YX11_on : mf_Y := (yX11_on, cX11_on, 2, (some .boolean))
def LX11_on : List (Nat × Instr × Nat) := [(0, .aload_n 0, 1), (1, .getfield 47, 3), (4, .getfield 140, 3), (7, .ifCond .le 25, 3), (10, .aload_n 0, 1), (11, .getfield 86, 3), (14, .aload_n 0, 1), (15, .getfield 47, 3), (18, .aload_n 0, 1), (19, .getfield 15, 3), (22, .invokevirtual 315, 3), (25, .ifCond .eq 7, 3), (28, .iconst 1, 1), (29, .goto 4, 3), (32, .iconst 0, 1), (33, .istore_n 1, 1), (34, .aload_n 0, 1), (35, .getfield 15, 3), (38, .iconst 0, 1), (39, .putfield 107, 3), (42, .iload_n 1, 1), (43, .ifCond .ne 15, 3), (46, .aload_n 0, 1), (47, .getfield 93, 3), (50, .iconst 5, 1), (51, .dup2, 1), (52, .iaload, 1), (53, .iconst 1, 1), (54, .iadd, 1), (55, .iastore, 1), (56, .iconst 0, 1), (57, .ireturn, 1), (58, .aload_n 0, 1), (59, .getfield 82, 3), (62, .aload_n 0, 1), (63, .getfield 86, 3), (66, .invokevirtual 127, 3), (69, .aload_n 0, 1), (70, .iconst 0, 1), (71, .putfield 134, 3), (74, .iconst 1, 1), (75, .ireturn, 1)]
set_option maxRecDepth 100000 in
theorem eX11_on : mf_dec cX11_on LX11_on = true := by decide +kernel
set_option maxRecDepth 100000 in
theorem okX11_on : mf_ok YX11_on 0 := ⟨mf_m5 (i := 151) rfl rfl, mf_m1 (i := 1) rfl rfl, by decide +kernel, by decide⟩
abbrev YX11_status : mf_Y := (yX11_status, cX11_status, 2, (some .int))
def LX11_status : List (Nat × Instr × Nat) := [(0, .iload_n 1, 1), (1, .ifCond .lt 12, 3), (4, .iload_n 1, 1), (5, .aload_n 0, 1), (6, .getfield 93, 3), (9, .arraylength, 1), (10, .if_icmp .lt 7, 3), (13, .iconst (-1), 1), (14, .goto 9, 3), (17, .aload_n 0, 1), (18, .getfield 93, 3), (21, .iload_n 1, 1), (22, .iaload, 1), (23, .ireturn, 1)]
set_option maxRecDepth 100000 in
theorem eX11_status : mf_dec cX11_status LX11_status = true := by decide +kernel
set_option maxRecDepth 100000 in
theorem okX11_status : mf_ok YX11_status 1 := ⟨mf_m5 (i := 172) rfl rfl, mf_m1 (i := 1) rfl rfl, by decide +kernel, by decide⟩
abbrev YX11_takeFault : mf_Y := (yX11_takeFault, cX11_takeFault, 1, none)
def LX11_takeFault : List (Nat × Instr × Nat) := [(0, .aload_n 0, 1), (1, .aload_n 0, 1), (2, .getfield 24, 3), (5, .getfield 318, 3), (8, .putfield 121, 3), (11, .aload_n 0, 1), (12, .aload_n 0, 1), (13, .getfield 121, 3), (16, .ifCond .ne 7, 3), (19, .iconst (-1), 1), (20, .goto 10, 3), (23, .aload_n 0, 1), (24, .getfield 24, 3), (27, .getfield 319, 3), (30, .putfield 100, 3), (33, .aload_n 0, 1), (34, .getfield 15, 3), (37, .iconst 0, 1), (38, .putfield 107, 3), (41, .return_, 1)]
set_option maxRecDepth 100000 in
theorem eX11_takeFault : mf_dec cX11_takeFault LX11_takeFault = true := by decide +kernel
set_option maxRecDepth 100000 in
theorem okX11_takeFault : mf_ok YX11_takeFault 0 := ⟨mf_m4 (i := 13) rfl rfl, mf_m1 (i := 1) rfl rfl, by decide +kernel, by decide⟩
abbrev YX11_isBeing : mf_Y := (yX11_isBeing, cX11_isBeing, 2, (some .boolean))
def LX11_isBeing : List (Nat × Instr × Nat) := [(0, .iload_n 1, 1), (1, .ifCond .lt 18, 3), (4, .iload_n 1, 1), (5, .aload_n 0, 1), (6, .getfield 47, 3), (9, .getfield 153, 3), (12, .if_icmp .ge 7, 3), (15, .iconst 1, 1), (16, .goto 4, 3), (19, .iconst 0, 1), (20, .ireturn, 1)]
set_option maxRecDepth 100000 in
theorem eX11_isBeing : mf_dec cX11_isBeing LX11_isBeing = true := by decide +kernel
set_option maxRecDepth 100000 in
theorem okX11_isBeing : mf_ok YX11_isBeing 1 := ⟨mf_m4 (i := 99) rfl rfl, mf_m1 (i := 1) rfl rfl, by decide +kernel, by decide⟩
abbrev YX11_isCell : mf_Y := (yX11_isCell, cX11_isCell, 3, (some .boolean))
def LX11_isCell : List (Nat × Instr × Nat) := [(0, .iload_n 1, 1), (1, .ifCond .lt 33, 3), (4, .iload_n 1, 1), (5, .aload_n 0, 1), (6, .getfield 47, 3), (9, .getfield 140, 3), (12, .if_icmp .ge 22, 3), (15, .iload_n 2, 1), (16, .ifCond .lt 18, 3), (19, .iload_n 2, 1), (20, .aload_n 0, 1), (21, .getfield 47, 3), (24, .getfield 143, 3), (27, .if_icmp .ge 7, 3), (30, .iconst 1, 1), (31, .goto 4, 3), (34, .iconst 0, 1), (35, .ireturn, 1)]
set_option maxRecDepth 100000 in
theorem eX11_isCell : mf_dec cX11_isCell LX11_isCell = true := by decide +kernel
set_option maxRecDepth 100000 in
theorem okX11_isCell : mf_ok YX11_isCell 2 := ⟨mf_m4 (i := 117) rfl rfl, mf_m1 (i := 1) rfl rfl, by decide +kernel, by decide⟩
abbrev YX11_canPass : mf_Y := (yX11_canPass, cX11_canPass, 2, (some .boolean))
def LX11_canPass : List (Nat × Instr × Nat) := [(0, .aload_n 0, 1), (1, .getfield 47, 3), (4, .getfield 140, 3), (7, .ifCond .le 22, 3), (10, .aload_n 0, 1), (11, .getfield 82, 3), (14, .getfield 156, 3), (17, .iload_n 1, 1), (18, .iadd, 1), (19, .sipush 999, 3), (22, .if_icmp .gt 7, 3), (25, .iconst 1, 1), (26, .goto 4, 3), (29, .iconst 0, 1), (30, .ireturn, 1)]
set_option maxRecDepth 100000 in
theorem eX11_canPass : mf_dec cX11_canPass LX11_canPass = true := by decide +kernel
set_option maxRecDepth 100000 in
theorem okX11_canPass : mf_ok YX11_canPass 1 := ⟨mf_m4 (i := 177) rfl rfl, mf_m1 (i := 1) rfl rfl, by decide +kernel, by decide⟩
abbrev YX11_allPurses : mf_Y := (yX11_allPurses, cX11_allPurses, 3, (some .int))
def LX11_allPurses : List (Nat × Instr × Nat) := [(0, .iconst 0, 1), (1, .istore_n 1, 1), (2, .iconst 0, 1), (3, .istore_n 2, 1), (4, .iload_n 2, 1), (5, .aload_n 0, 1), (6, .getfield 47, 3), (9, .getfield 153, 3), (12, .if_icmp .ge 21, 3), (15, .iload_n 1, 1), (16, .aload_n 0, 1), (17, .getfield 82, 3), (20, .getfield 189, 3), (23, .iload_n 2, 1), (24, .iaload, 1), (25, .iadd, 1), (26, .istore_n 1, 1), (27, .iinc 2 1, 3), (30, .goto (-26), 3), (33, .iload_n 1, 1), (34, .ireturn, 1)]
set_option maxRecDepth 100000 in
theorem eX11_allPurses : mf_dec cX11_allPurses LX11_allPurses = true := by decide +kernel
set_option maxRecDepth 100000 in
theorem okX11_allPurses : mf_ok YX11_allPurses 0 := ⟨mf_m4 (i := 86) rfl rfl, mf_m1 (i := 1) rfl rfl, by decide +kernel, by decide⟩
abbrev YX11_leafUpon : mf_Y := (yX11_leafUpon, cX11_leafUpon, 3, (some .int))
def LX11_leafUpon : List (Nat × Instr × Nat) := [(0, .aload_n 0, 1), (1, .getfield 66, 3), (4, .aload_n 0, 1), (5, .getfield 47, 3), (8, .aload_n 0, 1), (9, .getfield 82, 3), (12, .getfield 156, 3), (15, .invokevirtual 159, 3), (18, .istore_n 2, 1), (19, .aload_n 0, 1), (20, .getfield 47, 3), (23, .iload_n 2, 1), (24, .iload_n 1, 1), (25, .iconst 1, 1), (26, .isub, 1), (27, .invokestatic 320, 3), (30, .ifCond .eq 7, 3), (33, .iload_n 1, 1), (34, .iconst 1, 1), (35, .isub, 1), (36, .ireturn, 1), (37, .aload_n 0, 1), (38, .getfield 47, 3), (41, .iload_n 2, 1), (42, .iload_n 1, 1), (43, .invokestatic 320, 3), (46, .ifCond .eq 9, 3), (49, .iload_n 1, 1), (50, .iconst 1, 1), (51, .iadd, 1), (52, .goto 4, 3), (55, .iconst (-1), 1), (56, .ireturn, 1)]
set_option maxRecDepth 100000 in
theorem eX11_leafUpon : mf_dec cX11_leafUpon LX11_leafUpon = true := by decide +kernel
set_option maxRecDepth 100000 in
theorem okX11_leafUpon : mf_ok YX11_leafUpon 1 := ⟨mf_m4 (i := 123) rfl rfl, mf_m1 (i := 1) rfl rfl, by decide +kernel, by decide⟩
abbrev YX11_findRefuge : mf_Y := (yX11_findRefuge, cX11_findRefuge, 4, (some .int))
def LX11_findRefuge : List (Nat × Instr × Nat) := [(0, .iconst 1, 1), (1, .istore_n 3, 1), (2, .iload_n 3, 1), (3, .aload_n 0, 1), (4, .getfield 47, 3), (7, .getfield 143, 3), (10, .if_icmp .ge 78, 3), (13, .iload_n 2, 1), (14, .iload_n 3, 1), (15, .isub, 1), (16, .ifCond .lt 28, 3), (19, .aload_n 0, 1), (20, .getfield 82, 3), (23, .iload_n 1, 1), (24, .iload_n 2, 1), (25, .iload_n 3, 1), (26, .isub, 1), (27, .aload_n 0, 1), (28, .getfield 47, 3), (31, .getfield 153, 3), (34, .invokevirtual 264, 3), (37, .ifCond .eq 7, 3), (40, .iload_n 2, 1), (41, .iload_n 3, 1), (42, .isub, 1), (43, .ireturn, 1), (44, .iload_n 2, 1), (45, .iload_n 3, 1), (46, .iadd, 1), (47, .aload_n 0, 1), (48, .getfield 47, 3), (51, .getfield 143, 3), (54, .if_icmp .ge 28, 3), (57, .aload_n 0, 1), (58, .getfield 82, 3), (61, .iload_n 1, 1), (62, .iload_n 2, 1), (63, .iload_n 3, 1), (64, .iadd, 1), (65, .aload_n 0, 1), (66, .getfield 47, 3), (69, .getfield 153, 3), (72, .invokevirtual 264, 3), (75, .ifCond .eq 7, 3), (78, .iload_n 2, 1), (79, .iload_n 3, 1), (80, .iadd, 1), (81, .ireturn, 1), (82, .iinc 3 1, 3), (85, .goto (-83), 3), (88, .iconst (-1), 1), (89, .ireturn, 1)]
set_option maxRecDepth 100000 in
theorem eX11_findRefuge : mf_dec cX11_findRefuge LX11_findRefuge = true := by decide +kernel
set_option maxRecDepth 100000 in
theorem okX11_findRefuge : mf_ok YX11_findRefuge 2 := ⟨mf_m5 (i := 78) rfl rfl, mf_m1 (i := 1) rfl rfl, by decide +kernel, by decide⟩
abbrev YX11_saveAct : mf_Y := (yX11_saveAct, cX11_saveAct, 1, none)
def LX11_saveAct : List (Nat × Instr × Nat) := [(0, .aload_n 0, 1), (1, .getfield 89, 3), (4, .aload_n 0, 1), (5, .getfield 287, 3), (8, .aaload, 1), (9, .aload_n 0, 1), (10, .getfield 82, 3), (13, .invokevirtual 127, 3), (16, .aload_n 0, 1), (17, .aload_n 0, 1), (18, .getfield 287, 3), (21, .iconst 1, 1), (22, .iadd, 1), (23, .bipush 20, 2), (25, .irem, 1), (26, .putfield 287, 3), (29, .aload_n 0, 1), (30, .bipush 20, 2), (32, .aload_n 0, 1), (33, .getfield 134, 3), (36, .iconst 1, 1), (37, .iadd, 1), (38, .invokestatic 324, 3), (41, .putfield 134, 3), (44, .return_, 1)]
set_option maxRecDepth 100000 in
theorem eX11_saveAct : mf_dec cX11_saveAct LX11_saveAct = true := by decide +kernel
set_option maxRecDepth 100000 in
theorem okX11_saveAct : mf_ok YX11_saveAct 0 := ⟨mf_m5 (i := 69) rfl rfl, mf_m1 (i := 1) rfl rfl, by decide +kernel, by decide⟩
abbrev YX11_draw : mf_Y := (yX11_draw, cX11_draw, 2, (some .int))
def LX11_draw : List (Nat × Instr × Nat) := [(0, .aload_n 0, 1), (1, .ldc2_w 329, 3), (4, .aload_n 0, 1), (5, .getfield 104, 3), (8, .i2l, 1), (9, .lmul, 1), (10, .ldc2_w 331, 3), (13, .ladd, 1), (14, .ldc2_w 333, 3), (17, .land, 1), (18, .l2i, 1), (19, .putfield 104, 3), (22, .iload_n 1, 1), (23, .ifCond .le 15, 3), (26, .aload_n 0, 1), (27, .getfield 104, 3), (30, .bipush 64, 2), (32, .idiv, 1), (33, .iload_n 1, 1), (34, .irem, 1), (35, .goto 4, 3), (38, .iconst 0, 1), (39, .ireturn, 1)]
set_option maxRecDepth 100000 in
theorem eX11_draw : mf_dec cX11_draw LX11_draw = true := by decide +kernel
set_option maxRecDepth 100000 in
theorem okX11_draw : mf_ok YX11_draw 1 := ⟨mf_m5 (i := 92) rfl rfl, mf_m1 (i := 1) rfl rfl, by decide +kernel, by decide⟩
abbrev YX11_answer : mf_Y := (yX11_answer, cX11_answer, 13, (some .long))
def LX11_answer_p0 : List (Nat × Instr × Nat) := [(0, .aload_n 0, 1), (1, .getfield 66, 3), (4, .aload_n 0, 1), (5, .getfield 47, 3), (8, .aload_n 0, 1), (9, .getfield 82, 3), (12, .getfield 156, 3), (15, .invokevirtual 159, 3), (18, .istore_n 2, 1), (19, .lconst 0, 1), (20, .lstore_n 3, 1), (21, .ldc2_w 335, 3), (24, .lstore 5, 2), (26, .lconst 0, 1), (27, .lstore 7, 2), (29, .lconst 0, 1), (30, .lstore 9, 2), (32, .iconst 0, 1), (33, .istore 11, 2), (35, .iload 11, 2), (37, .aload_n 0, 1), (38, .getfield 47, 3), (41, .getfield 153, 3), (44, .if_icmp .ge 106, 3), (47, .aload_n 0, 1), (48, .getfield 66, 3), (51, .aload_n 0, 1), (52, .getfield 31, 3), (55, .aload_n 0, 1), (56, .getfield 47, 3), (59, .aload_n 0, 1), (60, .getfield 82, 3), (63, .iload 11, 2), (65, .iload_n 2, 1), (66, .invokevirtual 337, 3), (69, .istore 12, 2), (71, .iload 12, 2), (73, .ifCond .eq 23, 3), (76, .lload 5, 2), (78, .ldc2_w 335, 3), (81, .lcmp, 1), (82, .ifCond .eq 9, 3), (85, .iload_n 1, 1), (86, .bipush 29, 2), (88, .if_icmp .ne 8, 3), (91, .iload 11, 2), (93, .i2l, 1), (94, .lstore 5, 2), (96, .lload_n 3, 1), (97, .iload 12, 2), (99, .i2l, 1), (100, .ladd, 1), (101, .lstore_n 3, 1), (102, .iload 11, 2), (104, .ifCond .ne 9, 3), (107, .iload 12, 2), (109, .i2l, 1), (110, .goto 11, 3), (113, .lload 7, 2), (115, .iload 12, 2)]
set_option maxRecDepth 100000 in
theorem eX11_answer_p0 : mf_dec cX11_answer LX11_answer_p0 = true := by decide +kernel
def LX11_answer_p1 : List (Nat × Instr × Nat) := [(117, .i2l, 1), (118, .invokestatic 341, 3), (121, .lstore 7, 2), (123, .iload 11, 2), (125, .ifCond .ne 9, 3), (128, .iload 12, 2), (130, .i2l, 1), (131, .goto 11, 3), (134, .lload 9, 2), (136, .iload 12, 2), (138, .i2l, 1), (139, .invokestatic 345, 3), (142, .lstore 9, 2), (144, .iinc 11 1, 3), (147, .goto (-112), 3), (150, .iload_n 1, 1), (151, .tableswitch 49 28 33 #[37, 40, 49, 49, 43, 46], 37), (188, .lload 5, 2), (190, .lreturn, 1), (191, .lload 5, 2), (193, .lreturn, 1), (194, .lload 7, 2), (196, .lreturn, 1), (197, .lload 9, 2), (199, .lreturn, 1), (200, .lload_n 3, 1), (201, .lreturn, 1)]
set_option maxRecDepth 100000 in
theorem eX11_answer_p1 : mf_dec cX11_answer LX11_answer_p1 = true := by decide +kernel
set_option maxRecDepth 100000 in
theorem okX11_answer : mf_ok YX11_answer 1 := ⟨mf_m5 (i := 121) rfl rfl, mf_m1 (i := 1) rfl rfl, by decide +kernel, by decide⟩
abbrev YX11_addOctets : mf_Y := (yX11_addOctets, cX11_addOctets, 2, none)
def LX11_addOctets : List (Nat × Instr × Nat) := [(0, .aload_n 0, 1), (1, .iload_n 1, 1), (2, .sipush 256, 3), (5, .idiv, 1), (6, .invokevirtual 309, 3), (9, .aload_n 0, 1), (10, .iload_n 1, 1), (11, .sipush 256, 3), (14, .irem, 1), (15, .invokevirtual 309, 3), (18, .return_, 1)]
set_option maxRecDepth 100000 in
theorem eX11_addOctets : mf_dec cX11_addOctets LX11_addOctets = true := by decide +kernel
set_option maxRecDepth 100000 in
theorem okX11_addOctets : mf_ok YX11_addOctets 1 := ⟨mf_m5 (i := 136) rfl rfl, mf_m1 (i := 1) rfl rfl, by decide +kernel, by decide⟩
abbrev YX11_addOctet : mf_Y := (yX11_addOctet, cX11_addOctet, 2, none)
def LX11_addOctet : List (Nat × Instr × Nat) := [(0, .aload_n 0, 1), (1, .getfield 300, 3), (4, .aload_n 0, 1), (5, .getfield 97, 3), (8, .arraylength, 1), (9, .if_icmp .ge 23, 3), (12, .aload_n 0, 1), (13, .getfield 97, 3), (16, .aload_n 0, 1), (17, .getfield 300, 3), (20, .iload_n 1, 1), (21, .iastore, 1), (22, .aload_n 0, 1), (23, .dup, 1), (24, .getfield 300, 3), (27, .iconst 1, 1), (28, .iadd, 1), (29, .putfield 300, 3), (32, .return_, 1)]
set_option maxRecDepth 100000 in
theorem eX11_addOctet : mf_dec cX11_addOctet LX11_addOctet = true := by decide +kernel
set_option maxRecDepth 100000 in
theorem okX11_addOctet : mf_ok YX11_addOctet 1 := ⟨mf_m5 (i := 140) rfl rfl, mf_m1 (i := 1) rfl rfl, by decide +kernel, by decide⟩
abbrev YX12_init : mf_Y := (yX12_init, cX12_init, 1, none)
def LX12_init_p0 : List (Nat × Instr × Nat) := [(0, .aload_n 0, 1), (1, .invokespecial 1, 3), (4, .aload_n 0, 1), (5, .sipush 1600, 3), (8, .newarray .int, 2), (10, .putfield 7, 3), (13, .aload_n 0, 1), (14, .iconst (-1), 1), (15, .putfield 13, 3), (18, .aload_n 0, 1), (19, .bipush 6, 2), (21, .newarray .int, 2), (23, .putfield 17, 3), (26, .aload_n 0, 1), (27, .iconst 5, 1), (28, .newarray .char, 2), (30, .dup, 1), (31, .iconst 0, 1), (32, .bipush 102, 2), (34, .castore, 1), (35, .dup, 1), (36, .iconst 1, 1), (37, .bipush 111, 2), (39, .castore, 1), (40, .dup, 1), (41, .iconst 2, 1), (42, .bipush 108, 2), (44, .castore, 1), (45, .dup, 1), (46, .iconst 3, 1), (47, .bipush 105, 2), (49, .castore, 1), (50, .dup, 1), (51, .iconst 4, 1), (52, .bipush 111, 2), (54, .castore, 1), (55, .putfield 20, 3), (58, .aload_n 0, 1), (59, .iconst 5, 1), (60, .newarray .char, 2), (62, .dup, 1), (63, .iconst 0, 1), (64, .bipush 99, 2), (66, .castore, 1), (67, .dup, 1), (68, .iconst 1, 1), (69, .bipush 101, 2), (71, .castore, 1), (72, .dup, 1), (73, .iconst 2, 1), (74, .bipush 108, 2), (76, .castore, 1), (77, .dup, 1), (78, .iconst 3, 1), (79, .bipush 108, 2), (81, .castore, 1), (82, .dup, 1), (83, .iconst 4, 1), (84, .bipush 115, 2), (86, .castore, 1)]
set_option maxRecDepth 100000 in
theorem eX12_init_p0 : mf_dec cX12_init LX12_init_p0 = true := by decide +kernel
def LX12_init_p1 : List (Nat × Instr × Nat) := [(87, .putfield 24, 3), (90, .aload_n 0, 1), (91, .iconst 5, 1), (92, .newarray .char, 2), (94, .dup, 1), (95, .iconst 0, 1), (96, .bipush 103, 2), (98, .castore, 1), (99, .dup, 1), (100, .iconst 1, 1), (101, .bipush 108, 2), (103, .castore, 1), (104, .dup, 1), (105, .iconst 2, 1), (106, .bipush 111, 2), (108, .castore, 1), (109, .dup, 1), (110, .iconst 3, 1), (111, .bipush 115, 2), (113, .castore, 1), (114, .dup, 1), (115, .iconst 4, 1), (116, .bipush 115, 2), (118, .castore, 1), (119, .putfield 27, 3), (122, .aload_n 0, 1), (123, .iconst 4, 1), (124, .newarray .char, 2), (126, .dup, 1), (127, .iconst 0, 1), (128, .bipush 119, 2), (130, .castore, 1), (131, .dup, 1), (132, .iconst 1, 1), (133, .bipush 111, 2), (135, .castore, 1), (136, .dup, 1), (137, .iconst 2, 1), (138, .bipush 114, 2), (140, .castore, 1), (141, .dup, 1), (142, .iconst 3, 1), (143, .bipush 109, 2), (145, .castore, 1), (146, .putfield 30, 3), (149, .aload_n 0, 1), (150, .iconst 5, 1), (151, .newarray .char, 2), (153, .dup, 1), (154, .iconst 0, 1), (155, .bipush 98, 2), (157, .castore, 1), (158, .dup, 1), (159, .iconst 1, 1), (160, .bipush 101, 2), (162, .castore, 1), (163, .dup, 1), (164, .iconst 2, 1), (165, .bipush 105, 2), (167, .castore, 1)]
set_option maxRecDepth 100000 in
theorem eX12_init_p1 : mf_dec cX12_init LX12_init_p1 = true := by decide +kernel
def LX12_init_p2 : List (Nat × Instr × Nat) := [(168, .dup, 1), (169, .iconst 3, 1), (170, .bipush 110, 2), (172, .castore, 1), (173, .dup, 1), (174, .iconst 4, 1), (175, .bipush 103, 2), (177, .castore, 1), (178, .putfield 33, 3), (181, .aload_n 0, 1), (182, .iconst 2, 1), (183, .newarray .char, 2), (185, .dup, 1), (186, .iconst 0, 1), (187, .bipush 111, 2), (189, .castore, 1), (190, .dup, 1), (191, .iconst 1, 1), (192, .bipush 110, 2), (194, .castore, 1), (195, .putfield 36, 3), (198, .aload_n 0, 1), (199, .iconst 2, 1), (200, .newarray .char, 2), (202, .dup, 1), (203, .iconst 0, 1), (204, .bipush 97, 2), (206, .castore, 1), (207, .dup, 1), (208, .iconst 1, 1), (209, .bipush 116, 2), (211, .castore, 1), (212, .putfield 39, 3), (215, .aload_n 0, 1), (216, .iconst 5, 1), (217, .newarray .char, 2), (219, .dup, 1), (220, .iconst 0, 1), (221, .bipush 116, 2), (223, .castore, 1), (224, .dup, 1), (225, .iconst 1, 1), (226, .bipush 114, 2), (228, .castore, 1), (229, .dup, 1), (230, .iconst 2, 1), (231, .bipush 97, 2), (233, .castore, 1), (234, .dup, 1), (235, .iconst 3, 1), (236, .bipush 100, 2), (238, .castore, 1), (239, .dup, 1), (240, .iconst 4, 1), (241, .bipush 101, 2), (243, .castore, 1), (244, .putfield 42, 3), (247, .aload_n 0, 1), (248, .iconst 5, 1), (249, .newarray .char, 2)]
set_option maxRecDepth 100000 in
theorem eX12_init_p2 : mf_dec cX12_init LX12_init_p2 = true := by decide +kernel
