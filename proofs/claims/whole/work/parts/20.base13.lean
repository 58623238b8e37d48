set_option maxRecDepth 100000 in
theorem okX12_pays : mf_ok YX12_pays 3 := ⟨mf_m8 (i := 137) rfl rfl, mf_m1 (i := 17) rfl rfl, by decide +kernel, by decide⟩
abbrev YX12_meet : mf_Y := (yX12_meet, cX12_meet, 5, none)
def LX12_meet : List (Nat × Instr × Nat) := [(0, .aload_n 0, 1), (1, .dup, 1), (2, .getfield 452, 3), (5, .iconst 1, 1), (6, .iadd, 1), (7, .putfield 452, 3), (10, .aload_n 0, 1), (11, .iload_n 1, 1), (12, .invokevirtual 455, 3), (15, .aload_n 0, 1), (16, .iload_n 2, 1), (17, .invokevirtual 455, 3), (20, .aload_n 0, 1), (21, .iload_n 1, 1), (22, .iload_n 2, 1), (23, .invokevirtual 458, 3), (26, .aload_n 0, 1), (27, .aload_n 0, 1), (28, .getfield 124, 3), (31, .bipush 8, 2), (33, .iload_n 2, 1), (34, .iadd, 1), (35, .iaload, 1), (36, .putfield 461, 3), (39, .aload_n 0, 1), (40, .getfield 127, 3), (43, .bipush 6, 2), (45, .iaload, 1), (46, .iconst (-1), 1), (47, .if_icmp .ne 7, 3), (50, .lconst 1, 1), (51, .goto 9, 3), (54, .aload_n 0, 1), (55, .iconst 2, 1), (56, .iload_n 1, 1), (57, .invokevirtual 439, 3), (60, .lstore_n 3, 1), (61, .lload_n 3, 1), (62, .lconst 0, 1), (63, .lcmp, 1), (64, .ifCond .ge 14, 3), (67, .aload_n 0, 1), (68, .iload_n 2, 1), (69, .iload_n 1, 1), (70, .lload_n 3, 1), (71, .lneg, 1), (72, .invokevirtual 464, 3), (75, .goto 10, 3), (78, .aload_n 0, 1), (79, .iload_n 1, 1), (80, .iload_n 2, 1), (81, .lload_n 3, 1), (82, .invokevirtual 464, 3), (85, .return_, 1)]
set_option maxRecDepth 100000 in
theorem eX12_meet : mf_dec cX12_meet LX12_meet = true := by decide +kernel
set_option maxRecDepth 100000 in
theorem okX12_meet : mf_ok YX12_meet 2 := ⟨mf_m8 (i := 125) rfl rfl, mf_m1 (i := 17) rfl rfl, by decide +kernel, by decide⟩
abbrev YX12_dayBy : mf_Y := (yX12_dayBy, cX12_dayBy, 5, none)
def LX12_dayBy_p0 : List (Nat × Instr × Nat) := [(0, .aload_n 0, 1), (1, .iload_n 1, 1), (2, .putfield 468, 3), (5, .aload_n 0, 1), (6, .aload_n 0, 1), (7, .getfield 136, 3), (10, .iconst 0, 1), (11, .iaload, 1), (12, .putfield 436, 3), (15, .iconst 0, 1), (16, .istore_n 2, 1), (17, .iload_n 2, 1), (18, .aload_n 0, 1), (19, .invokevirtual 402, 3), (22, .if_icmp .ge 43, 3), (25, .iload_n 2, 1), (26, .iconst 1, 1), (27, .iadd, 1), (28, .istore_n 3, 1), (29, .iload_n 3, 1), (30, .aload_n 0, 1), (31, .invokevirtual 402, 3), (34, .if_icmp .ge 25, 3), (37, .aload_n 0, 1), (38, .iload_n 2, 1), (39, .iload_n 3, 1), (40, .iload_n 1, 1), (41, .invokevirtual 471, 3), (44, .ifCond .eq 9, 3), (47, .aload_n 0, 1), (48, .iload_n 2, 1), (49, .iload_n 3, 1), (50, .invokevirtual 474, 3), (53, .iinc 3 1, 3), (56, .goto (-27), 3), (59, .iinc 2 1, 3), (62, .goto (-45), 3), (65, .iconst 0, 1), (66, .istore_n 2, 1), (67, .iload_n 2, 1), (68, .aload_n 0, 1), (69, .invokevirtual 402, 3), (72, .if_icmp .ge 76, 3), (75, .aload_n 0, 1), (76, .getfield 127, 3), (79, .iconst 5, 1), (80, .iaload, 1), (81, .iconst (-1), 1), (82, .if_icmp .ne 12, 3), (85, .aload_n 0, 1), (86, .iload_n 2, 1), (87, .invokevirtual 413, 3), (90, .i2l, 1), (91, .goto 9, 3), (94, .aload_n 0, 1), (95, .iconst 1, 1), (96, .iload_n 2, 1), (97, .invokevirtual 439, 3), (100, .lstore_n 3, 1), (101, .aload_n 0, 1)]
set_option maxRecDepth 100000 in
theorem eX12_dayBy_p0 : mf_dec cX12_dayBy LX12_dayBy_p0 = true := by decide +kernel
def LX12_dayBy_p1 : List (Nat × Instr × Nat) := [(102, .iload_n 2, 1), (103, .aload_n 0, 1), (104, .iload_n 2, 1), (105, .invokevirtual 445, 3), (108, .i2l, 1), (109, .lload_n 3, 1), (110, .ldc2_w 477, 3), (113, .lcmp, 1), (114, .ifCond .ge 9, 3), (117, .ldc2_w 477, 3), (120, .goto 18, 3), (123, .lload_n 3, 1), (124, .ldc2_w 479, 3), (127, .lcmp, 1), (128, .ifCond .le 9, 3), (131, .ldc2_w 479, 3), (134, .goto 4, 3), (137, .lload_n 3, 1), (138, .ladd, 1), (139, .invokevirtual 448, 3), (142, .iinc 2 1, 3), (145, .goto (-78), 3), (148, .iconst 0, 1), (149, .istore_n 2, 1), (150, .iload_n 2, 1), (151, .aload_n 0, 1), (152, .invokevirtual 402, 3), (155, .if_icmp .ge 93, 3), (158, .aload_n 0, 1), (159, .getfield 127, 3), (162, .bipush 7, 2), (164, .iaload, 1), (165, .iconst (-1), 1), (166, .if_icmp .eq 76, 3), (169, .aload_n 0, 1), (170, .iconst 3, 1), (171, .iload_n 2, 1), (172, .invokevirtual 439, 3), (175, .lconst 1, 1), (176, .lcmp, 1), (177, .ifCond .eq 6, 3), (180, .goto 62, 3), (183, .aload_n 0, 1), (184, .iload_n 2, 1), (185, .invokevirtual 413, 3), (188, .iconst 1, 1), (189, .iadd, 1), (190, .istore_n 3, 1), (191, .iload_n 3, 1), (192, .aload_n 0, 1), (193, .getfield 105, 3), (196, .iconst 3, 1), (197, .iaload, 1), (198, .if_icmp .ge 44, 3), (201, .aload_n 0, 1), (202, .aload_n 0, 1), (203, .iload_n 2, 1), (204, .invokevirtual 410, 3), (207, .iload_n 3, 1), (208, .invokevirtual 481, 3)]
set_option maxRecDepth 100000 in
theorem eX12_dayBy_p1 : mf_dec cX12_dayBy LX12_dayBy_p1 = true := by decide +kernel
def LX12_dayBy_p2 : List (Nat × Instr × Nat) := [(211, .ifCond .ne 31, 3), (214, .aload_n 0, 1), (215, .aload_n 0, 1), (216, .iload_n 2, 1), (217, .invokevirtual 410, 3), (220, .iload_n 3, 1), (221, .invokevirtual 484, 3), (224, .iconst (-1), 1), (225, .if_icmp .ne 17, 3), (228, .aload_n 0, 1), (229, .getfield 136, 3), (232, .bipush 7, 2), (234, .iconst 4, 1), (235, .iload_n 2, 1), (236, .imul, 1), (237, .iadd, 1), (238, .iconst 1, 1), (239, .iadd, 1), (240, .iload_n 3, 1), (241, .iastore, 1), (242, .iinc 2 1, 3), (245, .goto (-95), 3), (248, .aload_n 0, 1), (249, .getfield 136, 3), (252, .iconst 0, 1), (253, .dup2, 1), (254, .iaload, 1), (255, .iconst 1, 1), (256, .iadd, 1), (257, .iastore, 1), (258, .return_, 1)]
set_option maxRecDepth 100000 in
theorem eX12_dayBy_p2 : mf_dec cX12_dayBy LX12_dayBy_p2 = true := by decide +kernel
set_option maxRecDepth 100000 in
theorem okX12_dayBy : mf_ok YX12_dayBy 1 := ⟨mf_m8 (i := 121) rfl rfl, mf_m1 (i := 17) rfl rfl, by decide +kernel, by decide⟩
abbrev YX12_daysGo : mf_Y := (yX12_daysGo, cX12_daysGo, 3, none)
def LX12_daysGo : List (Nat × Instr × Nat) := [(0, .iconst 0, 1), (1, .istore_n 2, 1), (2, .iload_n 2, 1), (3, .iload_n 1, 1), (4, .if_icmp .ge 23, 3), (7, .aload_n 0, 1), (8, .aload_n 0, 1), (9, .aload_n 0, 1), (10, .getfield 136, 3), (13, .iconst 0, 1), (14, .iaload, 1), (15, .invokevirtual 487, 3), (18, .invokevirtual 490, 3), (21, .iinc 2 1, 3), (24, .goto (-22), 3), (27, .return_, 1)]
set_option maxRecDepth 100000 in
theorem eX12_daysGo : mf_dec cX12_daysGo LX12_daysGo = true := by decide +kernel
set_option maxRecDepth 100000 in
theorem okX12_daysGo : mf_ok YX12_daysGo 1 := ⟨mf_m8 (i := 160) rfl rfl, mf_m1 (i := 17) rfl rfl, by decide +kernel, by decide⟩
abbrev YX12_putsAside : mf_Y := (yX12_putsAside, cX12_putsAside, 2, none)
def LX12_putsAside : List (Nat × Instr × Nat) := [(0, .aload_n 0, 1), (1, .iconst 1, 1), (2, .putfield 442, 3), (5, .iconst 0, 1), (6, .istore_n 1, 1), (7, .iload_n 1, 1), (8, .bipush 39, 2), (10, .if_icmp .ge 21, 3), (13, .aload_n 0, 1), (14, .getfield 139, 3), (17, .iload_n 1, 1), (18, .aload_n 0, 1), (19, .getfield 136, 3), (22, .iload_n 1, 1), (23, .iaload, 1), (24, .iastore, 1), (25, .iinc 1 1, 3), (28, .goto (-21), 3), (31, .aload_n 0, 1), (32, .iconst 0, 1), (33, .putfield 452, 3), (36, .iconst 0, 1), (37, .istore_n 1, 1), (38, .iload_n 1, 1), (39, .bipush 8, 2), (41, .if_icmp .ge 16, 3), (44, .aload_n 0, 1), (45, .getfield 142, 3), (48, .iload_n 1, 1), (49, .iconst 0, 1), (50, .iastore, 1), (51, .iinc 1 1, 3), (54, .goto (-16), 3), (57, .return_, 1)]
set_option maxRecDepth 100000 in
theorem eX12_putsAside : mf_dec cX12_putsAside LX12_putsAside = true := by decide +kernel
set_option maxRecDepth 100000 in
theorem okX12_putsAside : mf_ok YX12_putsAside 0 := ⟨mf_m8 (i := 113) rfl rfl, mf_m1 (i := 17) rfl rfl, by decide +kernel, by decide⟩
abbrev YX12_triesAnew : mf_Y := (yX12_triesAnew, cX12_triesAnew, 2, none)
def LX12_triesAnew : List (Nat × Instr × Nat) := [(0, .iconst 0, 1), (1, .istore_n 1, 1), (2, .iload_n 1, 1), (3, .bipush 39, 2), (5, .if_icmp .ge 21, 3), (8, .aload_n 0, 1), (9, .getfield 136, 3), (12, .iload_n 1, 1), (13, .aload_n 0, 1), (14, .getfield 139, 3), (17, .iload_n 1, 1), (18, .iaload, 1), (19, .iastore, 1), (20, .iinc 1 1, 3), (23, .goto (-21), 3), (26, .aload_n 0, 1), (27, .iconst 0, 1), (28, .putfield 452, 3), (31, .return_, 1)]
set_option maxRecDepth 100000 in
theorem eX12_triesAnew : mf_dec cX12_triesAnew LX12_triesAnew = true := by decide +kernel
set_option maxRecDepth 100000 in
theorem okX12_triesAnew : mf_ok YX12_triesAnew 0 := ⟨mf_m8 (i := 148) rfl rfl, mf_m1 (i := 17) rfl rfl, by decide +kernel, by decide⟩
abbrev YX12_takesBack : mf_Y := (yX12_takesBack, cX12_takesBack, 2, none)
def LX12_takesBack : List (Nat × Instr × Nat) := [(0, .iconst 0, 1), (1, .istore_n 1, 1), (2, .iload_n 1, 1), (3, .bipush 39, 2), (5, .if_icmp .ge 21, 3), (8, .aload_n 0, 1), (9, .getfield 136, 3), (12, .iload_n 1, 1), (13, .aload_n 0, 1), (14, .getfield 139, 3), (17, .iload_n 1, 1), (18, .iaload, 1), (19, .iastore, 1), (20, .iinc 1 1, 3), (23, .goto (-21), 3), (26, .aload_n 0, 1), (27, .iconst 0, 1), (28, .putfield 442, 3), (31, .return_, 1)]
set_option maxRecDepth 100000 in
theorem eX12_takesBack : mf_dec cX12_takesBack LX12_takesBack = true := by decide +kernel
set_option maxRecDepth 100000 in
theorem okX12_takesBack : mf_ok YX12_takesBack 0 := ⟨mf_m8 (i := 152) rfl rfl, mf_m1 (i := 17) rfl rfl, by decide +kernel, by decide⟩
abbrev YX12_isAhead : mf_Y := (yX12_isAhead, cX12_isAhead, 4, (some .boolean))
def LX12_isAhead : List (Nat × Instr × Nat) := [(0, .aload_n 0, 1), (1, .getfield 389, 3), (4, .ifCond .eq 33, 3), (7, .iload_n 1, 1), (8, .i2l, 1), (9, .iload_n 2, 1), (10, .i2l, 1), (11, .iload_n 3, 1), (12, .i2l, 1), (13, .invokestatic 286, 3), (16, .ifCond .eq 21, 3), (19, .aload_n 0, 1), (20, .getfield 136, 3), (23, .iconst 0, 1), (24, .iaload, 1), (25, .iload_n 1, 1), (26, .iadd, 1), (27, .sipush 999, 3), (30, .if_icmp .gt 7, 3), (33, .iconst 1, 1), (34, .goto 4, 3), (37, .iconst 0, 1), (38, .ireturn, 1)]
set_option maxRecDepth 100000 in
theorem eX12_isAhead : mf_dec cX12_isAhead LX12_isAhead = true := by decide +kernel
set_option maxRecDepth 100000 in
theorem okX12_isAhead : mf_ok YX12_isAhead 3 := ⟨mf_m8 (i := 105) rfl rfl, mf_m1 (i := 17) rfl rfl, by decide +kernel, by decide⟩
abbrev YX12_bits : mf_Y := (yX12_bits, cX12_bits, 3, (some .int))
def LX12_bits : List (Nat × Instr × Nat) := [(0, .iconst 0, 1), (1, .istore_n 1, 1), (2, .iload_n 0, 1), (3, .istore_n 2, 1), (4, .iload_n 2, 1), (5, .ifCond .eq 15, 3), (8, .iinc 1 1, 3), (11, .iload_n 2, 1), (12, .iload_n 2, 1), (13, .iconst 1, 1), (14, .isub, 1), (15, .iand, 1), (16, .istore_n 2, 1), (17, .goto (-13), 3), (20, .iload_n 1, 1), (21, .ireturn, 1)]
set_option maxRecDepth 100000 in
theorem eX12_bits : mf_dec cX12_bits LX12_bits = true := by decide +kernel
set_option maxRecDepth 100000 in
theorem okX12_bits : mf_ok YX12_bits 1 := ⟨mf_m7 (i := 223) rfl rfl, mf_m1 (i := 17) rfl rfl, by decide +kernel, by decide⟩
abbrev YX12_glossMany : mf_Y := (yX12_glossMany, cX12_glossMany, 3, (some .int))
def LX12_glossMany : List (Nat × Instr × Nat) := [(0, .iconst 0, 1), (1, .istore_n 1, 1), (2, .iconst 0, 1), (3, .istore_n 2, 1), (4, .iload_n 2, 1), (5, .bipush 6, 2), (7, .if_icmp .ge 23, 3), (10, .iload_n 1, 1), (11, .aload_n 0, 1), (12, .getfield 136, 3), (15, .iconst 1, 1), (16, .iload_n 2, 1), (17, .iadd, 1), (18, .iaload, 1), (19, .invokestatic 493, 3), (22, .iadd, 1), (23, .istore_n 1, 1), (24, .iinc 2 1, 3), (27, .goto (-23), 3), (30, .iload_n 1, 1), (31, .ireturn, 1)]
set_option maxRecDepth 100000 in
theorem eX12_glossMany : mf_dec cX12_glossMany LX12_glossMany = true := by decide +kernel
set_option maxRecDepth 100000 in
theorem okX12_glossMany : mf_ok YX12_glossMany 0 := ⟨mf_m7 (i := 220) rfl rfl, mf_m1 (i := 17) rfl rfl, by decide +kernel, by decide⟩
abbrev YX12_pursesAll : mf_Y := (yX12_pursesAll, cX12_pursesAll, 3, (some .int))
def LX12_pursesAll : List (Nat × Instr × Nat) := [(0, .iconst 0, 1), (1, .istore_n 1, 1), (2, .iconst 0, 1), (3, .istore_n 2, 1), (4, .iload_n 2, 1), (5, .aload_n 0, 1), (6, .invokevirtual 402, 3), (9, .if_icmp .ge 17, 3), (12, .iload_n 1, 1), (13, .aload_n 0, 1), (14, .iload_n 2, 1), (15, .invokevirtual 445, 3), (18, .iadd, 1), (19, .istore_n 1, 1), (20, .iinc 2 1, 3), (23, .goto (-19), 3), (26, .iload_n 1, 1), (27, .ireturn, 1)]
set_option maxRecDepth 100000 in
theorem eX12_pursesAll : mf_dec cX12_pursesAll LX12_pursesAll = true := by decide +kernel
set_option maxRecDepth 100000 in
theorem okX12_pursesAll : mf_ok YX12_pursesAll 0 := ⟨mf_m8 (i := 38) rfl rfl, mf_m1 (i := 17) rfl rfl, by decide +kernel, by decide⟩
abbrev YX12_has : mf_Y := (yX12_has, cX12_has, 2, (some .int))
def LX12_has : List (Nat × Instr × Nat) := [(0, .iload_n 1, 1), (1, .tableswitch 126 0 10 #[59, 59, 68, 73, 80, 85, 92, 103, 108, 116, 121], 59), (60, .aload_n 0, 1), (61, .getfield 105, 3), (64, .iconst 2, 1), (65, .iload_n 1, 1), (66, .iadd, 1), (67, .iaload, 1), (68, .ireturn, 1), (69, .aload_n 0, 1), (70, .invokevirtual 496, 3), (73, .ireturn, 1), (74, .aload_n 0, 1), (75, .getfield 108, 3), (78, .iconst 4, 1), (79, .iaload, 1), (80, .ireturn, 1), (81, .aload_n 0, 1), (82, .invokevirtual 402, 3), (85, .ireturn, 1), (86, .aload_n 0, 1), (87, .getfield 136, 3), (90, .iconst 0, 1), (91, .iaload, 1), (92, .ireturn, 1), (93, .aload_n 0, 1), (94, .aload_n 0, 1), (95, .getfield 136, 3), (98, .iconst 0, 1), (99, .iaload, 1), (100, .invokevirtual 487, 3), (103, .ireturn, 1), (104, .aload_n 0, 1), (105, .invokevirtual 499, 3), (108, .ireturn, 1), (109, .aload_n 0, 1), (110, .getfield 136, 3), (113, .bipush 39, 2), (115, .iaload, 1), (116, .ireturn, 1), (117, .aload_n 0, 1), (118, .getfield 399, 3), (121, .ireturn, 1), (122, .aload_n 0, 1), (123, .getfield 396, 3), (126, .ireturn, 1), (127, .iconst (-1), 1), (128, .ireturn, 1)]
set_option maxRecDepth 100000 in
theorem eX12_has : mf_dec cX12_has LX12_has = true := by decide +kernel
set_option maxRecDepth 100000 in
theorem okX12_has : mf_ok YX12_has 1 := ⟨mf_m7 (i := 216) rfl rfl, mf_m1 (i := 17) rfl rfl, by decide +kernel, by decide⟩
abbrev YX12_letter : mf_Y := (yX12_letter, cX12_letter, 8, (some .int))
def LX12_letter : List (Nat × Instr × Nat) := [(0, .aload_n 0, 1), (1, .iload_n 1, 1), (2, .invokevirtual 502, 3), (5, .ifCond .eq 15, 3), (8, .iload_n 2, 1), (9, .i2l, 1), (10, .lconst 0, 1), (11, .ldc2_w 505, 3), (14, .invokestatic 286, 3), (17, .ifCond .ne 5, 3), (20, .iconst (-1), 1), (21, .ireturn, 1), (22, .aload_n 0, 1), (23, .getfield 111, 3), (26, .bipush 8, 2), (28, .iload_n 1, 1), (29, .iadd, 1), (30, .laload, 1), (31, .lstore_n 3, 1), (32, .iconst 0, 1), (33, .istore 5, 2), (35, .lload_n 3, 1), (36, .lstore 6, 2), (38, .lload 6, 2), (40, .lconst 0, 1), (41, .lcmp, 1), (42, .ifCond .le 17, 3), (45, .iinc 5 1, 3), (48, .lload 6, 2), (50, .ldc2_w 297, 3), (53, .ldiv, 1), (54, .lstore 6, 2), (56, .goto (-18), 3), (59, .iload_n 2, 1), (60, .iload 5, 2), (62, .if_icmp .lt 5, 3), (65, .iconst 0, 1), (66, .ireturn, 1), (67, .iload 5, 2), (69, .iconst 1, 1), (70, .isub, 1), (71, .istore 6, 2), (73, .iload 6, 2), (75, .iload_n 2, 1), (76, .if_icmp .le 15, 3), (79, .lload_n 3, 1), (80, .ldc2_w 297, 3), (83, .ldiv, 1), (84, .lstore_n 3, 1), (85, .iinc 6 (-1), 3), (88, .goto (-15), 3), (91, .lload_n 3, 1), (92, .ldc2_w 297, 3), (95, .lrem, 1), (96, .l2i, 1), (97, .ireturn, 1)]
set_option maxRecDepth 100000 in
theorem eX12_letter : mf_dec cX12_letter LX12_letter = true := by decide +kernel
set_option maxRecDepth 100000 in
theorem okX12_letter : mf_ok YX12_letter 2 := ⟨mf_m8 (i := 42) rfl rfl, mf_m1 (i := 17) rfl rfl, by decide +kernel, by decide⟩
abbrev YX12_being : mf_Y := (yX12_being, cX12_being, 3, (some .int))
def LX12_being : List (Nat × Instr × Nat) := [(0, .aload_n 0, 1), (1, .iload_n 1, 1), (2, .invokevirtual 502, 3), (5, .ifCond .ne 5, 3), (8, .iconst (-1), 1), (9, .ireturn, 1), (10, .iload_n 2, 1), (11, .tableswitch 106 0 5 #[37, 43, 49, 59, 65, 79], 37), (48, .aload_n 0, 1), (49, .iload_n 1, 1), (50, .invokevirtual 410, 3), (53, .ireturn, 1), (54, .aload_n 0, 1), (55, .iload_n 1, 1), (56, .invokevirtual 413, 3), (59, .ireturn, 1), (60, .aload_n 0, 1), (61, .getfield 124, 3), (64, .bipush 8, 2), (66, .iload_n 1, 1), (67, .iadd, 1), (68, .iaload, 1), (69, .ireturn, 1), (70, .aload_n 0, 1), (71, .iload_n 1, 1), (72, .invokevirtual 445, 3), (75, .ireturn, 1), (76, .aload_n 0, 1), (77, .getfield 136, 3), (80, .bipush 7, 2), (82, .iconst 4, 1), (83, .iload_n 1, 1), (84, .imul, 1), (85, .iadd, 1), (86, .iconst 3, 1), (87, .iadd, 1), (88, .iaload, 1), (89, .ireturn, 1), (90, .aload_n 0, 1), (91, .iload_n 1, 1), (92, .invokevirtual 410, 3), (95, .aload_n 0, 1), (96, .aload_n 0, 1), (97, .getfield 136, 3), (100, .iconst 0, 1), (101, .iaload, 1), (102, .invokevirtual 487, 3), (105, .invokestatic 416, 3), (108, .ifCond .eq 7, 3), (111, .iconst 1, 1), (112, .goto 4, 3), (115, .iconst 0, 1), (116, .ireturn, 1), (117, .iconst (-1), 1), (118, .ireturn, 1)]
set_option maxRecDepth 100000 in
theorem eX12_being : mf_dec cX12_being LX12_being = true := by decide +kernel
set_option maxRecDepth 100000 in
theorem okX12_being : mf_ok YX12_being 2 := ⟨mf_m8 (i := 51) rfl rfl, mf_m1 (i := 17) rfl rfl, by decide +kernel, by decide⟩
abbrev YX12_cell : mf_Y := (yX12_cell, cX12_cell, 6, (some .int))
def LX12_cell_p0 : List (Nat × Instr × Nat) := [(0, .aload_n 0, 1), (1, .iload_n 1, 1), (2, .iload_n 2, 1), (3, .invokevirtual 507, 3), (6, .ifCond .ne 5, 3), (9, .iconst (-1), 1), (10, .ireturn, 1), (11, .aload_n 0, 1), (12, .aload_n 0, 1), (13, .getfield 136, 3), (16, .iconst 0, 1), (17, .iaload, 1), (18, .invokevirtual 487, 3), (21, .istore 4, 2), (23, .aload_n 0, 1), (24, .iload_n 1, 1), (25, .iconst 1, 1), (26, .isub, 1), (27, .iload 4, 2), (29, .invokevirtual 419, 3), (32, .ifCond .eq 9, 3), (35, .iload_n 1, 1), (36, .iconst 1, 1), (37, .isub, 1), (38, .goto 20, 3), (41, .aload_n 0, 1), (42, .iload_n 1, 1), (43, .iload 4, 2), (45, .invokevirtual 419, 3), (48, .ifCond .eq 9, 3), (51, .iload_n 1, 1), (52, .iconst 1, 1), (53, .iadd, 1), (54, .goto 4, 3), (57, .iconst (-1), 1), (58, .istore 5, 2), (60, .iload_n 3, 1), (61, .tableswitch 77 0 3 #[31, 46, 53, 56], 31), (92, .aload_n 0, 1), (93, .iload_n 1, 1), (94, .iload_n 2, 1), (95, .invokevirtual 481, 3), (98, .ifCond .eq 7, 3), (101, .iconst 1, 1), (102, .goto 4, 3), (105, .iconst 0, 1), (106, .ireturn, 1), (107, .aload_n 0, 1), (108, .iload_n 1, 1), (109, .iload_n 2, 1), (110, .invokevirtual 484, 3), (113, .ireturn, 1), (114, .iload 5, 2), (116, .ireturn, 1), (117, .iload 5, 2), (119, .iconst (-1), 1), (120, .if_icmp .ne 7, 3), (123, .iconst (-1), 1), (124, .goto 13, 3), (127, .aload_n 0, 1)]
set_option maxRecDepth 100000 in
theorem eX12_cell_p0 : mf_dec cX12_cell LX12_cell_p0 = true := by decide +kernel
def LX12_cell_p1 : List (Nat × Instr × Nat) := [(128, .getfield 105, 3), (131, .iconst 3, 1), (132, .iaload, 1), (133, .iconst 1, 1), (134, .isub, 1), (135, .iload_n 2, 1), (136, .isub, 1), (137, .ireturn, 1), (138, .iconst (-1), 1), (139, .ireturn, 1)]
set_option maxRecDepth 100000 in
theorem eX12_cell_p1 : mf_dec cX12_cell LX12_cell_p1 = true := by decide +kernel
set_option maxRecDepth 100000 in
theorem okX12_cell : mf_ok YX12_cell 3 := ⟨mf_m8 (i := 55) rfl rfl, mf_m1 (i := 17) rfl rfl, by decide +kernel, by decide⟩
abbrev YX12_kept : mf_Y := (yX12_kept, cX12_kept, 3, (some .int))
def LX12_kept : List (Nat × Instr × Nat) := [(0, .iload_n 1, 1), (1, .i2l, 1), (2, .lconst 0, 1), (3, .aload_n 0, 1), (4, .getfield 136, 3), (7, .bipush 39, 2), (9, .iaload, 1), (10, .iconst 1, 1), (11, .isub, 1), (12, .i2l, 1), (13, .invokestatic 286, 3), (16, .ifCond .eq 31, 3), (19, .iload_n 2, 1), (20, .i2l, 1), (21, .lconst 0, 1), (22, .ldc2_w 510, 3), (25, .invokestatic 286, 3), (28, .ifCond .eq 19, 3), (31, .aload_n 0, 1), (32, .getfield 136, 3), (35, .bipush 40, 2), (37, .iconst 3, 1), (38, .iload_n 1, 1), (39, .imul, 1), (40, .iadd, 1), (41, .iload_n 2, 1), (42, .iadd, 1), (43, .iaload, 1), (44, .goto 4, 3), (47, .iconst (-1), 1), (48, .ireturn, 1)]
set_option maxRecDepth 100000 in
theorem eX12_kept : mf_dec cX12_kept LX12_kept = true := by decide +kernel
set_option maxRecDepth 100000 in
theorem okX12_kept : mf_ok YX12_kept 2 := ⟨mf_m8 (i := 75) rfl rfl, mf_m1 (i := 17) rfl rfl, by decide +kernel, by decide⟩
abbrev YX12_meets : mf_Y := (yX12_meets, cX12_meets, 3, (some .int))
def LX12_meets : List (Nat × Instr × Nat) := [(0, .aload_n 0, 1), (1, .iload_n 1, 1), (2, .invokevirtual 502, 3), (5, .ifCond .eq 16, 3), (8, .aload_n 0, 1), (9, .iload_n 2, 1), (10, .invokevirtual 502, 3), (13, .ifCond .eq 8, 3), (16, .iload_n 1, 1), (17, .iload_n 2, 1), (18, .if_icmp .ne 5, 3), (21, .iconst (-1), 1), (22, .ireturn, 1), (23, .aload_n 0, 1), (24, .iload_n 1, 1), (25, .iload_n 2, 1), (26, .aload_n 0, 1), (27, .aload_n 0, 1), (28, .getfield 136, 3), (31, .iconst 0, 1), (32, .iaload, 1), (33, .invokevirtual 487, 3), (36, .invokevirtual 471, 3), (39, .ifCond .eq 7, 3), (42, .iconst 1, 1), (43, .goto 4, 3), (46, .iconst 0, 1), (47, .ireturn, 1)]
set_option maxRecDepth 100000 in
theorem eX12_meets : mf_dec cX12_meets LX12_meets = true := by decide +kernel
set_option maxRecDepth 100000 in
theorem okX12_meets : mf_ok YX12_meets 2 := ⟨mf_m8 (i := 80) rfl rfl, mf_m1 (i := 17) rfl rfl, by decide +kernel, by decide⟩
abbrev YX12_pairsBy : mf_Y := (yX12_pairsBy, cX12_pairsBy, 5, (some .int))
def LX12_pairsBy : List (Nat × Instr × Nat) := [(0, .iconst 0, 1), (1, .istore_n 2, 1), (2, .iconst 0, 1), (3, .istore_n 3, 1), (4, .iload_n 3, 1), (5, .aload_n 0, 1), (6, .invokevirtual 402, 3), (9, .if_icmp .ge 43, 3), (12, .iload_n 3, 1), (13, .iconst 1, 1), (14, .iadd, 1), (15, .istore 4, 2), (17, .iload 4, 2), (19, .aload_n 0, 1), (20, .invokevirtual 402, 3), (23, .if_icmp .ge 23, 3), (26, .aload_n 0, 1), (27, .iload_n 3, 1), (28, .iload 4, 2), (30, .iload_n 1, 1), (31, .invokevirtual 471, 3), (34, .ifCond .eq 6, 3), (37, .iinc 2 1, 3), (40, .iinc 4 1, 3), (43, .goto (-26), 3), (46, .iinc 3 1, 3), (49, .goto (-45), 3), (52, .iload_n 2, 1), (53, .ireturn, 1)]
set_option maxRecDepth 100000 in
theorem eX12_pairsBy : mf_dec cX12_pairsBy LX12_pairsBy = true := by decide +kernel
