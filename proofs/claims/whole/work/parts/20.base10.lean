set_option maxRecDepth 100000 in
theorem okX12_end : mf_ok YX12_end 1 := ⟨mf_m7 (i := 27) rfl rfl, mf_m1 (i := 17) rfl rfl, by decide +kernel, by decide⟩
abbrev YX12_fail : mf_Y := (yX12_fail, cX12_fail, 3, none)
def LX12_fail : List (Nat × Instr × Nat) := [(0, .aload_n 0, 1), (1, .getfield 243, 3), (4, .ifCond .eq 4, 3), (7, .return_, 1), (8, .aload_n 0, 1), (9, .iload_n 1, 1), (10, .putfield 243, 3), (13, .aload_n 0, 1), (14, .iload_n 2, 1), (15, .putfield 246, 3), (18, .return_, 1)]
set_option maxRecDepth 100000 in
theorem eX12_fail : mf_dec cX12_fail LX12_fail = true := by decide +kernel
set_option maxRecDepth 100000 in
theorem okX12_fail : mf_ok YX12_fail 2 := ⟨mf_m7 (i := 58) rfl rfl, mf_m1 (i := 17) rfl rfl, by decide +kernel, by decide⟩
abbrev YX12_isLetter : mf_Y := (yX12_isLetter, cX12_isLetter, 1, (some .boolean))
def LX12_isLetter : List (Nat × Instr × Nat) := [(0, .iload_n 0, 1), (1, .bipush 97, 2), (3, .if_icmp .lt 13, 3), (6, .iload_n 0, 1), (7, .bipush 122, 2), (9, .if_icmp .gt 7, 3), (12, .iconst 1, 1), (13, .goto 4, 3), (16, .iconst 0, 1), (17, .ireturn, 1)]
set_option maxRecDepth 100000 in
theorem eX12_isLetter : mf_dec cX12_isLetter LX12_isLetter = true := by decide +kernel
set_option maxRecDepth 100000 in
theorem okX12_isLetter : mf_ok YX12_isLetter 1 := ⟨mf_m7 (i := 54) rfl rfl, mf_m1 (i := 17) rfl rfl, by decide +kernel, by decide⟩
abbrev YX12_isDigit : mf_Y := (yX12_isDigit, cX12_isDigit, 1, (some .boolean))
def LX12_isDigit : List (Nat × Instr × Nat) := [(0, .iload_n 0, 1), (1, .bipush 48, 2), (3, .if_icmp .lt 13, 3), (6, .iload_n 0, 1), (7, .bipush 57, 2), (9, .if_icmp .gt 7, 3), (12, .iconst 1, 1), (13, .goto 4, 3), (16, .iconst 0, 1), (17, .ireturn, 1)]
set_option maxRecDepth 100000 in
theorem eX12_isDigit : mf_dec cX12_isDigit LX12_isDigit = true := by decide +kernel
set_option maxRecDepth 100000 in
theorem okX12_isDigit : mf_ok YX12_isDigit 1 := ⟨mf_m7 (i := 65) rfl rfl, mf_m1 (i := 17) rfl rfl, by decide +kernel, by decide⟩
abbrev YX12_look : mf_Y := (yX12_look, cX12_look, 1, (some .int))
def LX12_look : List (Nat × Instr × Nat) := [(0, .aload_n 0, 1), (1, .getfield 249, 3), (4, .aload_n 0, 1), (5, .getfield 252, 3), (8, .if_icmp .ge 44, 3), (11, .aload_n 0, 1), (12, .getfield 7, 3), (15, .aload_n 0, 1), (16, .getfield 249, 3), (19, .iaload, 1), (20, .bipush 10, 2), (22, .if_icmp .eq 17, 3), (25, .aload_n 0, 1), (26, .getfield 7, 3), (29, .aload_n 0, 1), (30, .getfield 249, 3), (33, .iaload, 1), (34, .bipush 32, 2), (36, .if_icmp .ne 16, 3), (39, .aload_n 0, 1), (40, .dup, 1), (41, .getfield 249, 3), (44, .iconst 1, 1), (45, .iadd, 1), (46, .putfield 249, 3), (49, .goto (-49), 3), (52, .aload_n 0, 1), (53, .getfield 249, 3), (56, .aload_n 0, 1), (57, .getfield 252, 3), (60, .if_icmp .ge 15, 3), (63, .aload_n 0, 1), (64, .getfield 7, 3), (67, .aload_n 0, 1), (68, .getfield 249, 3), (71, .iaload, 1), (72, .goto 4, 3), (75, .iconst (-1), 1), (76, .ireturn, 1)]
set_option maxRecDepth 100000 in
theorem eX12_look : mf_dec cX12_look LX12_look = true := by decide +kernel
set_option maxRecDepth 100000 in
theorem okX12_look : mf_ok YX12_look 0 := ⟨mf_m7 (i := 51) rfl rfl, mf_m1 (i := 17) rfl rfl, by decide +kernel, by decide⟩
abbrev YX12_isHere : mf_Y := (yX12_isHere, cX12_isHere, 4, (some .boolean))
def LX12_isHere_p0 : List (Nat × Instr × Nat) := [(0, .aload_n 0, 1), (1, .getfield 243, 3), (4, .ifCond .ne 24, 3), (7, .aload_n 0, 1), (8, .invokevirtual 255, 3), (11, .invokestatic 259, 3), (14, .ifCond .eq 14, 3), (17, .aload_n 0, 1), (18, .getfield 249, 3), (21, .aload_n 0, 1), (22, .getfield 263, 3), (25, .if_icmp .ne 5, 3), (28, .iconst 0, 1), (29, .ireturn, 1), (30, .aload_n 0, 1), (31, .getfield 249, 3), (34, .istore_n 2, 1), (35, .iload_n 2, 1), (36, .aload_n 0, 1), (37, .getfield 252, 3), (40, .if_icmp .ge 21, 3), (43, .aload_n 0, 1), (44, .getfield 7, 3), (47, .iload_n 2, 1), (48, .iaload, 1), (49, .invokestatic 259, 3), (52, .ifCond .eq 9, 3), (55, .iinc 2 1, 3), (58, .goto (-23), 3), (61, .iload_n 2, 1), (62, .aload_n 0, 1), (63, .getfield 249, 3), (66, .isub, 1), (67, .aload_n 1, 1), (68, .arraylength, 1), (69, .if_icmp .eq 5, 3), (72, .iconst 0, 1), (73, .ireturn, 1), (74, .iconst 0, 1), (75, .istore_n 3, 1), (76, .iload_n 3, 1), (77, .aload_n 1, 1), (78, .arraylength, 1), (79, .if_icmp .ge 28, 3), (82, .aload_n 0, 1), (83, .getfield 7, 3), (86, .aload_n 0, 1), (87, .getfield 249, 3), (90, .iload_n 3, 1), (91, .iadd, 1), (92, .iaload, 1), (93, .aload_n 1, 1), (94, .iload_n 3, 1), (95, .caload, 1), (96, .if_icmp .eq 5, 3), (99, .iconst 0, 1), (100, .ireturn, 1), (101, .iinc 3 1, 3), (104, .goto (-28), 3), (107, .iconst 1, 1)]
set_option maxRecDepth 100000 in
theorem eX12_isHere_p0 : mf_dec cX12_isHere LX12_isHere_p0 = true := by decide +kernel
def LX12_isHere_p1 : List (Nat × Instr × Nat) := [(108, .ireturn, 1)]
set_option maxRecDepth 100000 in
theorem eX12_isHere_p1 : mf_dec cX12_isHere LX12_isHere_p1 = true := by decide +kernel
set_option maxRecDepth 100000 in
theorem okX12_isHere : mf_ok YX12_isHere 1 := ⟨mf_m7 (i := 47) rfl rfl, mf_m1 (i := 17) rfl rfl, by decide +kernel, by decide⟩
abbrev YX12_takes : mf_Y := (yX12_takes, cX12_takes, 2, (some .boolean))
def LX12_takes : List (Nat × Instr × Nat) := [(0, .aload_n 0, 1), (1, .aload_n 1, 1), (2, .invokevirtual 266, 3), (5, .ifCond .ne 5, 3), (8, .iconst 0, 1), (9, .ireturn, 1), (10, .aload_n 0, 1), (11, .dup, 1), (12, .getfield 249, 3), (15, .aload_n 1, 1), (16, .arraylength, 1), (17, .iadd, 1), (18, .putfield 249, 3), (21, .aload_n 0, 1), (22, .aload_n 0, 1), (23, .getfield 249, 3), (26, .putfield 263, 3), (29, .iconst 1, 1), (30, .ireturn, 1)]
set_option maxRecDepth 100000 in
theorem eX12_takes : mf_dec cX12_takes LX12_takes = true := by decide +kernel
set_option maxRecDepth 100000 in
theorem okX12_takes : mf_ok YX12_takes 1 := ⟨mf_m7 (i := 43) rfl rfl, mf_m1 (i := 17) rfl rfl, by decide +kernel, by decide⟩
abbrev YX12_asks : mf_Y := (yX12_asks, cX12_asks, 2, none)
def LX12_asks : List (Nat × Instr × Nat) := [(0, .aload_n 0, 1), (1, .getfield 243, 3), (4, .ifCond .ne 20, 3), (7, .aload_n 0, 1), (8, .aload_n 1, 1), (9, .invokevirtual 270, 3), (12, .ifCond .ne 12, 3), (15, .aload_n 0, 1), (16, .iconst 1, 1), (17, .aload_n 0, 1), (18, .getfield 249, 3), (21, .invokevirtual 273, 3), (24, .return_, 1)]
set_option maxRecDepth 100000 in
theorem eX12_asks : mf_dec cX12_asks LX12_asks = true := by decide +kernel
set_option maxRecDepth 100000 in
theorem okX12_asks : mf_ok YX12_asks 1 := ⟨mf_m7 (i := 39) rfl rfl, mf_m1 (i := 17) rfl rfl, by decide +kernel, by decide⟩
abbrev YX12_takesSign : mf_Y := (yX12_takesSign, cX12_takesSign, 2, (some .boolean))
def LX12_takesSign : List (Nat × Instr × Nat) := [(0, .aload_n 0, 1), (1, .getfield 243, 3), (4, .ifCond .ne 11, 3), (7, .aload_n 0, 1), (8, .invokevirtual 255, 3), (11, .iload_n 1, 1), (12, .if_icmp .eq 5, 3), (15, .iconst 0, 1), (16, .ireturn, 1), (17, .aload_n 0, 1), (18, .dup, 1), (19, .getfield 249, 3), (22, .iconst 1, 1), (23, .iadd, 1), (24, .putfield 249, 3), (27, .iconst 1, 1), (28, .ireturn, 1)]
set_option maxRecDepth 100000 in
theorem eX12_takesSign : mf_dec cX12_takesSign LX12_takesSign = true := by decide +kernel
set_option maxRecDepth 100000 in
theorem okX12_takesSign : mf_ok YX12_takesSign 1 := ⟨mf_m7 (i := 76) rfl rfl, mf_m1 (i := 17) rfl rfl, by decide +kernel, by decide⟩
abbrev YX12_asksSign : mf_Y := (yX12_asksSign, cX12_asksSign, 2, none)
def LX12_asksSign : List (Nat × Instr × Nat) := [(0, .aload_n 0, 1), (1, .getfield 243, 3), (4, .ifCond .ne 20, 3), (7, .aload_n 0, 1), (8, .iload_n 1, 1), (9, .invokevirtual 277, 3), (12, .ifCond .ne 12, 3), (15, .aload_n 0, 1), (16, .iconst 1, 1), (17, .aload_n 0, 1), (18, .getfield 249, 3), (21, .invokevirtual 273, 3), (24, .return_, 1)]
set_option maxRecDepth 100000 in
theorem eX12_asksSign : mf_dec cX12_asksSign LX12_asksSign = true := by decide +kernel
set_option maxRecDepth 100000 in
theorem okX12_asksSign : mf_ok YX12_asksSign 1 := ⟨mf_m7 (i := 72) rfl rfl, mf_m1 (i := 17) rfl rfl, by decide +kernel, by decide⟩
abbrev YX12_number : mf_Y := (yX12_number, cX12_number, 5, (some .int))
def LX12_number_p0 : List (Nat × Instr × Nat) := [(0, .aload_n 0, 1), (1, .getfield 243, 3), (4, .ifCond .eq 5, 3), (7, .iconst 0, 1), (8, .ireturn, 1), (9, .aload_n 0, 1), (10, .invokevirtual 255, 3), (13, .invokestatic 280, 3), (16, .ifCond .eq 14, 3), (19, .aload_n 0, 1), (20, .getfield 249, 3), (23, .aload_n 0, 1), (24, .getfield 263, 3), (27, .if_icmp .ne 14, 3), (30, .aload_n 0, 1), (31, .iconst 1, 1), (32, .aload_n 0, 1), (33, .getfield 249, 3), (36, .invokevirtual 273, 3), (39, .iconst 0, 1), (40, .ireturn, 1), (41, .aload_n 0, 1), (42, .getfield 249, 3), (45, .istore_n 3, 1), (46, .iconst 0, 1), (47, .istore 4, 2), (49, .aload_n 0, 1), (50, .getfield 249, 3), (53, .aload_n 0, 1), (54, .getfield 252, 3), (57, .if_icmp .ge 72, 3), (60, .aload_n 0, 1), (61, .getfield 7, 3), (64, .aload_n 0, 1), (65, .getfield 249, 3), (68, .iaload, 1), (69, .invokestatic 280, 3), (72, .ifCond .eq 57, 3), (75, .aload_n 0, 1), (76, .getfield 249, 3), (79, .iload_n 3, 1), (80, .isub, 1), (81, .iconst 4, 1), (82, .if_icmp .ne 14, 3), (85, .aload_n 0, 1), (86, .iconst 1, 1), (87, .aload_n 0, 1), (88, .getfield 249, 3), (91, .invokevirtual 273, 3), (94, .iconst 0, 1), (95, .ireturn, 1), (96, .bipush 10, 2), (98, .iload 4, 2), (100, .imul, 1), (101, .aload_n 0, 1), (102, .getfield 7, 3), (105, .aload_n 0, 1), (106, .getfield 249, 3), (109, .iaload, 1), (110, .iadd, 1)]
set_option maxRecDepth 100000 in
theorem eX12_number_p0 : mf_dec cX12_number LX12_number_p0 = true := by decide +kernel
def LX12_number_p1 : List (Nat × Instr × Nat) := [(111, .bipush 48, 2), (113, .isub, 1), (114, .istore 4, 2), (116, .aload_n 0, 1), (117, .dup, 1), (118, .getfield 249, 3), (121, .iconst 1, 1), (122, .iadd, 1), (123, .putfield 249, 3), (126, .goto (-77), 3), (129, .aload_n 0, 1), (130, .aload_n 0, 1), (131, .getfield 249, 3), (134, .putfield 263, 3), (137, .aload_n 0, 1), (138, .iload_n 3, 1), (139, .putfield 283, 3), (142, .iload 4, 2), (144, .i2l, 1), (145, .iload_n 1, 1), (146, .i2l, 1), (147, .iload_n 2, 1), (148, .i2l, 1), (149, .invokestatic 286, 3), (152, .ifCond .ne 9, 3), (155, .aload_n 0, 1), (156, .iconst 2, 1), (157, .iload_n 3, 1), (158, .invokevirtual 273, 3), (161, .iload 4, 2), (163, .ireturn, 1)]
set_option maxRecDepth 100000 in
theorem eX12_number_p1 : mf_dec cX12_number LX12_number_p1 = true := by decide +kernel
set_option maxRecDepth 100000 in
theorem okX12_number : mf_ok YX12_number 2 := ⟨mf_m7 (i := 62) rfl rfl, mf_m1 (i := 17) rfl rfl, by decide +kernel, by decide⟩
abbrev YX12_isOwnHere : mf_Y := (yX12_isOwnHere, cX12_isOwnHere, 2, (some .boolean))
def LX12_isOwnHere_p0 : List (Nat × Instr × Nat) := [(0, .aload_n 0, 1), (1, .aload_n 0, 1), (2, .getfield 20, 3), (5, .invokevirtual 266, 3), (8, .ifCond .ne 58, 3), (11, .aload_n 0, 1), (12, .aload_n 0, 1), (13, .getfield 24, 3), (16, .invokevirtual 266, 3), (19, .ifCond .ne 47, 3), (22, .aload_n 0, 1), (23, .aload_n 0, 1), (24, .getfield 27, 3), (27, .invokevirtual 266, 3), (30, .ifCond .ne 36, 3), (33, .aload_n 0, 1), (34, .aload_n 0, 1), (35, .getfield 30, 3), (38, .invokevirtual 266, 3), (41, .ifCond .ne 25, 3), (44, .aload_n 0, 1), (45, .aload_n 0, 1), (46, .getfield 33, 3), (49, .invokevirtual 266, 3), (52, .ifCond .ne 14, 3), (55, .aload_n 0, 1), (56, .aload_n 0, 1), (57, .getfield 36, 3), (60, .invokevirtual 266, 3), (63, .ifCond .eq 7, 3), (66, .iconst 1, 1), (67, .goto 4, 3), (70, .iconst 0, 1), (71, .istore_n 1, 1), (72, .iload_n 1, 1), (73, .ifCond .ne 69, 3), (76, .aload_n 0, 1), (77, .aload_n 0, 1), (78, .getfield 39, 3), (81, .invokevirtual 266, 3), (84, .ifCond .ne 58, 3), (87, .aload_n 0, 1), (88, .aload_n 0, 1), (89, .getfield 42, 3), (92, .invokevirtual 266, 3), (95, .ifCond .ne 47, 3), (98, .aload_n 0, 1), (99, .aload_n 0, 1), (100, .getfield 45, 3), (103, .invokevirtual 266, 3), (106, .ifCond .ne 36, 3), (109, .aload_n 0, 1), (110, .aload_n 0, 1), (111, .getfield 48, 3), (114, .invokevirtual 266, 3), (117, .ifCond .ne 25, 3), (120, .aload_n 0, 1), (121, .aload_n 0, 1), (122, .getfield 51, 3), (125, .invokevirtual 266, 3)]
set_option maxRecDepth 100000 in
theorem eX12_isOwnHere_p0 : mf_dec cX12_isOwnHere LX12_isOwnHere_p0 = true := by decide +kernel
def LX12_isOwnHere_p1 : List (Nat × Instr × Nat) := [(128, .ifCond .ne 14, 3), (131, .aload_n 0, 1), (132, .aload_n 0, 1), (133, .getfield 54, 3), (136, .invokevirtual 266, 3), (139, .ifCond .eq 7, 3), (142, .iconst 1, 1), (143, .goto 4, 3), (146, .iconst 0, 1), (147, .istore_n 1, 1), (148, .iload_n 1, 1), (149, .ifCond .ne 69, 3), (152, .aload_n 0, 1), (153, .aload_n 0, 1), (154, .getfield 57, 3), (157, .invokevirtual 266, 3), (160, .ifCond .ne 58, 3), (163, .aload_n 0, 1), (164, .aload_n 0, 1), (165, .getfield 60, 3), (168, .invokevirtual 266, 3), (171, .ifCond .ne 47, 3), (174, .aload_n 0, 1), (175, .aload_n 0, 1), (176, .getfield 63, 3), (179, .invokevirtual 266, 3), (182, .ifCond .ne 36, 3), (185, .aload_n 0, 1), (186, .aload_n 0, 1), (187, .getfield 66, 3), (190, .invokevirtual 266, 3), (193, .ifCond .ne 25, 3), (196, .aload_n 0, 1), (197, .aload_n 0, 1), (198, .getfield 69, 3), (201, .invokevirtual 266, 3), (204, .ifCond .ne 14, 3), (207, .aload_n 0, 1), (208, .aload_n 0, 1), (209, .getfield 72, 3), (212, .invokevirtual 266, 3), (215, .ifCond .eq 7, 3), (218, .iconst 1, 1), (219, .goto 4, 3), (222, .iconst 0, 1), (223, .istore_n 1, 1), (224, .iload_n 1, 1), (225, .ifCond .ne 69, 3), (228, .aload_n 0, 1), (229, .aload_n 0, 1), (230, .getfield 75, 3), (233, .invokevirtual 266, 3), (236, .ifCond .ne 58, 3), (239, .aload_n 0, 1), (240, .aload_n 0, 1), (241, .getfield 78, 3), (244, .invokevirtual 266, 3), (247, .ifCond .ne 47, 3), (250, .aload_n 0, 1), (251, .aload_n 0, 1)]
set_option maxRecDepth 100000 in
theorem eX12_isOwnHere_p1 : mf_dec cX12_isOwnHere LX12_isOwnHere_p1 = true := by decide +kernel
def LX12_isOwnHere_p2 : List (Nat × Instr × Nat) := [(252, .getfield 81, 3), (255, .invokevirtual 266, 3), (258, .ifCond .ne 36, 3), (261, .aload_n 0, 1), (262, .aload_n 0, 1), (263, .getfield 84, 3), (266, .invokevirtual 266, 3), (269, .ifCond .ne 25, 3), (272, .aload_n 0, 1), (273, .aload_n 0, 1), (274, .getfield 87, 3), (277, .invokevirtual 266, 3), (280, .ifCond .ne 14, 3), (283, .aload_n 0, 1), (284, .aload_n 0, 1), (285, .getfield 90, 3), (288, .invokevirtual 266, 3), (291, .ifCond .eq 7, 3), (294, .iconst 1, 1), (295, .goto 4, 3), (298, .iconst 0, 1), (299, .istore_n 1, 1), (300, .iload_n 1, 1), (301, .ifCond .ne 47, 3), (304, .aload_n 0, 1), (305, .aload_n 0, 1), (306, .getfield 93, 3), (309, .invokevirtual 266, 3), (312, .ifCond .ne 36, 3), (315, .aload_n 0, 1), (316, .aload_n 0, 1), (317, .getfield 96, 3), (320, .invokevirtual 266, 3), (323, .ifCond .ne 25, 3), (326, .aload_n 0, 1), (327, .aload_n 0, 1), (328, .getfield 99, 3), (331, .invokevirtual 266, 3), (334, .ifCond .ne 14, 3), (337, .aload_n 0, 1), (338, .aload_n 0, 1), (339, .getfield 102, 3), (342, .invokevirtual 266, 3), (345, .ifCond .eq 7, 3), (348, .iconst 1, 1), (349, .goto 4, 3), (352, .iconst 0, 1), (353, .istore_n 1, 1), (354, .iload_n 1, 1), (355, .ireturn, 1)]
set_option maxRecDepth 100000 in
theorem eX12_isOwnHere_p2 : mf_dec cX12_isOwnHere LX12_isOwnHere_p2 = true := by decide +kernel
set_option maxRecDepth 100000 in
theorem okX12_isOwnHere : mf_ok YX12_isOwnHere 0 := ⟨mf_m7 (i := 116) rfl rfl, mf_m1 (i := 17) rfl rfl, by decide +kernel, by decide⟩
abbrev YX12_name : mf_Y := (yX12_name, cX12_name, 3, (some .long))
def LX12_name_p0 : List (Nat × Instr × Nat) := [(0, .aload_n 0, 1), (1, .getfield 243, 3), (4, .ifCond .eq 5, 3), (7, .lconst 0, 1), (8, .lreturn, 1), (9, .aload_n 0, 1), (10, .invokevirtual 255, 3), (13, .invokestatic 259, 3), (16, .ifCond .eq 21, 3), (19, .aload_n 0, 1), (20, .getfield 249, 3), (23, .aload_n 0, 1), (24, .getfield 263, 3), (27, .if_icmp .eq 10, 3), (30, .aload_n 0, 1), (31, .invokevirtual 290, 3), (34, .ifCond .eq 14, 3), (37, .aload_n 0, 1), (38, .iconst 1, 1), (39, .aload_n 0, 1), (40, .getfield 249, 3), (43, .invokevirtual 273, 3), (46, .lconst 0, 1), (47, .lreturn, 1), (48, .aload_n 0, 1), (49, .aload_n 0, 1), (50, .getfield 249, 3), (53, .putfield 294, 3), (56, .lconst 0, 1), (57, .lstore_n 1, 1), (58, .aload_n 0, 1), (59, .getfield 249, 3), (62, .aload_n 0, 1), (63, .getfield 252, 3), (66, .if_icmp .ge 79, 3), (69, .aload_n 0, 1), (70, .getfield 7, 3), (73, .aload_n 0, 1), (74, .getfield 249, 3), (77, .iaload, 1), (78, .invokestatic 259, 3), (81, .ifCond .eq 64, 3), (84, .aload_n 0, 1), (85, .getfield 249, 3), (88, .aload_n 0, 1), (89, .getfield 294, 3), (92, .isub, 1), (93, .bipush 6, 2), (95, .if_icmp .ne 14, 3), (98, .aload_n 0, 1), (99, .iconst 1, 1), (100, .aload_n 0, 1), (101, .getfield 249, 3), (104, .invokevirtual 273, 3), (107, .lconst 0, 1), (108, .lreturn, 1), (109, .ldc2_w 297, 3), (112, .lload_n 1, 1), (113, .lmul, 1), (114, .aload_n 0, 1)]
set_option maxRecDepth 100000 in
theorem eX12_name_p0 : mf_dec cX12_name LX12_name_p0 = true := by decide +kernel
def LX12_name_p1 : List (Nat × Instr × Nat) := [(115, .getfield 7, 3), (118, .aload_n 0, 1), (119, .getfield 249, 3), (122, .iaload, 1), (123, .i2l, 1), (124, .ladd, 1), (125, .ldc2_w 299, 3), (128, .lsub, 1), (129, .lconst 1, 1), (130, .ladd, 1), (131, .lstore_n 1, 1), (132, .aload_n 0, 1), (133, .dup, 1), (134, .getfield 249, 3), (137, .iconst 1, 1), (138, .iadd, 1), (139, .putfield 249, 3), (142, .goto (-84), 3), (145, .aload_n 0, 1), (146, .aload_n 0, 1), (147, .getfield 249, 3), (150, .putfield 263, 3), (153, .lload_n 1, 1), (154, .lreturn, 1)]
set_option maxRecDepth 100000 in
theorem eX12_name_p1 : mf_dec cX12_name LX12_name_p1 = true := by decide +kernel
set_option maxRecDepth 100000 in
theorem okX12_name : mf_ok YX12_name 0 := ⟨mf_m7 (i := 112) rfl rfl, mf_m1 (i := 17) rfl rfl, by decide +kernel, by decide⟩
abbrev YX12_kindBy : mf_Y := (yX12_kindBy, cX12_kindBy, 1, (some .int))
def LX12_kindBy : List (Nat × Instr × Nat) := [(0, .iload_n 0, 1), (1, .ifCond .ne 7, 3), (4, .iconst 0, 1), (5, .goto 13, 3), (8, .iload_n 0, 1), (9, .iconst 2, 1), (10, .if_icmp .ne 7, 3), (13, .iconst 2, 1), (14, .goto 4, 3), (17, .iconst 1, 1), (18, .ireturn, 1)]
set_option maxRecDepth 100000 in
theorem eX12_kindBy : mf_dec cX12_kindBy LX12_kindBy = true := by decide +kernel
set_option maxRecDepth 100000 in
theorem okX12_kindBy : mf_ok YX12_kindBy 1 := ⟨mf_m7 (i := 125) rfl rfl, mf_m1 (i := 17) rfl rfl, by decide +kernel, by decide⟩
abbrev YX12_isAllowed : mf_Y := (yX12_isAllowed, cX12_isAllowed, 2, (some .boolean))
def LX12_isAllowed : List (Nat × Instr × Nat) := [(0, .aload_n 0, 1), (1, .getfield 301, 3), (4, .ifCond .ne 15, 3), (7, .iload_n 1, 1), (8, .ifCond .ne 7, 3), (11, .iconst 1, 1), (12, .goto 62, 3), (15, .iconst 0, 1), (16, .goto 58, 3), (19, .aload_n 0, 1), (20, .getfield 301, 3), (23, .iconst 1, 1), (24, .if_icmp .ne 17, 3), (27, .iload_n 1, 1), (28, .bipush 6, 2), (30, .if_icmp .ge 7, 3), (33, .iconst 1, 1), (34, .goto 40, 3), (37, .iconst 0, 1), (38, .goto 36, 3), (41, .aload_n 0, 1), (42, .getfield 301, 3), (45, .iconst 2, 1), (46, .if_icmp .ne 17, 3), (49, .iload_n 1, 1), (50, .bipush 7, 2), (52, .if_icmp .ge 7, 3), (55, .iconst 1, 1), (56, .goto 18, 3), (59, .iconst 0, 1), (60, .goto 14, 3), (63, .iload_n 1, 1), (64, .bipush 6, 2), (66, .if_icmp .eq 7, 3), (69, .iconst 1, 1), (70, .goto 4, 3), (73, .iconst 0, 1), (74, .ireturn, 1)]
set_option maxRecDepth 100000 in
theorem eX12_isAllowed : mf_dec cX12_isAllowed LX12_isAllowed = true := by decide +kernel
set_option maxRecDepth 100000 in
theorem okX12_isAllowed : mf_ok YX12_isAllowed 1 := ⟨mf_m7 (i := 161) rfl rfl, mf_m1 (i := 17) rfl rfl, by decide +kernel, by decide⟩
abbrev YX12_isFull : mf_Y := (yX12_isFull, cX12_isFull, 4, (some .boolean))
def LX12_isFull : List (Nat × Instr × Nat) := [(0, .aload_n 0, 1), (1, .getfield 243, 3), (4, .ifCond .ne 19, 3), (7, .aload_n 0, 1), (8, .getfield 108, 3), (11, .iload_n 1, 1), (12, .iaload, 1), (13, .iload_n 2, 1), (14, .if_icmp .ne 9, 3), (17, .aload_n 0, 1), (18, .iconst 5, 1), (19, .iload_n 3, 1), (20, .invokevirtual 273, 3), (23, .aload_n 0, 1), (24, .getfield 243, 3), (27, .ifCond .eq 7, 3), (30, .iconst 1, 1), (31, .goto 4, 3), (34, .iconst 0, 1), (35, .ireturn, 1)]
set_option maxRecDepth 100000 in
theorem eX12_isFull : mf_dec cX12_isFull LX12_isFull = true := by decide +kernel
