set_option maxRecDepth 100000 in
theorem okX7_productSign : mf_ok YX7_productSign 0 := ⟨mf_m3 (i := 226) rfl rfl, mf_m1 (i := 10) rfl rfl, by decide +kernel, by decide⟩
abbrev YX8_init : mf_Y := (yX8_init, cX8_init, 1, none)
def LX8_init : List (Nat × Instr × Nat) := [(0, .aload_n 0, 1), (1, .invokespecial 3, 3), (4, .aload_n 0, 1), (5, .sipush 1600, 3), (8, .newarray .byte, 2), (10, .putfield 9, 3), (13, .return_, 1)]
set_option maxRecDepth 100000 in
theorem eX8_init : mf_dec cX8_init LX8_init = true := by decide +kernel
set_option maxRecDepth 100000 in
theorem okX8_init : mf_ok YX8_init 0 := ⟨mf_m1 (i := 100) rfl rfl, mf_m1 (i := 7) rfl rfl, by decide +kernel, by decide⟩
abbrev YX8_nextCheck : mf_Y := (yX8_nextCheck, cX8_nextCheck, 2, (some .int))
def LX8_nextCheck : List (Nat × Instr × Nat) := [(0, .iconst 3, 1), (1, .iload_n 0, 1), (2, .imul, 1), (3, .iload_n 1, 1), (4, .iadd, 1), (5, .sipush 251, 3), (8, .irem, 1), (9, .ireturn, 1)]
set_option maxRecDepth 100000 in
theorem eX8_nextCheck : mf_dec cX8_nextCheck LX8_nextCheck = true := by decide +kernel
set_option maxRecDepth 100000 in
theorem okX8_nextCheck : mf_ok YX8_nextCheck 2 := ⟨mf_m5 (i := 143) rfl rfl, mf_m1 (i := 7) rfl rfl, by decide +kernel, by decide⟩
abbrev YX8_add : mf_Y := (yX8_add, cX8_add, 3, none)
def LX8_add : List (Nat × Instr × Nat) := [(0, .bipush 24, 2), (2, .istore_n 2, 1), (3, .iload_n 2, 1), (4, .ifCond .lt 44, 3), (7, .aload_n 0, 1), (8, .getfield 15, 3), (11, .aload_n 0, 1), (12, .getfield 9, 3), (15, .arraylength, 1), (16, .if_icmp .ge 26, 3), (19, .aload_n 0, 1), (20, .getfield 9, 3), (23, .aload_n 0, 1), (24, .getfield 15, 3), (27, .iload_n 1, 1), (28, .iload_n 2, 1), (29, .ishr, 1), (30, .i2b, 1), (31, .bastore, 1), (32, .aload_n 0, 1), (33, .dup, 1), (34, .getfield 15, 3), (37, .iconst 1, 1), (38, .iadd, 1), (39, .putfield 15, 3), (42, .iinc 2 (-8), 3), (45, .goto (-42), 3), (48, .return_, 1)]
set_option maxRecDepth 100000 in
theorem eX8_add : mf_dec cX8_add LX8_add = true := by decide +kernel
set_option maxRecDepth 100000 in
theorem okX8_add : mf_ok YX8_add 1 := ⟨mf_m3 (i := 29) rfl rfl, mf_m1 (i := 7) rfl rfl, by decide +kernel, by decide⟩
abbrev YX8_byteAt : mf_Y := (yX8_byteAt, cX8_byteAt, 2, (some .int))
def LX8_byteAt : List (Nat × Instr × Nat) := [(0, .iload_n 1, 1), (1, .ifCond .lt 20, 3), (4, .iload_n 1, 1), (5, .aload_n 0, 1), (6, .getfield 15, 3), (9, .if_icmp .ge 12, 3), (12, .iload_n 1, 1), (13, .aload_n 0, 1), (14, .getfield 9, 3), (17, .arraylength, 1), (18, .if_icmp .lt 7, 3), (21, .iconst 0, 1), (22, .goto 13, 3), (25, .aload_n 0, 1), (26, .getfield 9, 3), (29, .iload_n 1, 1), (30, .baload, 1), (31, .sipush 255, 3), (34, .iand, 1), (35, .ireturn, 1)]
set_option maxRecDepth 100000 in
theorem eX8_byteAt : mf_dec cX8_byteAt LX8_byteAt = true := by decide +kernel
set_option maxRecDepth 100000 in
theorem okX8_byteAt : mf_ok YX8_byteAt 1 := ⟨mf_m5 (i := 23) rfl rfl, mf_m1 (i := 7) rfl rfl, by decide +kernel, by decide⟩
abbrev YX8_pairAt : mf_Y := (yX8_pairAt, cX8_pairAt, 2, (some .int))
def LX8_pairAt : List (Nat × Instr × Nat) := [(0, .aload_n 0, 1), (1, .iload_n 1, 1), (2, .invokevirtual 19, 3), (5, .sipush 256, 3), (8, .imul, 1), (9, .aload_n 0, 1), (10, .iload_n 1, 1), (11, .iconst 1, 1), (12, .iadd, 1), (13, .invokevirtual 19, 3), (16, .iadd, 1), (17, .ireturn, 1)]
set_option maxRecDepth 100000 in
theorem eX8_pairAt : mf_dec cX8_pairAt LX8_pairAt = true := by decide +kernel
set_option maxRecDepth 100000 in
theorem okX8_pairAt : mf_ok YX8_pairAt 1 := ⟨mf_m5 (i := 162) rfl rfl, mf_m1 (i := 7) rfl rfl, by decide +kernel, by decide⟩
abbrev YX9_init : mf_Y := (yX9_init, cX9_init, 3, none)
def LX9_init : List (Nat × Instr × Nat) := [(0, .aload_n 0, 1), (1, .invokespecial 3, 3), (4, .aload_n 0, 1), (5, .aload_n 1, 1), (6, .putfield 9, 3), (9, .aload_n 0, 1), (10, .aload_n 2, 1), (11, .putfield 15, 3), (14, .return_, 1)]
set_option maxRecDepth 100000 in
theorem eX9_init : mf_dec cX9_init LX9_init = true := by decide +kernel
set_option maxRecDepth 100000 in
theorem okX9_init : mf_ok YX9_init 2 := ⟨mf_m1 (i := 118) rfl rfl, mf_m1 (i := 8) rfl rfl, by decide +kernel, by decide⟩
abbrev YX9_start : mf_Y := (yX9_start, cX9_start, 1, none)
def LX9_start : List (Nat × Instr × Nat) := [(0, .aload_n 0, 1), (1, .iconst 0, 1), (2, .putfield 19, 3), (5, .aload_n 0, 1), (6, .iconst (-1), 1), (7, .putfield 23, 3), (10, .aload_n 0, 1), (11, .iconst 0, 1), (12, .putfield 26, 3), (15, .aload_n 0, 1), (16, .iconst 3, 1), (17, .putfield 29, 3), (20, .aload_n 0, 1), (21, .invokevirtual 32, 3), (24, .return_, 1)]
set_option maxRecDepth 100000 in
theorem eX9_start : mf_dec cX9_start LX9_start = true := by decide +kernel
set_option maxRecDepth 100000 in
theorem okX9_start : mf_ok YX9_start 0 := ⟨mf_m3 (i := 57) rfl rfl, mf_m1 (i := 8) rfl rfl, by decide +kernel, by decide⟩
abbrev YX9_step : mf_Y := (yX9_step, cX9_step, 5, none)
def LX9_step_p0 : List (Nat × Instr × Nat) := [(0, .aload_n 0, 1), (1, .getfield 26, 3), (4, .istore_n 1, 1), (5, .aload_n 0, 1), (6, .getfield 29, 3), (9, .iconst 1, 1), (10, .if_icmp .eq 11, 3), (13, .aload_n 0, 1), (14, .getfield 29, 3), (17, .iconst 2, 1), (18, .if_icmp .ne 7, 3), (21, .iconst 1, 1), (22, .goto 4, 3), (25, .iconst 0, 1), (26, .istore_n 2, 1), (27, .aload_n 0, 1), (28, .getfield 9, 3), (31, .getfield 35, 3), (34, .aload_n 0, 1), (35, .getfield 9, 3), (38, .getfield 40, 3), (41, .arraylength, 1), (42, .invokestatic 44, 3), (45, .istore_n 3, 1), (46, .aload_n 0, 1), (47, .iload_n 1, 1), (48, .putfield 50, 3), (51, .aload_n 0, 1), (52, .getfield 50, 3), (55, .ifCond .lt 58, 3), (58, .aload_n 0, 1), (59, .getfield 50, 3), (62, .iload_n 3, 1), (63, .if_icmp .ge 50, 3), (66, .aload_n 0, 1), (67, .getfield 9, 3), (70, .getfield 40, 3), (73, .aload_n 0, 1), (74, .getfield 50, 3), (77, .baload, 1), (78, .bipush 32, 2), (80, .if_icmp .eq 20, 3), (83, .aload_n 0, 1), (84, .getfield 9, 3), (87, .getfield 40, 3), (90, .aload_n 0, 1), (91, .getfield 50, 3), (94, .baload, 1), (95, .bipush 10, 2), (97, .if_icmp .ne 16, 3), (100, .aload_n 0, 1), (101, .dup, 1), (102, .getfield 50, 3), (105, .iconst 1, 1), (106, .iadd, 1), (107, .putfield 50, 3), (110, .goto (-59), 3), (113, .aload_n 0, 1), (114, .getfield 50, 3), (117, .ifCond .lt 11, 3)]
set_option maxRecDepth 100000 in
theorem eX9_step_p0 : mf_dec cX9_step LX9_step_p0 = true := by decide +kernel
def LX9_step_p1 : List (Nat × Instr × Nat) := [(120, .aload_n 0, 1), (121, .getfield 50, 3), (124, .iload_n 3, 1), (125, .if_icmp .lt 19, 3), (128, .aload_n 0, 1), (129, .iconst 0, 1), (130, .putfield 29, 3), (133, .aload_n 0, 1), (134, .iload_n 3, 1), (135, .putfield 50, 3), (138, .aload_n 0, 1), (139, .iload_n 3, 1), (140, .putfield 26, 3), (143, .return_, 1), (144, .aload_n 0, 1), (145, .getfield 9, 3), (148, .getfield 40, 3), (151, .aload_n 0, 1), (152, .getfield 50, 3), (155, .baload, 1), (156, .sipush 255, 3), (159, .iand, 1), (160, .istore 4, 2), (162, .iload 4, 2), (164, .invokestatic 53, 3), (167, .ifCond .eq 11, 3), (170, .aload_n 0, 1), (171, .iload_n 3, 1), (172, .invokevirtual 57, 3), (175, .goto 35, 3), (178, .iload 4, 2), (180, .invokestatic 61, 3), (183, .ifCond .eq 11, 3), (186, .aload_n 0, 1), (187, .iload_n 3, 1), (188, .invokevirtual 64, 3), (191, .goto 19, 3), (194, .aload_n 0, 1), (195, .iconst 3, 1), (196, .putfield 29, 3), (199, .aload_n 0, 1), (200, .iconst 1, 1), (201, .putfield 67, 3), (204, .aload_n 0, 1), (205, .iload 4, 2), (207, .putfield 68, 3), (210, .aload_n 0, 1), (211, .aload_n 0, 1), (212, .getfield 50, 3), (215, .aload_n 0, 1), (216, .getfield 67, 3), (219, .iadd, 1), (220, .putfield 26, 3), (223, .iload_n 2, 1), (224, .ifCond .eq 24, 3), (227, .aload_n 0, 1), (228, .getfield 50, 3), (231, .iload_n 1, 1), (232, .if_icmp .ne 16, 3), (235, .aload_n 0, 1)]
set_option maxRecDepth 100000 in
theorem eX9_step_p1 : mf_dec cX9_step LX9_step_p1 = true := by decide +kernel
def LX9_step_p2 : List (Nat × Instr × Nat) := [(236, .getfield 29, 3), (239, .iconst 3, 1), (240, .if_icmp .eq 8, 3), (243, .aload_n 0, 1), (244, .iconst 4, 1), (245, .putfield 29, 3), (248, .return_, 1)]
set_option maxRecDepth 100000 in
theorem eX9_step_p2 : mf_dec cX9_step LX9_step_p2 = true := by decide +kernel
set_option maxRecDepth 100000 in
theorem okX9_step : mf_ok YX9_step 0 := ⟨mf_m3 (i := 61) rfl rfl, mf_m1 (i := 8) rfl rfl, by decide +kernel, by decide⟩
abbrev YX9_takeWord : mf_Y := (yX9_takeWord, cX9_takeWord, 3, none)
def LX9_takeWord_p0 : List (Nat × Instr × Nat) := [(0, .aload_n 0, 1), (1, .iconst 1, 1), (2, .putfield 29, 3), (5, .aload_n 0, 1), (6, .iconst 0, 1), (7, .putfield 67, 3), (10, .aload_n 0, 1), (11, .iconst 0, 1), (12, .putfield 68, 3), (15, .aload_n 0, 1), (16, .getfield 50, 3), (19, .istore_n 2, 1), (20, .iload_n 2, 1), (21, .ifCond .lt 72, 3), (24, .iload_n 2, 1), (25, .iload_n 1, 1), (26, .if_icmp .ge 67, 3), (29, .aload_n 0, 1), (30, .getfield 9, 3), (33, .getfield 40, 3), (36, .iload_n 2, 1), (37, .baload, 1), (38, .invokestatic 53, 3), (41, .ifCond .eq 52, 3), (44, .aload_n 0, 1), (45, .dup, 1), (46, .getfield 67, 3), (49, .iconst 1, 1), (50, .iadd, 1), (51, .putfield 67, 3), (54, .aload_n 0, 1), (55, .aload_n 0, 1), (56, .getfield 67, 3), (59, .bipush 6, 2), (61, .if_icmp .le 7, 3), (64, .iconst (-1), 1), (65, .goto 19, 3), (68, .aload_n 0, 1), (69, .getfield 68, 3), (72, .aload_n 0, 1), (73, .getfield 9, 3), (76, .getfield 40, 3), (79, .iload_n 2, 1), (80, .baload, 1), (81, .invokestatic 73, 3), (84, .putfield 68, 3), (87, .iinc 2 1, 3), (90, .goto (-70), 3), (93, .aload_n 0, 1), (94, .getfield 67, 3), (97, .istore_n 2, 1), (98, .iload_n 2, 1), (99, .bipush 6, 2), (101, .if_icmp .ge 21, 3), (104, .aload_n 0, 1), (105, .aload_n 0, 1), (106, .getfield 68, 3), (109, .iconst 0, 1), (110, .invokestatic 73, 3), (113, .putfield 68, 3)]
set_option maxRecDepth 100000 in
theorem eX9_takeWord_p0 : mf_dec cX9_takeWord LX9_takeWord_p0 = true := by decide +kernel
def LX9_takeWord_p1 : List (Nat × Instr × Nat) := [(116, .iinc 2 1, 3), (119, .goto (-21), 3), (122, .return_, 1)]
set_option maxRecDepth 100000 in
theorem eX9_takeWord_p1 : mf_dec cX9_takeWord LX9_takeWord_p1 = true := by decide +kernel
set_option maxRecDepth 100000 in
theorem okX9_takeWord : mf_ok YX9_takeWord 1 := ⟨mf_m3 (i := 71) rfl rfl, mf_m1 (i := 8) rfl rfl, by decide +kernel, by decide⟩
abbrev YX9_takeNumber : mf_Y := (yX9_takeNumber, cX9_takeNumber, 3, none)
def LX9_takeNumber : List (Nat × Instr × Nat) := [(0, .aload_n 0, 1), (1, .iconst 2, 1), (2, .putfield 29, 3), (5, .aload_n 0, 1), (6, .iconst 0, 1), (7, .putfield 67, 3), (10, .aload_n 0, 1), (11, .iconst 0, 1), (12, .putfield 68, 3), (15, .aload_n 0, 1), (16, .getfield 50, 3), (19, .istore_n 2, 1), (20, .iload_n 2, 1), (21, .ifCond .lt 78, 3), (24, .iload_n 2, 1), (25, .iload_n 1, 1), (26, .if_icmp .ge 73, 3), (29, .aload_n 0, 1), (30, .getfield 9, 3), (33, .getfield 40, 3), (36, .iload_n 2, 1), (37, .baload, 1), (38, .invokestatic 61, 3), (41, .ifCond .eq 58, 3), (44, .aload_n 0, 1), (45, .dup, 1), (46, .getfield 67, 3), (49, .iconst 1, 1), (50, .iadd, 1), (51, .putfield 67, 3), (54, .aload_n 0, 1), (55, .aload_n 0, 1), (56, .getfield 67, 3), (59, .iconst 4, 1), (60, .if_icmp .le 10, 3), (63, .aload_n 0, 1), (64, .getfield 68, 3), (67, .goto 23, 3), (70, .aload_n 0, 1), (71, .getfield 68, 3), (74, .bipush 10, 2), (76, .imul, 1), (77, .aload_n 0, 1), (78, .getfield 9, 3), (81, .getfield 40, 3), (84, .iload_n 2, 1), (85, .baload, 1), (86, .iadd, 1), (87, .bipush 48, 2), (89, .isub, 1), (90, .putfield 68, 3), (93, .iinc 2 1, 3), (96, .goto (-76), 3), (99, .return_, 1)]
set_option maxRecDepth 100000 in
theorem eX9_takeNumber : mf_dec cX9_takeNumber LX9_takeNumber = true := by decide +kernel
set_option maxRecDepth 100000 in
theorem okX9_takeNumber : mf_ok YX9_takeNumber 1 := ⟨mf_m3 (i := 79) rfl rfl, mf_m1 (i := 8) rfl rfl, by decide +kernel, by decide⟩
abbrev YX9_isLetter : mf_Y := (yX9_isLetter, cX9_isLetter, 1, (some .boolean))
def LX9_isLetter : List (Nat × Instr × Nat) := [(0, .iload_n 0, 1), (1, .bipush 97, 2), (3, .if_icmp .lt 13, 3), (6, .iload_n 0, 1), (7, .bipush 122, 2), (9, .if_icmp .gt 7, 3), (12, .iconst 1, 1), (13, .goto 4, 3), (16, .iconst 0, 1), (17, .ireturn, 1)]
set_option maxRecDepth 100000 in
theorem eX9_isLetter : mf_dec cX9_isLetter LX9_isLetter = true := by decide +kernel
set_option maxRecDepth 100000 in
theorem okX9_isLetter : mf_ok YX9_isLetter 1 := ⟨mf_m3 (i := 67) rfl rfl, mf_m1 (i := 8) rfl rfl, by decide +kernel, by decide⟩
abbrev YX9_isDigit : mf_Y := (yX9_isDigit, cX9_isDigit, 1, (some .boolean))
def LX9_isDigit : List (Nat × Instr × Nat) := [(0, .iload_n 0, 1), (1, .bipush 48, 2), (3, .if_icmp .lt 13, 3), (6, .iload_n 0, 1), (7, .bipush 57, 2), (9, .if_icmp .gt 7, 3), (12, .iconst 1, 1), (13, .goto 4, 3), (16, .iconst 0, 1), (17, .ireturn, 1)]
set_option maxRecDepth 100000 in
theorem eX9_isDigit : mf_dec cX9_isDigit LX9_isDigit = true := by decide +kernel
set_option maxRecDepth 100000 in
theorem okX9_isDigit : mf_ok YX9_isDigit 1 := ⟨mf_m3 (i := 75) rfl rfl, mf_m1 (i := 8) rfl rfl, by decide +kernel, by decide⟩
abbrev YX9_isWord : mf_Y := (yX9_isWord, cX9_isWord, 2, (some .boolean))
def LX9_isWord : List (Nat × Instr × Nat) := [(0, .aload_n 0, 1), (1, .getfield 29, 3), (4, .iconst 1, 1), (5, .if_icmp .ne 22, 3), (8, .aload_n 0, 1), (9, .getfield 15, 3), (12, .iload_n 1, 1), (13, .aload_n 0, 1), (14, .getfield 68, 3), (17, .invokevirtual 76, 3), (20, .ifCond .eq 7, 3), (23, .iconst 1, 1), (24, .goto 4, 3), (27, .iconst 0, 1), (28, .ireturn, 1)]
set_option maxRecDepth 100000 in
theorem eX9_isWord : mf_dec cX9_isWord LX9_isWord = true := by decide +kernel
set_option maxRecDepth 100000 in
theorem okX9_isWord : mf_ok YX9_isWord 1 := ⟨mf_m3 (i := 113) rfl rfl, mf_m1 (i := 8) rfl rfl, by decide +kernel, by decide⟩
abbrev YX9_isSign : mf_Y := (yX9_isSign, cX9_isSign, 2, (some .boolean))
def LX9_isSign : List (Nat × Instr × Nat) := [(0, .aload_n 0, 1), (1, .getfield 29, 3), (4, .iconst 3, 1), (5, .if_icmp .ne 15, 3), (8, .aload_n 0, 1), (9, .getfield 68, 3), (12, .iload_n 1, 1), (13, .if_icmp .ne 7, 3), (16, .iconst 1, 1), (17, .goto 4, 3), (20, .iconst 0, 1), (21, .ireturn, 1)]
set_option maxRecDepth 100000 in
theorem eX9_isSign : mf_dec cX9_isSign LX9_isSign = true := by decide +kernel
set_option maxRecDepth 100000 in
theorem okX9_isSign : mf_ok YX9_isSign 1 := ⟨mf_m3 (i := 211) rfl rfl, mf_m1 (i := 8) rfl rfl, by decide +kernel, by decide⟩
abbrev YX9_fail : mf_Y := (yX9_fail, cX9_fail, 3, none)
def LX9_fail : List (Nat × Instr × Nat) := [(0, .aload_n 0, 1), (1, .getfield 19, 3), (4, .ifCond .ne 13, 3), (7, .aload_n 0, 1), (8, .iload_n 1, 1), (9, .putfield 19, 3), (12, .aload_n 0, 1), (13, .iload_n 2, 1), (14, .putfield 23, 3), (17, .return_, 1)]
set_option maxRecDepth 100000 in
theorem eX9_fail : mf_dec cX9_fail LX9_fail = true := by decide +kernel
set_option maxRecDepth 100000 in
theorem okX9_fail : mf_ok YX9_fail 2 := ⟨mf_m3 (i := 83) rfl rfl, mf_m1 (i := 8) rfl rfl, by decide +kernel, by decide⟩
abbrev YX9_passSign : mf_Y := (yX9_passSign, cX9_passSign, 2, none)
def LX9_passSign : List (Nat × Instr × Nat) := [(0, .aload_n 0, 1), (1, .getfield 19, 3), (4, .ifCond .ne 20, 3), (7, .aload_n 0, 1), (8, .iload_n 1, 1), (9, .invokevirtual 80, 3), (12, .ifCond .ne 12, 3), (15, .aload_n 0, 1), (16, .iconst 1, 1), (17, .aload_n 0, 1), (18, .getfield 50, 3), (21, .invokevirtual 84, 3), (24, .aload_n 0, 1), (25, .getfield 19, 3), (28, .ifCond .ne 7, 3), (31, .aload_n 0, 1), (32, .invokevirtual 32, 3), (35, .return_, 1)]
set_option maxRecDepth 100000 in
theorem eX9_passSign : mf_dec cX9_passSign LX9_passSign = true := by decide +kernel
set_option maxRecDepth 100000 in
theorem okX9_passSign : mf_ok YX9_passSign 1 := ⟨mf_m3 (i := 220) rfl rfl, mf_m1 (i := 8) rfl rfl, by decide +kernel, by decide⟩
abbrev YX9_passWord : mf_Y := (yX9_passWord, cX9_passWord, 2, none)
def LX9_passWord : List (Nat × Instr × Nat) := [(0, .aload_n 0, 1), (1, .getfield 19, 3), (4, .ifCond .ne 20, 3), (7, .aload_n 0, 1), (8, .iload_n 1, 1), (9, .invokevirtual 88, 3), (12, .ifCond .ne 12, 3), (15, .aload_n 0, 1), (16, .iconst 1, 1), (17, .aload_n 0, 1), (18, .getfield 50, 3), (21, .invokevirtual 84, 3), (24, .aload_n 0, 1), (25, .getfield 19, 3), (28, .ifCond .ne 7, 3), (31, .aload_n 0, 1), (32, .invokevirtual 32, 3), (35, .return_, 1)]
set_option maxRecDepth 100000 in
theorem eX9_passWord : mf_dec cX9_passWord LX9_passWord = true := by decide +kernel
