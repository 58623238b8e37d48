set_option maxRecDepth 100000 in
theorem okX9_passWord : mf_ok YX9_passWord 1 := ⟨mf_m3 (i := 109) rfl rfl, mf_m1 (i := 8) rfl rfl, by decide +kernel, by decide⟩
abbrev YX9_passNumber : mf_Y := (yX9_passNumber, cX9_passNumber, 2, (some .int))
def LX9_passNumber : List (Nat × Instr × Nat) := [(0, .aload_n 0, 1), (1, .getfield 19, 3), (4, .ifCond .eq 5, 3), (7, .iconst (-1), 1), (8, .ireturn, 1), (9, .aload_n 0, 1), (10, .getfield 29, 3), (13, .iconst 2, 1), (14, .if_icmp .ne 11, 3), (17, .aload_n 0, 1), (18, .getfield 67, 3), (21, .iconst 4, 1), (22, .if_icmp .le 31, 3), (25, .aload_n 0, 1), (26, .iconst 1, 1), (27, .aload_n 0, 1), (28, .getfield 29, 3), (31, .iconst 2, 1), (32, .if_icmp .ne 12, 3), (35, .aload_n 0, 1), (36, .getfield 50, 3), (39, .iconst 4, 1), (40, .iadd, 1), (41, .goto 7, 3), (44, .aload_n 0, 1), (45, .getfield 50, 3), (48, .invokevirtual 84, 3), (51, .iconst (-1), 1), (52, .ireturn, 1), (53, .aload_n 0, 1), (54, .getfield 68, 3), (57, .istore_n 1, 1), (58, .aload_n 0, 1), (59, .invokevirtual 32, 3), (62, .iload_n 1, 1), (63, .ireturn, 1)]
set_option maxRecDepth 100000 in
theorem eX9_passNumber : mf_dec cX9_passNumber LX9_passNumber = true := by decide +kernel
set_option maxRecDepth 100000 in
theorem okX9_passNumber : mf_ok YX9_passNumber 0 := ⟨mf_m3 (i := 104) rfl rfl, mf_m1 (i := 8) rfl rfl, by decide +kernel, by decide⟩
abbrev YX9_mayOpen : mf_Y := (yX9_mayOpen, cX9_mayOpen, 2, (some .boolean))
def LX9_mayOpen : List (Nat × Instr × Nat) := [(0, .iload_n 1, 1), (1, .bipush 6, 2), (3, .if_icmp .lt 12, 3), (6, .aload_n 0, 1), (7, .iconst 4, 1), (8, .aload_n 0, 1), (9, .getfield 50, 3), (12, .invokevirtual 84, 3), (15, .aload_n 0, 1), (16, .getfield 19, 3), (19, .ifCond .ne 7, 3), (22, .iconst 1, 1), (23, .goto 4, 3), (26, .iconst 0, 1), (27, .ireturn, 1)]
set_option maxRecDepth 100000 in
theorem eX9_mayOpen : mf_dec cX9_mayOpen LX9_mayOpen = true := by decide +kernel
set_option maxRecDepth 100000 in
theorem okX9_mayOpen : mf_ok YX9_mayOpen 1 := ⟨mf_m3 (i := 215) rfl rfl, mf_m1 (i := 8) rfl rfl, by decide +kernel, by decide⟩
abbrev YX10_init : mf_Y := (yX10_init, cX10_init, 4, none)
def LX10_init : List (Nat × Instr × Nat) := [(0, .aload_n 0, 1), (1, .invokespecial 3, 3), (4, .aload_n 0, 1), (5, .bipush 34, 2), (7, .newarray .int, 2), (9, .putfield 11, 3), (12, .iconst 0, 1), (13, .istore_n 1, 1), (14, .iconst 0, 1), (15, .istore_n 2, 1), (16, .iconst 0, 1), (17, .istore_n 3, 1), (18, .iload_n 3, 1), (19, .ldc 15, 2), (21, .invokevirtual 17, 3), (24, .if_icmp .ge 47, 3), (27, .ldc 15, 2), (29, .iload_n 3, 1), (30, .invokevirtual 23, 3), (33, .bipush 32, 2), (35, .if_icmp .ne 30, 3), (38, .iload_n 1, 1), (39, .aload_n 0, 1), (40, .getfield 11, 3), (43, .arraylength, 1), (44, .if_icmp .ge 21, 3), (47, .aload_n 0, 1), (48, .getfield 11, 3), (51, .iload_n 1, 1), (52, .iload_n 2, 1), (53, .iload_n 3, 1), (54, .invokestatic 27, 3), (57, .iastore, 1), (58, .iinc 1 1, 3), (61, .iload_n 3, 1), (62, .iconst 1, 1), (63, .iadd, 1), (64, .istore_n 2, 1), (65, .iinc 3 1, 3), (68, .goto (-50), 3), (71, .return_, 1)]
set_option maxRecDepth 100000 in
theorem eX10_init : mf_dec cX10_init LX10_init = true := by decide +kernel
set_option maxRecDepth 100000 in
theorem okX10_init : mf_ok YX10_init 0 := ⟨mf_m1 (i := 33) rfl rfl, mf_m1 (i := 2) rfl rfl, by decide +kernel, by decide⟩
abbrev YX10_packListed : mf_Y := (yX10_packListed, cX10_packListed, 4, (some .int))
def LX10_packListed : List (Nat × Instr × Nat) := [(0, .iconst 0, 1), (1, .istore_n 2, 1), (2, .iload_n 0, 1), (3, .istore_n 3, 1), (4, .iload_n 3, 1), (5, .iload_n 0, 1), (6, .bipush 6, 2), (8, .iadd, 1), (9, .if_icmp .ge 38, 3), (12, .iload_n 2, 1), (13, .iload_n 3, 1), (14, .iload_n 1, 1), (15, .if_icmp .ge 21, 3), (18, .iload_n 3, 1), (19, .ldc 15, 2), (21, .invokevirtual 17, 3), (24, .if_icmp .ge 12, 3), (27, .ldc 15, 2), (29, .iload_n 3, 1), (30, .invokevirtual 23, 3), (33, .goto 4, 3), (36, .iconst 0, 1), (37, .invokestatic 31, 3), (40, .istore_n 2, 1), (41, .iinc 3 1, 3), (44, .goto (-40), 3), (47, .iload_n 2, 1), (48, .ireturn, 1)]
set_option maxRecDepth 100000 in
theorem eX10_packListed : mf_dec cX10_packListed LX10_packListed = true := by decide +kernel
set_option maxRecDepth 100000 in
theorem okX10_packListed : mf_ok YX10_packListed 2 := ⟨mf_m1 (i := 86) rfl rfl, mf_m1 (i := 2) rfl rfl, by decide +kernel, by decide⟩
abbrev YX10_addLetter : mf_Y := (yX10_addLetter, cX10_addLetter, 2, (some .int))
def LX10_addLetter : List (Nat × Instr × Nat) := [(0, .iload_n 0, 1), (1, .bipush 27, 2), (3, .imul, 1), (4, .iload_n 1, 1), (5, .ifCond .ne 7, 3), (8, .iconst 0, 1), (9, .goto 9, 3), (12, .iload_n 1, 1), (13, .bipush 97, 2), (15, .isub, 1), (16, .iconst 1, 1), (17, .iadd, 1), (18, .iadd, 1), (19, .ireturn, 1)]
set_option maxRecDepth 100000 in
theorem eX10_addLetter : mf_dec cX10_addLetter LX10_addLetter = true := by decide +kernel
set_option maxRecDepth 100000 in
theorem okX10_addLetter : mf_ok YX10_addLetter 2 := ⟨mf_m1 (i := 89) rfl rfl, mf_m1 (i := 2) rfl rfl, by decide +kernel, by decide⟩
abbrev YX10_letterOf : mf_Y := (yX10_letterOf, cX10_letterOf, 4, (some .int))
def LX10_letterOf : List (Nat × Instr × Nat) := [(0, .iload_n 0, 1), (1, .istore_n 2, 1), (2, .iload_n 1, 1), (3, .iconst 1, 1), (4, .iadd, 1), (5, .istore_n 3, 1), (6, .iload_n 3, 1), (7, .bipush 6, 2), (9, .if_icmp .ge 14, 3), (12, .iload_n 2, 1), (13, .bipush 27, 2), (15, .idiv, 1), (16, .istore_n 2, 1), (17, .iinc 3 1, 3), (20, .goto (-14), 3), (23, .iload_n 2, 1), (24, .bipush 27, 2), (26, .irem, 1), (27, .ireturn, 1)]
set_option maxRecDepth 100000 in
theorem eX10_letterOf : mf_dec cX10_letterOf LX10_letterOf = true := by decide +kernel
set_option maxRecDepth 100000 in
theorem okX10_letterOf : mf_ok YX10_letterOf 2 := ⟨mf_m4 (i := 102) rfl rfl, mf_m1 (i := 2) rfl rfl, by decide +kernel, by decide⟩
abbrev YX10_isThat : mf_Y := (yX10_isThat, cX10_isThat, 3, (some .boolean))
def LX10_isThat : List (Nat × Instr × Nat) := [(0, .iload_n 1, 1), (1, .ifCond .lt 26, 3), (4, .iload_n 1, 1), (5, .aload_n 0, 1), (6, .getfield 11, 3), (9, .arraylength, 1), (10, .if_icmp .ge 17, 3), (13, .aload_n 0, 1), (14, .getfield 11, 3), (17, .iload_n 1, 1), (18, .iaload, 1), (19, .iload_n 2, 1), (20, .if_icmp .ne 7, 3), (23, .iconst 1, 1), (24, .goto 4, 3), (27, .iconst 0, 1), (28, .ireturn, 1)]
set_option maxRecDepth 100000 in
theorem eX10_isThat : mf_dec cX10_isThat LX10_isThat = true := by decide +kernel
set_option maxRecDepth 100000 in
theorem okX10_isThat : mf_ok YX10_isThat 2 := ⟨mf_m3 (i := 117) rfl rfl, mf_m1 (i := 2) rfl rfl, by decide +kernel, by decide⟩
abbrev YX10_find : mf_Y := (yX10_find, cX10_find, 3, (some .int))
def LX10_find : List (Nat × Instr × Nat) := [(0, .iconst 0, 1), (1, .istore_n 2, 1), (2, .iload_n 2, 1), (3, .aload_n 0, 1), (4, .getfield 11, 3), (7, .arraylength, 1), (8, .if_icmp .ge 21, 3), (11, .aload_n 0, 1), (12, .getfield 11, 3), (15, .iload_n 2, 1), (16, .iaload, 1), (17, .iload_n 1, 1), (18, .if_icmp .ne 5, 3), (21, .iload_n 2, 1), (22, .ireturn, 1), (23, .iinc 2 1, 3), (26, .goto (-24), 3), (29, .iconst (-1), 1), (30, .ireturn, 1)]
set_option maxRecDepth 100000 in
theorem eX10_find : mf_dec cX10_find LX10_find = true := by decide +kernel
set_option maxRecDepth 100000 in
theorem okX10_find : mf_ok YX10_find 1 := ⟨mf_m3 (i := 91) rfl rfl, mf_m1 (i := 2) rfl rfl, by decide +kernel, by decide⟩
abbrev YX11_init : mf_Y := (yX11_init, cX11_init, 3, none)
def LX11_init_p0 : List (Nat × Instr × Nat) := [(0, .aload_n 0, 1), (1, .invokespecial 3, 3), (4, .new 9, 3), (7, .dup, 1), (8, .invokespecial 11, 3), (11, .astore_n 1, 1), (12, .aload_n 0, 1), (13, .new 12, 3), (16, .dup, 1), (17, .invokespecial 14, 3), (20, .putfield 15, 3), (23, .aload_n 0, 1), (24, .new 19, 3), (27, .dup, 1), (28, .aload_n 0, 1), (29, .getfield 15, 3), (32, .aload_n 1, 1), (33, .invokespecial 21, 3), (36, .putfield 24, 3), (39, .aload_n 0, 1), (40, .new 28, 3), (43, .dup, 1), (44, .invokespecial 30, 3), (47, .putfield 31, 3), (50, .aload_n 0, 1), (51, .new 35, 3), (54, .dup, 1), (55, .aload_n 0, 1), (56, .getfield 24, 3), (59, .aload_n 1, 1), (60, .aload_n 0, 1), (61, .getfield 31, 3), (64, .invokespecial 37, 3), (67, .putfield 40, 3), (70, .aload_n 0, 1), (71, .new 44, 3), (74, .dup, 1), (75, .invokespecial 46, 3), (78, .putfield 47, 3), (81, .aload_n 0, 1), (82, .new 44, 3), (85, .dup, 1), (86, .invokespecial 46, 3), (89, .putfield 51, 3), (92, .aload_n 0, 1), (93, .new 54, 3), (96, .dup, 1), (97, .aload_n 0, 1), (98, .getfield 24, 3), (101, .aload_n 1, 1), (102, .aload_n 0, 1), (103, .getfield 40, 3), (106, .aload_n 0, 1), (107, .getfield 51, 3), (110, .invokespecial 56, 3), (113, .putfield 59, 3), (116, .aload_n 0, 1), (117, .new 63, 3), (120, .dup, 1), (121, .invokespecial 65, 3)]
set_option maxRecDepth 100000 in
theorem eX11_init_p0 : mf_dec cX11_init LX11_init_p0 = true := by decide +kernel
def LX11_init_p1 : List (Nat × Instr × Nat) := [(124, .putfield 66, 3), (127, .aload_n 0, 1), (128, .new 70, 3), (131, .dup, 1), (132, .aload_n 0, 1), (133, .getfield 66, 3), (136, .invokespecial 72, 3), (139, .putfield 75, 3), (142, .aload_n 0, 1), (143, .new 79, 3), (146, .dup, 1), (147, .invokespecial 81, 3), (150, .putfield 82, 3), (153, .aload_n 0, 1), (154, .new 79, 3), (157, .dup, 1), (158, .invokespecial 81, 3), (161, .putfield 86, 3), (164, .aload_n 0, 1), (165, .bipush 20, 2), (167, .anewarray 79, 3), (170, .putfield 89, 3), (173, .iconst 0, 1), (174, .istore_n 2, 1), (175, .iload_n 2, 1), (176, .aload_n 0, 1), (177, .getfield 89, 3), (180, .arraylength, 1), (181, .if_icmp .ge 22, 3), (184, .aload_n 0, 1), (185, .getfield 89, 3), (188, .iload_n 2, 1), (189, .new 79, 3), (192, .dup, 1), (193, .invokespecial 81, 3), (196, .aastore, 1), (197, .iinc 2 1, 3), (200, .goto (-25), 3), (203, .aload_n 0, 1), (204, .bipush 6, 2), (206, .newarray .int, 2), (208, .putfield 93, 3), (211, .aload_n 0, 1), (212, .bipush 57, 2), (214, .newarray .int, 2), (216, .putfield 97, 3), (219, .aload_n 0, 1), (220, .iconst (-1), 1), (221, .putfield 100, 3), (224, .aload_n 0, 1), (225, .iconst 1, 1), (226, .putfield 104, 3), (229, .return_, 1)]
set_option maxRecDepth 100000 in
theorem eX11_init_p1 : mf_dec cX11_init LX11_init_p1 = true := by decide +kernel
set_option maxRecDepth 100000 in
theorem okX11_init : mf_ok YX11_init 0 := ⟨mf_m1 (i := 25) rfl rfl, mf_m1 (i := 1) rfl rfl, by decide +kernel, by decide⟩
abbrev YX11_feed : mf_Y := (yX11_feed, cX11_feed, 6, (some .int))
def LX11_feed : List (Nat × Instr × Nat) := [(0, .aload_n 0, 1), (1, .getfield 15, 3), (4, .getfield 107, 3), (7, .bipush 20, 2), (9, .iadd, 1), (10, .sipush 1600, 3), (13, .if_icmp .le 15, 3), (16, .aload_n 0, 1), (17, .getfield 93, 3), (20, .iconst 0, 1), (21, .dup2, 1), (22, .iaload, 1), (23, .iconst 1, 1), (24, .iadd, 1), (25, .iastore, 1), (26, .iconst (-1), 1), (27, .ireturn, 1), (28, .aload_n 0, 1), (29, .getfield 15, 3), (32, .iload_n 1, 1), (33, .invokevirtual 110, 3), (36, .aload_n 0, 1), (37, .getfield 15, 3), (40, .iload_n 2, 1), (41, .invokevirtual 110, 3), (44, .aload_n 0, 1), (45, .getfield 15, 3), (48, .iload_n 3, 1), (49, .invokevirtual 110, 3), (52, .aload_n 0, 1), (53, .getfield 15, 3), (56, .iload 4, 2), (58, .invokevirtual 110, 3), (61, .aload_n 0, 1), (62, .getfield 15, 3), (65, .iload 5, 2), (67, .invokevirtual 110, 3), (70, .aload_n 0, 1), (71, .getfield 15, 3), (74, .getfield 107, 3), (77, .ireturn, 1)]
set_option maxRecDepth 100000 in
theorem eX11_feed : mf_dec cX11_feed LX11_feed = true := by decide +kernel
set_option maxRecDepth 100000 in
theorem okX11_feed : mf_ok YX11_feed 5 := ⟨mf_m3 (i := 25) rfl rfl, mf_m1 (i := 1) rfl rfl, by decide +kernel, by decide⟩
abbrev YX11_end : mf_Y := (yX11_end, cX11_end, 2, (some .boolean))
def LX11_end : List (Nat × Instr × Nat) := [(0, .iload_n 1, 1), (1, .ifCond .lt 14, 3), (4, .iload_n 1, 1), (5, .aload_n 0, 1), (6, .getfield 15, 3), (9, .getfield 107, 3), (12, .if_icmp .le 15, 3), (15, .aload_n 0, 1), (16, .getfield 93, 3), (19, .iconst 0, 1), (20, .dup2, 1), (21, .iaload, 1), (22, .iconst 1, 1), (23, .iadd, 1), (24, .iastore, 1), (25, .iconst 0, 1), (26, .ireturn, 1), (27, .aload_n 0, 1), (28, .getfield 15, 3), (31, .iload_n 1, 1), (32, .putfield 107, 3), (35, .iconst 1, 1), (36, .ireturn, 1)]
set_option maxRecDepth 100000 in
theorem eX11_end : mf_dec cX11_end LX11_end = true := by decide +kernel
set_option maxRecDepth 100000 in
theorem okX11_end : mf_ok YX11_end 1 := ⟨mf_m3 (i := 33) rfl rfl, mf_m1 (i := 1) rfl rfl, by decide +kernel, by decide⟩
abbrev YX11_folio : mf_Y := (yX11_folio, cX11_folio, 2, (some .int))
def LX11_folio : List (Nat × Instr × Nat) := [(0, .aload_n 0, 1), (1, .getfield 59, 3), (4, .aload_n 0, 1), (5, .getfield 51, 3), (8, .invokevirtual 114, 3), (11, .aload_n 0, 1), (12, .invokevirtual 118, 3), (15, .aload_n 0, 1), (16, .getfield 121, 3), (19, .ifCond .eq 15, 3), (22, .aload_n 0, 1), (23, .getfield 93, 3), (26, .iconst 1, 1), (27, .dup2, 1), (28, .iaload, 1), (29, .iconst 1, 1), (30, .iadd, 1), (31, .iastore, 1), (32, .iconst (-1), 1), (33, .ireturn, 1), (34, .aload_n 0, 1), (35, .getfield 47, 3), (38, .astore_n 1, 1), (39, .aload_n 0, 1), (40, .aload_n 0, 1), (41, .getfield 51, 3), (44, .putfield 47, 3), (47, .aload_n 0, 1), (48, .aload_n 1, 1), (49, .putfield 51, 3), (52, .aload_n 0, 1), (53, .getfield 82, 3), (56, .aload_n 0, 1), (57, .getfield 47, 3), (60, .getfield 124, 3), (63, .invokevirtual 127, 3), (66, .aload_n 0, 1), (67, .getfield 75, 3), (70, .iconst 0, 1), (71, .putfield 131, 3), (74, .aload_n 0, 1), (75, .iconst 0, 1), (76, .putfield 134, 3), (79, .aload_n 0, 1), (80, .getfield 47, 3), (83, .getfield 137, 3), (86, .ireturn, 1)]
set_option maxRecDepth 100000 in
theorem eX11_folio : mf_dec cX11_folio LX11_folio = true := by decide +kernel
set_option maxRecDepth 100000 in
theorem okX11_folio : mf_ok YX11_folio 0 := ⟨mf_m3 (i := 37) rfl rfl, mf_m1 (i := 1) rfl rfl, by decide +kernel, by decide⟩
abbrev YX11_fault : mf_Y := (yX11_fault, cX11_fault, 2, (some .int))
def LX11_fault : List (Nat × Instr × Nat) := [(0, .iload_n 1, 1), (1, .ifCond .ne 8, 3), (4, .aload_n 0, 1), (5, .getfield 121, 3), (8, .ireturn, 1), (9, .iload_n 1, 1), (10, .iconst 1, 1), (11, .if_icmp .ne 10, 3), (14, .aload_n 0, 1), (15, .getfield 100, 3), (18, .goto 4, 3), (21, .iconst (-1), 1), (22, .ireturn, 1)]
set_option maxRecDepth 100000 in
theorem eX11_fault : mf_dec cX11_fault LX11_fault = true := by decide +kernel
set_option maxRecDepth 100000 in
theorem okX11_fault : mf_ok YX11_fault 1 := ⟨mf_m4 (i := 28) rfl rfl, mf_m1 (i := 1) rfl rfl, by decide +kernel, by decide⟩
abbrev YX11_has : mf_Y := (yX11_has, cX11_has, 2, (some .int))
def LX11_has : List (Nat × Instr × Nat) := [(0, .iload_n 1, 1), (1, .tableswitch 152 0 10 #[59, 67, 75, 83, 91, 99, 107, 126, 131, 139, 147], 59), (60, .aload_n 0, 1), (61, .getfield 47, 3), (64, .getfield 140, 3), (67, .ireturn, 1), (68, .aload_n 0, 1), (69, .getfield 47, 3), (72, .getfield 143, 3), (75, .ireturn, 1), (76, .aload_n 0, 1), (77, .getfield 82, 3), (80, .invokevirtual 146, 3), (83, .ireturn, 1), (84, .aload_n 0, 1), (85, .getfield 47, 3), (88, .getfield 150, 3), (91, .ireturn, 1), (92, .aload_n 0, 1), (93, .getfield 47, 3), (96, .getfield 153, 3), (99, .ireturn, 1), (100, .aload_n 0, 1), (101, .getfield 82, 3), (104, .getfield 156, 3), (107, .ireturn, 1), (108, .aload_n 0, 1), (109, .getfield 66, 3), (112, .aload_n 0, 1), (113, .getfield 47, 3), (116, .aload_n 0, 1), (117, .getfield 82, 3), (120, .getfield 156, 3), (123, .invokevirtual 159, 3), (126, .ireturn, 1), (127, .aload_n 0, 1), (128, .invokevirtual 163, 3), (131, .ireturn, 1), (132, .aload_n 0, 1), (133, .getfield 82, 3), (136, .invokevirtual 166, 3), (139, .ireturn, 1), (140, .aload_n 0, 1), (141, .getfield 75, 3), (144, .getfield 131, 3), (147, .ireturn, 1), (148, .aload_n 0, 1), (149, .getfield 134, 3), (152, .ireturn, 1), (153, .iconst (-1), 1), (154, .ireturn, 1)]
set_option maxRecDepth 100000 in
theorem eX11_has : mf_dec cX11_has LX11_has = true := by decide +kernel
set_option maxRecDepth 100000 in
theorem okX11_has : mf_ok YX11_has 1 := ⟨mf_m4 (i := 32) rfl rfl, mf_m1 (i := 1) rfl rfl, by decide +kernel, by decide⟩
abbrev YX11_letter : mf_Y := (yX11_letter, cX11_letter, 3, (some .int))
def LX11_letter : List (Nat × Instr × Nat) := [(0, .aload_n 0, 1), (1, .iload_n 1, 1), (2, .invokevirtual 169, 3), (5, .ifCond .eq 13, 3), (8, .iload_n 2, 1), (9, .ifCond .lt 9, 3), (12, .iload_n 2, 1), (13, .bipush 6, 2), (15, .if_icmp .lt 5, 3), (18, .iconst (-1), 1), (19, .ireturn, 1), (20, .aload_n 0, 1), (21, .getfield 47, 3), (24, .getfield 173, 3), (27, .iload_n 1, 1), (28, .iaload, 1), (29, .iload_n 2, 1), (30, .invokestatic 176, 3), (33, .ireturn, 1)]
set_option maxRecDepth 100000 in
theorem eX11_letter : mf_dec cX11_letter LX11_letter = true := by decide +kernel
set_option maxRecDepth 100000 in
theorem okX11_letter : mf_ok YX11_letter 2 := ⟨mf_m4 (i := 95) rfl rfl, mf_m1 (i := 1) rfl rfl, by decide +kernel, by decide⟩
abbrev YX11_being : mf_Y := (yX11_being, cX11_being, 3, (some .int))
def LX11_being : List (Nat × Instr × Nat) := [(0, .aload_n 0, 1), (1, .iload_n 1, 1), (2, .invokevirtual 169, 3), (5, .ifCond .ne 5, 3), (8, .iconst (-1), 1), (9, .ireturn, 1), (10, .iload_n 2, 1), (11, .tableswitch 126 0 5 #[37, 47, 57, 67, 77, 87], 37), (48, .aload_n 0, 1), (49, .getfield 82, 3), (52, .getfield 180, 3), (55, .iload_n 1, 1), (56, .iaload, 1), (57, .ireturn, 1), (58, .aload_n 0, 1), (59, .getfield 82, 3), (62, .getfield 183, 3), (65, .iload_n 1, 1), (66, .iaload, 1), (67, .ireturn, 1), (68, .aload_n 0, 1), (69, .getfield 47, 3), (72, .getfield 186, 3), (75, .iload_n 1, 1), (76, .iaload, 1), (77, .ireturn, 1), (78, .aload_n 0, 1), (79, .getfield 82, 3), (82, .getfield 189, 3), (85, .iload_n 1, 1), (86, .iaload, 1), (87, .ireturn, 1), (88, .aload_n 0, 1), (89, .getfield 82, 3), (92, .getfield 192, 3), (95, .iload_n 1, 1), (96, .iaload, 1), (97, .ireturn, 1), (98, .aload_n 0, 1), (99, .getfield 66, 3), (102, .aload_n 0, 1), (103, .getfield 47, 3), (106, .aload_n 0, 1), (107, .getfield 82, 3), (110, .getfield 156, 3), (113, .invokevirtual 159, 3), (116, .aload_n 0, 1), (117, .getfield 82, 3), (120, .getfield 180, 3), (123, .iload_n 1, 1), (124, .iaload, 1), (125, .invokestatic 195, 3), (128, .ifCond .eq 7, 3), (131, .iconst 1, 1), (132, .goto 4, 3), (135, .iconst 0, 1), (136, .ireturn, 1), (137, .iconst (-1), 1), (138, .ireturn, 1)]
set_option maxRecDepth 100000 in
theorem eX11_being : mf_dec cX11_being LX11_being = true := by decide +kernel
set_option maxRecDepth 100000 in
theorem okX11_being : mf_ok YX11_being 2 := ⟨mf_m4 (i := 106) rfl rfl, mf_m1 (i := 1) rfl rfl, by decide +kernel, by decide⟩
abbrev YX11_cell : mf_Y := (yX11_cell, cX11_cell, 4, (some .int))
def LX11_cell : List (Nat × Instr × Nat) := [(0, .aload_n 0, 1), (1, .iload_n 1, 1), (2, .iload_n 2, 1), (3, .invokevirtual 199, 3), (6, .ifCond .ne 5, 3), (9, .iconst (-1), 1), (10, .ireturn, 1), (11, .iload_n 3, 1), (12, .tableswitch 95 0 3 #[32, 50, 67, 73], 32), (44, .aload_n 0, 1), (45, .getfield 82, 3), (48, .iload_n 1, 1), (49, .iload_n 2, 1), (50, .invokevirtual 202, 3), (53, .ifCond .eq 7, 3), (56, .iconst 1, 1), (57, .goto 4, 3), (60, .iconst 0, 1), (61, .ireturn, 1), (62, .aload_n 0, 1), (63, .getfield 82, 3), (66, .iload_n 1, 1), (67, .iload_n 2, 1), (68, .aload_n 0, 1), (69, .getfield 47, 3), (72, .getfield 153, 3), (75, .invokevirtual 205, 3), (78, .ireturn, 1), (79, .aload_n 0, 1), (80, .iload_n 1, 1), (81, .invokevirtual 209, 3), (84, .ireturn, 1), (85, .aload_n 0, 1), (86, .iload_n 1, 1), (87, .invokevirtual 209, 3), (90, .iconst (-1), 1), (91, .if_icmp .ne 7, 3), (94, .iconst (-1), 1), (95, .goto 11, 3), (98, .aload_n 0, 1), (99, .getfield 47, 3), (102, .iload_n 2, 1), (103, .invokevirtual 213, 3), (106, .ireturn, 1), (107, .iconst (-1), 1), (108, .ireturn, 1)]
set_option maxRecDepth 100000 in
theorem eX11_cell : mf_dec cX11_cell LX11_cell = true := by decide +kernel
set_option maxRecDepth 100000 in
theorem okX11_cell : mf_ok YX11_cell 3 := ⟨mf_m4 (i := 113) rfl rfl, mf_m1 (i := 1) rfl rfl, by decide +kernel, by decide⟩
abbrev YX11_kept : mf_Y := (yX11_kept, cX11_kept, 4, (some .int))
def LX11_kept : List (Nat × Instr × Nat) := [(0, .iload_n 1, 1), (1, .ifCond .lt 14, 3), (4, .iload_n 1, 1), (5, .aload_n 0, 1), (6, .getfield 82, 3), (9, .invokevirtual 166, 3), (12, .if_icmp .lt 5, 3), (15, .iconst (-1), 1), (16, .ireturn, 1), (17, .aload_n 0, 1), (18, .getfield 82, 3), (21, .iload_n 1, 1), (22, .invokevirtual 216, 3), (25, .istore_n 3, 1), (26, .iload_n 2, 1), (27, .tableswitch 43 0 2 #[25, 30, 38], 25), (52, .iload_n 3, 1), (53, .bipush 64, 2), (55, .idiv, 1), (56, .ireturn, 1), (57, .iload_n 3, 1), (58, .bipush 8, 2), (60, .idiv, 1), (61, .bipush 8, 2), (63, .irem, 1), (64, .ireturn, 1), (65, .iload_n 3, 1), (66, .bipush 8, 2), (68, .irem, 1), (69, .ireturn, 1), (70, .iconst (-1), 1), (71, .ireturn, 1)]
set_option maxRecDepth 100000 in
theorem eX11_kept : mf_dec cX11_kept LX11_kept = true := by decide +kernel
set_option maxRecDepth 100000 in
theorem okX11_kept : mf_ok YX11_kept 2 := ⟨mf_m4 (i := 135) rfl rfl, mf_m1 (i := 1) rfl rfl, by decide +kernel, by decide⟩
abbrev YX11_meets : mf_Y := (yX11_meets, cX11_meets, 3, (some .int))
def LX11_meets : List (Nat × Instr × Nat) := [(0, .aload_n 0, 1), (1, .iload_n 1, 1), (2, .invokevirtual 169, 3), (5, .ifCond .eq 16, 3), (8, .aload_n 0, 1), (9, .iload_n 2, 1), (10, .invokevirtual 169, 3), (13, .ifCond .eq 8, 3), (16, .iload_n 1, 1), (17, .iload_n 2, 1), (18, .if_icmp .ne 5, 3), (21, .iconst (-1), 1), (22, .ireturn, 1), (23, .aload_n 0, 1), (24, .getfield 47, 3), (27, .aload_n 0, 1), (28, .getfield 82, 3), (31, .iload_n 1, 1), (32, .iload_n 2, 1), (33, .aload_n 0, 1), (34, .getfield 66, 3), (37, .aload_n 0, 1), (38, .getfield 47, 3), (41, .aload_n 0, 1), (42, .getfield 82, 3), (45, .getfield 156, 3), (48, .invokevirtual 159, 3), (51, .invokestatic 219, 3), (54, .ifCond .eq 7, 3), (57, .iconst 1, 1), (58, .goto 4, 3), (61, .iconst 0, 1), (62, .ireturn, 1)]
set_option maxRecDepth 100000 in
theorem eX11_meets : mf_dec cX11_meets LX11_meets = true := by decide +kernel
