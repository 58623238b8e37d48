def LX5_spread_p2 : List (Nat × Instr × Nat) := [(202, .aload_n 1, 1), (203, .getfield 119, 3), (206, .ishl, 1), (207, .iconst 1, 1), (208, .isub, 1), (209, .istore 4, 2), (211, .iconst 0, 1), (212, .istore 5, 2), (214, .iload 5, 2), (216, .aload_n 1, 1), (217, .getfield 54, 3), (220, .if_icmp .ge 36, 3), (223, .aload_n 0, 1), (224, .getfield 29, 3), (227, .iload 5, 2), (229, .aload_n 0, 1), (230, .getfield 32, 3), (233, .iload 5, 2), (235, .iaload, 1), (236, .iload 4, 2), (238, .iand, 1), (239, .aload_n 2, 1), (240, .getfield 122, 3), (243, .iload 5, 2), (245, .iaload, 1), (246, .iconst (-1), 1), (247, .ixor, 1), (248, .iand, 1), (249, .iastore, 1), (250, .iinc 5 1, 3), (253, .goto (-39), 3), (256, .return_, 1)]
set_option maxRecDepth 100000 in
theorem eX5_spread_p2 : mf_dec cX5_spread LX5_spread_p2 = true := by decide +kernel
set_option maxRecDepth 100000 in
theorem okX5_spread : mf_ok YX5_spread 3 := ⟨mf_m5 (i := 6) rfl rfl, mf_m1 (i := 16) rfl rfl, by decide +kernel, by decide⟩
abbrev YX5_mirrorBits : mf_Y := (yX5_mirrorBits, cX5_mirrorBits, 4, (some .int))
def LX5_mirrorBits : List (Nat × Instr × Nat) := [(0, .iconst 0, 1), (1, .istore_n 2, 1), (2, .iconst 0, 1), (3, .istore_n 3, 1), (4, .iload_n 3, 1), (5, .aload_n 0, 1), (6, .getfield 119, 3), (9, .if_icmp .ge 23, 3), (12, .iload_n 2, 1), (13, .iload_n 1, 1), (14, .iload_n 3, 1), (15, .ishr, 1), (16, .iconst 1, 1), (17, .iand, 1), (18, .aload_n 0, 1), (19, .iload_n 3, 1), (20, .invokevirtual 125, 3), (23, .ishl, 1), (24, .ior, 1), (25, .istore_n 2, 1), (26, .iinc 3 1, 3), (29, .goto (-25), 3), (32, .iload_n 2, 1), (33, .ireturn, 1)]
set_option maxRecDepth 100000 in
theorem eX5_mirrorBits : mf_dec cX5_mirrorBits LX5_mirrorBits = true := by decide +kernel
set_option maxRecDepth 100000 in
theorem okX5_mirrorBits : mf_ok YX5_mirrorBits 2 := ⟨mf_m5 (i := 10) rfl rfl, mf_m1 (i := 16) rfl rfl, by decide +kernel, by decide⟩
abbrev YX5_takeSeen : mf_Y := (yX5_takeSeen, cX5_takeSeen, 4, (some .boolean))
def LX5_takeSeen_p0 : List (Nat × Instr × Nat) := [(0, .aload_n 2, 1), (1, .getfield 129, 3), (4, .iconst 2, 1), (5, .if_icmp .lt 21, 3), (8, .aload_n 2, 1), (9, .getfield 129, 3), (12, .bipush 32, 2), (14, .if_icmp .gt 12, 3), (17, .aload_n 2, 1), (18, .getfield 129, 3), (21, .iconst 2, 1), (22, .irem, 1), (23, .ifCond .eq 5, 3), (26, .iconst 0, 1), (27, .ireturn, 1), (28, .iconst 0, 1), (29, .istore_n 3, 1), (30, .iload_n 3, 1), (31, .aload_n 2, 1), (32, .getfield 129, 3), (35, .if_icmp .ge 37, 3), (38, .aload_n 2, 1), (39, .iload_n 3, 1), (40, .invokevirtual 134, 3), (43, .aload_n 1, 1), (44, .getfield 137, 3), (47, .if_icmp .ge 17, 3), (50, .aload_n 2, 1), (51, .iload_n 3, 1), (52, .iconst 1, 1), (53, .iadd, 1), (54, .invokevirtual 134, 3), (57, .aload_n 1, 1), (58, .getfield 119, 3), (61, .if_icmp .lt 5, 3), (64, .iconst 0, 1), (65, .ireturn, 1), (66, .iinc 3 2, 3), (69, .goto (-39), 3), (72, .aload_n 0, 1), (73, .aload_n 2, 1), (74, .getfield 129, 3), (77, .iconst 2, 1), (78, .idiv, 1), (79, .putfield 140, 3), (82, .iconst 0, 1), (83, .istore_n 3, 1), (84, .iload_n 3, 1), (85, .aload_n 0, 1), (86, .getfield 140, 3), (89, .if_icmp .ge 43, 3), (92, .iload_n 3, 1), (93, .bipush 16, 2), (95, .if_icmp .ge 37, 3), (98, .aload_n 0, 1), (99, .getfield 38, 3), (102, .iload_n 3, 1), (103, .aload_n 2, 1), (104, .iconst 2, 1), (105, .iload_n 3, 1)]
set_option maxRecDepth 100000 in
theorem eX5_takeSeen_p0 : mf_dec cX5_takeSeen LX5_takeSeen_p0 = true := by decide +kernel
def LX5_takeSeen_p1 : List (Nat × Instr × Nat) := [(106, .imul, 1), (107, .invokevirtual 134, 3), (110, .iastore, 1), (111, .aload_n 0, 1), (112, .getfield 41, 3), (115, .iload_n 3, 1), (116, .aload_n 2, 1), (117, .iconst 2, 1), (118, .iload_n 3, 1), (119, .imul, 1), (120, .iconst 1, 1), (121, .iadd, 1), (122, .invokevirtual 134, 3), (125, .iastore, 1), (126, .iinc 3 1, 3), (129, .goto (-45), 3), (132, .iconst 1, 1), (133, .ireturn, 1)]
set_option maxRecDepth 100000 in
theorem eX5_takeSeen_p1 : mf_dec cX5_takeSeen LX5_takeSeen_p1 = true := by decide +kernel
set_option maxRecDepth 100000 in
theorem okX5_takeSeen : mf_ok YX5_takeSeen 2 := ⟨mf_m5 (i := 19) rfl rfl, mf_m1 (i := 16) rfl rfl, by decide +kernel, by decide⟩
abbrev YX5_findOpenings : mf_Y := (yX5_findOpenings, cX5_findOpenings, 5, (some .int))
def LX5_findOpenings : List (Nat × Instr × Nat) := [(0, .iconst 0, 1), (1, .istore_n 3, 1), (2, .iconst 0, 1), (3, .istore 4, 2), (5, .iload 4, 2), (7, .aload_n 1, 1), (8, .getfield 54, 3), (11, .if_icmp .gt 72, 3), (14, .aload_n 0, 1), (15, .getfield 18, 3), (18, .aload_n 2, 1), (19, .invokevirtual 73, 3), (22, .aload_n 0, 1), (23, .getfield 44, 3), (26, .aload_n 1, 1), (27, .aload_n 0, 1), (28, .getfield 18, 3), (31, .iload 4, 2), (33, .invokevirtual 77, 3), (36, .pop, 1), (37, .aload_n 0, 1), (38, .getfield 18, 3), (41, .getfield 93, 3), (44, .iconst 0, 1), (45, .aload_n 0, 1), (46, .getfield 35, 3), (49, .iload 4, 2), (51, .bipush 8, 2), (53, .imul, 1), (54, .bipush 8, 2), (56, .invokestatic 67, 3), (59, .aload_n 0, 1), (60, .aload_n 0, 1), (61, .getfield 18, 3), (64, .invokevirtual 143, 3), (67, .ifCond .eq 10, 3), (70, .iload_n 3, 1), (71, .iconst 1, 1), (72, .iload 4, 2), (74, .ishl, 1), (75, .ior, 1), (76, .istore_n 3, 1), (77, .iinc 4 1, 3), (80, .goto (-75), 3), (83, .iload_n 3, 1), (84, .ireturn, 1)]
set_option maxRecDepth 100000 in
theorem eX5_findOpenings : mf_dec cX5_findOpenings LX5_findOpenings = true := by decide +kernel
set_option maxRecDepth 100000 in
theorem okX5_findOpenings : mf_ok YX5_findOpenings 2 := ⟨mf_m5 (i := 31) rfl rfl, mf_m1 (i := 16) rfl rfl, by decide +kernel, by decide⟩
abbrev YX5_isAsSeen : mf_Y := (yX5_isAsSeen, cX5_isAsSeen, 3, (some .boolean))
def LX5_isAsSeen : List (Nat × Instr × Nat) := [(0, .iconst 0, 1), (1, .istore_n 2, 1), (2, .iload_n 2, 1), (3, .aload_n 0, 1), (4, .getfield 140, 3), (7, .if_icmp .ge 37, 3), (10, .iload_n 2, 1), (11, .bipush 16, 2), (13, .if_icmp .ge 31, 3), (16, .aload_n 1, 1), (17, .getfield 93, 3), (20, .aload_n 0, 1), (21, .getfield 38, 3), (24, .iload_n 2, 1), (25, .iaload, 1), (26, .iaload, 1), (27, .aload_n 0, 1), (28, .getfield 41, 3), (31, .iload_n 2, 1), (32, .iaload, 1), (33, .if_icmp .eq 5, 3), (36, .iconst 0, 1), (37, .ireturn, 1), (38, .iinc 2 1, 3), (41, .goto (-39), 3), (44, .iconst 1, 1), (45, .ireturn, 1)]
set_option maxRecDepth 100000 in
theorem eX5_isAsSeen : mf_dec cX5_isAsSeen LX5_isAsSeen = true := by decide +kernel
set_option maxRecDepth 100000 in
theorem okX5_isAsSeen : mf_ok YX5_isAsSeen 1 := ⟨mf_m5 (i := 35) rfl rfl, mf_m1 (i := 16) rfl rfl, by decide +kernel, by decide⟩
abbrev YX5_askAfter : mf_Y := (yX5_askAfter, cX5_askAfter, 9, (some .int))
def LX5_askAfter : List (Nat × Instr × Nat) := [(0, .aload_n 0, 1), (1, .aload_n 1, 1), (2, .aload_n 2, 1), (3, .invokevirtual 147, 3), (6, .istore 4, 2), (8, .iload 4, 2), (10, .ifCond .ne 5, 3), (13, .iconst (-1), 1), (14, .ireturn, 1), (15, .iconst (-1), 1), (16, .istore 5, 2), (18, .iconst (-1), 1), (19, .istore 6, 2), (21, .iconst 0, 1), (22, .istore 7, 2), (24, .iload 7, 2), (26, .aload_n 1, 1), (27, .getfield 137, 3), (30, .if_icmp .ge 41, 3), (33, .aload_n 0, 1), (34, .aload_n 1, 1), (35, .iload 7, 2), (37, .iload 4, 2), (39, .invokevirtual 151, 3), (42, .istore 8, 2), (44, .iload 5, 2), (46, .iconst (-1), 1), (47, .if_icmp .eq 10, 3), (50, .iload 8, 2), (52, .iload 6, 2), (54, .if_icmp .ge 11, 3), (57, .iload 7, 2), (59, .istore 5, 2), (61, .iload 8, 2), (63, .istore 6, 2), (65, .iinc 7 1, 3), (68, .goto (-44), 3), (71, .iload_n 3, 1), (72, .ifCond .ne 8, 3), (75, .iload 5, 2), (77, .goto 5, 3), (80, .iload 6, 2), (82, .ireturn, 1)]
set_option maxRecDepth 100000 in
theorem eX5_askAfter : mf_dec cX5_askAfter LX5_askAfter = true := by decide +kernel
set_option maxRecDepth 100000 in
theorem okX5_askAfter : mf_ok YX5_askAfter 3 := ⟨mf_m5 (i := 44) rfl rfl, mf_m1 (i := 16) rfl rfl, by decide +kernel, by decide⟩
abbrev YX5_mostLeft : mf_Y := (yX5_mostLeft, cX5_mostLeft, 8, (some .int))
def LX5_mostLeft : List (Nat × Instr × Nat) := [(0, .iconst 0, 1), (1, .istore 4, 2), (3, .iconst 0, 1), (4, .istore 5, 2), (6, .iload 5, 2), (8, .aload_n 1, 1), (9, .getfield 119, 3), (12, .if_icmp .ge 69, 3), (15, .iconst 0, 1), (16, .istore 6, 2), (18, .iconst 0, 1), (19, .istore 7, 2), (21, .iload 7, 2), (23, .aload_n 1, 1), (24, .getfield 54, 3), (27, .if_icmp .gt 39, 3), (30, .iload_n 3, 1), (31, .iload 7, 2), (33, .ishr, 1), (34, .iconst 1, 1), (35, .iand, 1), (36, .iconst 1, 1), (37, .if_icmp .ne 23, 3), (40, .aload_n 0, 1), (41, .getfield 35, 3), (44, .iload 7, 2), (46, .bipush 8, 2), (48, .imul, 1), (49, .iload_n 2, 1), (50, .iadd, 1), (51, .iaload, 1), (52, .iload 5, 2), (54, .if_icmp .ne 6, 3), (57, .iinc 6 1, 3), (60, .iinc 7 1, 3), (63, .goto (-42), 3), (66, .iload 4, 2), (68, .iload 6, 2), (70, .invokestatic 155, 3), (73, .istore 4, 2), (75, .iinc 5 1, 3), (78, .goto (-72), 3), (81, .iload 4, 2), (83, .ireturn, 1)]
set_option maxRecDepth 100000 in
theorem eX5_mostLeft : mf_dec cX5_mostLeft LX5_mostLeft = true := by decide +kernel
set_option maxRecDepth 100000 in
theorem okX5_mostLeft : mf_ok YX5_mostLeft 3 := ⟨mf_m5 (i := 49) rfl rfl, mf_m1 (i := 16) rfl rfl, by decide +kernel, by decide⟩
abbrev YX5_findTrim : mf_Y := (yX5_findTrim, cX5_findTrim, 9, (some .int))
def LX5_findTrim : List (Nat × Instr × Nat) := [(0, .aload_n 1, 1), (1, .getfield 119, 3), (4, .iload 4, 2), (6, .isub, 1), (7, .istore 5, 2), (9, .iload 5, 2), (11, .iconst 1, 1), (12, .isub, 1), (13, .istore 6, 2), (15, .iconst 0, 1), (16, .istore 7, 2), (18, .iload 5, 2), (20, .istore 8, 2), (22, .iload 8, 2), (24, .aload_n 1, 1), (25, .getfield 119, 3), (28, .if_icmp .ge 69, 3), (31, .aload_n 2, 1), (32, .iload_n 3, 1), (33, .iload 8, 2), (35, .aload_n 1, 1), (36, .getfield 137, 3), (39, .invokevirtual 161, 3), (42, .iconst (-1), 1), (43, .if_icmp .eq 48, 3), (46, .iload 6, 2), (48, .ifCond .lt 23, 3), (51, .aload_n 2, 1), (52, .iload_n 3, 1), (53, .iload 6, 2), (55, .aload_n 1, 1), (56, .getfield 137, 3), (59, .invokevirtual 165, 3), (62, .ifCond .ne 9, 3), (65, .iinc 6 (-1), 3), (68, .goto (-22), 3), (71, .iload 6, 2), (73, .ifCond .ge 5, 3), (76, .iconst (-1), 1), (77, .ireturn, 1), (78, .iload 7, 2), (80, .iload 8, 2), (82, .iload 6, 2), (84, .isub, 1), (85, .iadd, 1), (86, .istore 7, 2), (88, .iinc 6 (-1), 3), (91, .iinc 8 1, 3), (94, .goto (-72), 3), (97, .iload 7, 2), (99, .ireturn, 1)]
set_option maxRecDepth 100000 in
theorem eX5_findTrim : mf_dec cX5_findTrim LX5_findTrim = true := by decide +kernel
set_option maxRecDepth 100000 in
theorem okX5_findTrim : mf_ok YX5_findTrim 4 := ⟨mf_m5 (i := 58) rfl rfl, mf_m1 (i := 16) rfl rfl, by decide +kernel, by decide⟩
abbrev YX6_init : mf_Y := (yX6_init, cX6_init, 1, none)
def LX6_init : List (Nat × Instr × Nat) := [(0, .aload_n 0, 1), (1, .invokespecial 3, 3), (4, .aload_n 0, 1), (5, .bipush 6, 2), (7, .newarray .int, 2), (9, .putfield 9, 3), (12, .aload_n 0, 1), (13, .bipush 8, 2), (15, .newarray .int, 2), (17, .putfield 15, 3), (20, .aload_n 0, 1), (21, .bipush 8, 2), (23, .newarray .int, 2), (25, .putfield 18, 3), (28, .aload_n 0, 1), (29, .bipush 8, 2), (31, .newarray .int, 2), (33, .putfield 21, 3), (36, .aload_n 0, 1), (37, .bipush 8, 2), (39, .newarray .int, 2), (41, .putfield 24, 3), (44, .aload_n 0, 1), (45, .bipush 40, 2), (47, .newarray .int, 2), (49, .putfield 27, 3), (52, .return_, 1)]
set_option maxRecDepth 100000 in
theorem eX6_init : mf_dec cX6_init LX6_init = true := by decide +kernel
set_option maxRecDepth 100000 in
theorem okX6_init : mf_ok YX6_init 0 := ⟨mf_m1 (i := 215) rfl rfl, mf_m1 (i := 12) rfl rfl, by decide +kernel, by decide⟩
abbrev YX6_forget : mf_Y := (yX6_forget, cX6_forget, 2, none)
def LX6_forget : List (Nat × Instr × Nat) := [(0, .aload_n 0, 1), (1, .iconst 0, 1), (2, .putfield 30, 3), (5, .aload_n 0, 1), (6, .iconst 0, 1), (7, .putfield 34, 3), (10, .iconst 0, 1), (11, .istore_n 1, 1), (12, .iload_n 1, 1), (13, .aload_n 0, 1), (14, .getfield 9, 3), (17, .arraylength, 1), (18, .if_icmp .ge 16, 3), (21, .aload_n 0, 1), (22, .getfield 9, 3), (25, .iload_n 1, 1), (26, .iconst 0, 1), (27, .iastore, 1), (28, .iinc 1 1, 3), (31, .goto (-19), 3), (34, .return_, 1)]
set_option maxRecDepth 100000 in
theorem eX6_forget : mf_dec cX6_forget LX6_forget = true := by decide +kernel
set_option maxRecDepth 100000 in
theorem okX6_forget : mf_ok YX6_forget 0 := ⟨mf_m3 (i := 53) rfl rfl, mf_m1 (i := 12) rfl rfl, by decide +kernel, by decide⟩
abbrev YX6_copyAll : mf_Y := (yX6_copyAll, cX6_copyAll, 2, none)
def LX6_copyAll : List (Nat × Instr × Nat) := [(0, .aload_n 0, 1), (1, .aload_n 1, 1), (2, .invokevirtual 37, 3), (5, .aload_n 1, 1), (6, .getfield 27, 3), (9, .iconst 0, 1), (10, .aload_n 0, 1), (11, .getfield 27, 3), (14, .iconst 0, 1), (15, .bipush 40, 2), (17, .invokestatic 41, 3), (20, .aload_n 0, 1), (21, .aload_n 1, 1), (22, .getfield 34, 3), (25, .putfield 34, 3), (28, .return_, 1)]
set_option maxRecDepth 100000 in
theorem eX6_copyAll : mf_dec cX6_copyAll LX6_copyAll = true := by decide +kernel
set_option maxRecDepth 100000 in
theorem okX6_copyAll : mf_ok YX6_copyAll 1 := ⟨mf_m4 (i := 17) rfl rfl, mf_m1 (i := 12) rfl rfl, by decide +kernel, by decide⟩
abbrev YX6_copyFolk : mf_Y := (yX6_copyFolk, cX6_copyFolk, 2, none)
def LX6_copyFolk : List (Nat × Instr × Nat) := [(0, .aload_n 0, 1), (1, .aload_n 1, 1), (2, .getfield 30, 3), (5, .putfield 30, 3), (8, .aload_n 1, 1), (9, .getfield 9, 3), (12, .iconst 0, 1), (13, .aload_n 0, 1), (14, .getfield 9, 3), (17, .iconst 0, 1), (18, .bipush 6, 2), (20, .invokestatic 41, 3), (23, .aload_n 1, 1), (24, .getfield 15, 3), (27, .iconst 0, 1), (28, .aload_n 0, 1), (29, .getfield 15, 3), (32, .iconst 0, 1), (33, .bipush 8, 2), (35, .invokestatic 41, 3), (38, .aload_n 1, 1), (39, .getfield 18, 3), (42, .iconst 0, 1), (43, .aload_n 0, 1), (44, .getfield 18, 3), (47, .iconst 0, 1), (48, .bipush 8, 2), (50, .invokestatic 41, 3), (53, .aload_n 1, 1), (54, .getfield 21, 3), (57, .iconst 0, 1), (58, .aload_n 0, 1), (59, .getfield 21, 3), (62, .iconst 0, 1), (63, .bipush 8, 2), (65, .invokestatic 41, 3), (68, .aload_n 1, 1), (69, .getfield 24, 3), (72, .iconst 0, 1), (73, .aload_n 0, 1), (74, .getfield 24, 3), (77, .iconst 0, 1), (78, .bipush 8, 2), (80, .invokestatic 41, 3), (83, .return_, 1)]
set_option maxRecDepth 100000 in
theorem eX6_copyFolk : mf_dec cX6_copyFolk LX6_copyFolk = true := by decide +kernel
set_option maxRecDepth 100000 in
theorem okX6_copyFolk : mf_ok YX6_copyFolk 1 := ⟨mf_m4 (i := 21) rfl rfl, mf_m1 (i := 12) rfl rfl, by decide +kernel, by decide⟩
abbrev YX6_hasGloss : mf_Y := (yX6_hasGloss, cX6_hasGloss, 3, (some .boolean))
def LX6_hasGloss : List (Nat × Instr × Nat) := [(0, .iload_n 1, 1), (1, .ifCond .lt 30, 3), (4, .iload_n 1, 1), (5, .aload_n 0, 1), (6, .getfield 9, 3), (9, .arraylength, 1), (10, .if_icmp .ge 21, 3), (13, .aload_n 0, 1), (14, .getfield 9, 3), (17, .iload_n 1, 1), (18, .iaload, 1), (19, .iload_n 2, 1), (20, .ishr, 1), (21, .iconst 1, 1), (22, .iand, 1), (23, .iconst 1, 1), (24, .if_icmp .ne 7, 3), (27, .iconst 1, 1), (28, .goto 4, 3), (31, .iconst 0, 1), (32, .ireturn, 1)]
set_option maxRecDepth 100000 in
theorem eX6_hasGloss : mf_dec cX6_hasGloss LX6_hasGloss = true := by decide +kernel
set_option maxRecDepth 100000 in
theorem okX6_hasGloss : mf_ok YX6_hasGloss 2 := ⟨mf_m3 (i := 137) rfl rfl, mf_m1 (i := 12) rfl rfl, by decide +kernel, by decide⟩
abbrev YX6_writeGloss : mf_Y := (yX6_writeGloss, cX6_writeGloss, 3, none)
def LX6_writeGloss : List (Nat × Instr × Nat) := [(0, .iload_n 1, 1), (1, .ifCond .lt 24, 3), (4, .iload_n 1, 1), (5, .aload_n 0, 1), (6, .getfield 9, 3), (9, .arraylength, 1), (10, .if_icmp .ge 15, 3), (13, .aload_n 0, 1), (14, .getfield 9, 3), (17, .iload_n 1, 1), (18, .dup2, 1), (19, .iaload, 1), (20, .iconst 1, 1), (21, .iload_n 2, 1), (22, .ishl, 1), (23, .ior, 1), (24, .iastore, 1), (25, .return_, 1)]
set_option maxRecDepth 100000 in
theorem eX6_writeGloss : mf_dec cX6_writeGloss LX6_writeGloss = true := by decide +kernel
set_option maxRecDepth 100000 in
theorem okX6_writeGloss : mf_ok YX6_writeGloss 2 := ⟨mf_m3 (i := 145) rfl rfl, mf_m1 (i := 12) rfl rfl, by decide +kernel, by decide⟩
abbrev YX6_countGlosses : mf_Y := (yX6_countGlosses, cX6_countGlosses, 3, (some .int))
def LX6_countGlosses : List (Nat × Instr × Nat) := [(0, .iconst 0, 1), (1, .istore_n 1, 1), (2, .iconst 0, 1), (3, .istore_n 2, 1), (4, .iload_n 2, 1), (5, .aload_n 0, 1), (6, .getfield 9, 3), (9, .arraylength, 1), (10, .if_icmp .ge 21, 3), (13, .iload_n 1, 1), (14, .aload_n 0, 1), (15, .getfield 9, 3), (18, .iload_n 2, 1), (19, .iaload, 1), (20, .invokestatic 47, 3), (23, .iadd, 1), (24, .istore_n 1, 1), (25, .iinc 2 1, 3), (28, .goto (-24), 3), (31, .iload_n 1, 1), (32, .ireturn, 1)]
set_option maxRecDepth 100000 in
theorem eX6_countGlosses : mf_dec cX6_countGlosses LX6_countGlosses = true := by decide +kernel
set_option maxRecDepth 100000 in
theorem okX6_countGlosses : mf_ok YX6_countGlosses 0 := ⟨mf_m4 (i := 36) rfl rfl, mf_m1 (i := 12) rfl rfl, by decide +kernel, by decide⟩
abbrev YX6_whoStands : mf_Y := (yX6_whoStands, cX6_whoStands, 5, (some .int))
def LX6_whoStands : List (Nat × Instr × Nat) := [(0, .iconst 0, 1), (1, .istore 4, 2), (3, .iload 4, 2), (5, .iload_n 3, 1), (6, .if_icmp .ge 41, 3), (9, .iload 4, 2), (11, .bipush 8, 2), (13, .if_icmp .ge 34, 3), (16, .aload_n 0, 1), (17, .getfield 15, 3), (20, .iload 4, 2), (22, .iaload, 1), (23, .iload_n 1, 1), (24, .if_icmp .ne 17, 3), (27, .aload_n 0, 1), (28, .getfield 18, 3), (31, .iload 4, 2), (33, .iaload, 1), (34, .iload_n 2, 1), (35, .if_icmp .ne 6, 3), (38, .iload 4, 2), (40, .ireturn, 1), (41, .iinc 4 1, 3), (44, .goto (-41), 3), (47, .iconst (-1), 1), (48, .ireturn, 1)]
set_option maxRecDepth 100000 in
theorem eX6_whoStands : mf_dec cX6_whoStands LX6_whoStands = true := by decide +kernel
set_option maxRecDepth 100000 in
theorem okX6_whoStands : mf_ok YX6_whoStands 3 := ⟨mf_m3 (i := 141) rfl rfl, mf_m1 (i := 12) rfl rfl, by decide +kernel, by decide⟩
abbrev YX6_isFree : mf_Y := (yX6_isFree, cX6_isFree, 4, (some .boolean))
def LX6_isFree : List (Nat × Instr × Nat) := [(0, .aload_n 0, 1), (1, .iload_n 1, 1), (2, .iload_n 2, 1), (3, .invokevirtual 53, 3), (6, .ifCond .ne 18, 3), (9, .aload_n 0, 1), (10, .iload_n 1, 1), (11, .iload_n 2, 1), (12, .iload_n 3, 1), (13, .invokevirtual 57, 3), (16, .iconst (-1), 1), (17, .if_icmp .ne 7, 3), (20, .iconst 1, 1), (21, .goto 4, 3), (24, .iconst 0, 1), (25, .ireturn, 1)]
set_option maxRecDepth 100000 in
theorem eX6_isFree : mf_dec cX6_isFree LX6_isFree = true := by decide +kernel
set_option maxRecDepth 100000 in
theorem okX6_isFree : mf_ok YX6_isFree 3 := ⟨mf_m3 (i := 133) rfl rfl, mf_m1 (i := 12) rfl rfl, by decide +kernel, by decide⟩
abbrev YX6_addPurse : mf_Y := (yX6_addPurse, cX6_addPurse, 3, none)
def LX6_addPurse : List (Nat × Instr × Nat) := [(0, .iload_n 1, 1), (1, .ifCond .lt 36, 3), (4, .iload_n 1, 1), (5, .aload_n 0, 1), (6, .getfield 21, 3), (9, .arraylength, 1), (10, .if_icmp .ge 27, 3), (13, .aload_n 0, 1), (14, .getfield 21, 3), (17, .iload_n 1, 1), (18, .iconst 0, 1), (19, .sipush 9999, 3), (22, .aload_n 0, 1), (23, .getfield 21, 3), (26, .iload_n 1, 1), (27, .iaload, 1), (28, .iload_n 2, 1), (29, .iadd, 1), (30, .invokestatic 61, 3), (33, .invokestatic 67, 3), (36, .iastore, 1), (37, .return_, 1)]
set_option maxRecDepth 100000 in
theorem eX6_addPurse : mf_dec cX6_addPurse LX6_addPurse = true := by decide +kernel
set_option maxRecDepth 100000 in
theorem okX6_addPurse : mf_ok YX6_addPurse 2 := ⟨mf_m4 (i := 211) rfl rfl, mf_m1 (i := 12) rfl rfl, by decide +kernel, by decide⟩
abbrev YX6_keep : mf_Y := (yX6_keep, cX6_keep, 3, none)
def LX6_keep : List (Nat × Instr × Nat) := [(0, .aload_n 0, 1), (1, .getfield 27, 3), (4, .aload_n 0, 1), (5, .getfield 34, 3), (8, .bipush 40, 2), (10, .invokestatic 70, 3), (13, .aload_n 0, 1), (14, .getfield 30, 3), (17, .bipush 64, 2), (19, .imul, 1), (20, .iload_n 1, 1), (21, .bipush 8, 2), (23, .imul, 1), (24, .iadd, 1), (25, .iload_n 2, 1), (26, .iadd, 1), (27, .iastore, 1), (28, .aload_n 0, 1), (29, .dup, 1), (30, .getfield 34, 3), (33, .iconst 1, 1), (34, .iadd, 1), (35, .putfield 34, 3), (38, .return_, 1)]
set_option maxRecDepth 100000 in
theorem eX6_keep : mf_dec cX6_keep LX6_keep = true := by decide +kernel
