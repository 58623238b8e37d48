abbrev YX0_init : mf_Y := (yX0_init, cX0_init, 1, none)
def LX0_init : List (Nat × Instr × Nat) := [(0, .aload_n 0, 1), (1, .invokespecial 3, 3), (4, .aload_n 0, 1), (5, .new 9, 3), (8, .dup, 1), (9, .invokespecial 11, 3), (12, .putfield 12, 3), (15, .return_, 1)]
set_option maxRecDepth 100000 in
theorem eX0_init : mf_dec cX0_init LX0_init = true := by decide +kernel
set_option maxRecDepth 100000 in
theorem okX0_init : mf_ok YX0_init 0 := ⟨mf_m2 (i := 124) rfl rfl, mf_m1 (i := 14) rfl rfl, by decide +kernel, by decide⟩
abbrev YX0_liesOpen : mf_Y := (yX0_liesOpen, cX0_liesOpen, 2, (some .boolean))
def LX0_liesOpen : List (Nat × Instr × Nat) := [(0, .iload_n 1, 1), (1, .iload_n 0, 1), (2, .iconst 1, 1), (3, .isub, 1), (4, .if_icmp .eq 8, 3), (7, .iload_n 1, 1), (8, .iload_n 0, 1), (9, .if_icmp .ne 7, 3), (12, .iconst 1, 1), (13, .goto 4, 3), (16, .iconst 0, 1), (17, .ireturn, 1)]
set_option maxRecDepth 100000 in
theorem eX0_liesOpen : mf_dec cX0_liesOpen LX0_liesOpen = true := by decide +kernel
set_option maxRecDepth 100000 in
theorem okX0_liesOpen : mf_ok YX0_liesOpen 2 := ⟨mf_m4 (i := 109) rfl rfl, mf_m1 (i := 14) rfl rfl, by decide +kernel, by decide⟩
abbrev YX0_liesOnNext : mf_Y := (yX0_liesOnNext, cX0_liesOnNext, 3, (some .boolean))
def LX0_liesOnNext : List (Nat × Instr × Nat) := [(0, .iload_n 2, 1), (1, .ifCond .lt 25, 3), (4, .iload_n 2, 1), (5, .iconst 1, 1), (6, .iadd, 1), (7, .aload_n 0, 1), (8, .getfield 18, 3), (11, .if_icmp .ge 15, 3), (14, .iload_n 1, 1), (15, .iload_n 2, 1), (16, .invokestatic 24, 3), (19, .ifCond .ne 7, 3), (22, .iconst 1, 1), (23, .goto 4, 3), (26, .iconst 0, 1), (27, .ireturn, 1)]
set_option maxRecDepth 100000 in
theorem eX0_liesOnNext : mf_dec cX0_liesOnNext LX0_liesOnNext = true := by decide +kernel
set_option maxRecDepth 100000 in
theorem okX0_liesOnNext : mf_ok YX0_liesOnNext 3 := ⟨mf_m4 (i := 126) rfl rfl, mf_m1 (i := 14) rfl rfl, by decide +kernel, by decide⟩
abbrev YX0_meet : mf_Y := (yX0_meet, cX0_meet, 7, (some .boolean))
def LX0_meet : List (Nat × Instr × Nat) := [(0, .aload_n 1, 1), (1, .getfield 28, 3), (4, .iload_n 2, 1), (5, .iaload, 1), (6, .aload_n 1, 1), (7, .getfield 28, 3), (10, .iload_n 3, 1), (11, .iaload, 1), (12, .invokestatic 34, 3), (15, .istore 5, 2), (17, .aload_n 1, 1), (18, .getfield 28, 3), (21, .iload_n 2, 1), (22, .iaload, 1), (23, .aload_n 1, 1), (24, .getfield 28, 3), (27, .iload_n 3, 1), (28, .iaload, 1), (29, .invokestatic 40, 3), (32, .istore 6, 2), (34, .iload 6, 2), (36, .iload 5, 2), (38, .iconst 1, 1), (39, .iadd, 1), (40, .if_icmp .ne 37, 3), (43, .aload_n 1, 1), (44, .getfield 43, 3), (47, .iload_n 2, 1), (48, .iaload, 1), (49, .aload_n 0, 1), (50, .aload_n 1, 1), (51, .getfield 43, 3), (54, .iload_n 3, 1), (55, .iaload, 1), (56, .invokevirtual 46, 3), (59, .if_icmp .ne 18, 3), (62, .aload_n 0, 1), (63, .iload 4, 2), (65, .iload 5, 2), (67, .invokestatic 50, 3), (70, .ifCond .eq 7, 3), (73, .iconst 1, 1), (74, .goto 4, 3), (77, .iconst 0, 1), (78, .ireturn, 1)]
set_option maxRecDepth 100000 in
theorem eX0_meet : mf_dec cX0_meet LX0_meet = true := by decide +kernel
set_option maxRecDepth 100000 in
theorem okX0_meet : mf_ok YX0_meet 5 := ⟨mf_m4 (i := 148) rfl rfl, mf_m1 (i := 14) rfl rfl, by decide +kernel, by decide⟩
abbrev YX0_countPairs : mf_Y := (yX0_countPairs, cX0_countPairs, 6, (some .int))
def LX0_countPairs : List (Nat × Instr × Nat) := [(0, .iconst 0, 1), (1, .istore_n 3, 1), (2, .iconst 0, 1), (3, .istore 4, 2), (5, .iload 4, 2), (7, .aload_n 0, 1), (8, .getfield 54, 3), (11, .if_icmp .ge 51, 3), (14, .iload 4, 2), (16, .iconst 1, 1), (17, .iadd, 1), (18, .istore 5, 2), (20, .iload 5, 2), (22, .aload_n 0, 1), (23, .getfield 54, 3), (26, .if_icmp .ge 30, 3), (29, .iload_n 3, 1), (30, .aload_n 0, 1), (31, .aload_n 1, 1), (32, .iload 4, 2), (34, .iload 5, 2), (36, .iload_n 2, 1), (37, .invokestatic 57, 3), (40, .ifCond .eq 7, 3), (43, .iconst 1, 1), (44, .goto 4, 3), (47, .iconst 0, 1), (48, .iadd, 1), (49, .istore_n 3, 1), (50, .iinc 5 1, 3), (53, .goto (-33), 3), (56, .iinc 4 1, 3), (59, .goto (-54), 3), (62, .iload_n 3, 1), (63, .ireturn, 1)]
set_option maxRecDepth 100000 in
theorem eX0_countPairs : mf_dec cX0_countPairs LX0_countPairs = true := by decide +kernel
set_option maxRecDepth 100000 in
theorem okX0_countPairs : mf_ok YX0_countPairs 3 := ⟨mf_m4 (i := 159) rfl rfl, mf_m1 (i := 14) rfl rfl, by decide +kernel, by decide⟩
abbrev YX0_openingOf : mf_Y := (yX0_openingOf, cX0_openingOf, 4, (some .int))
def LX0_openingOf : List (Nat × Instr × Nat) := [(0, .aload_n 0, 1), (1, .getfield 12, 3), (4, .getfield 61, 3), (7, .iconst 0, 1), (8, .iload_n 2, 1), (9, .iastore, 1), (10, .aload_n 0, 1), (11, .getfield 12, 3), (14, .aload_n 1, 1), (15, .getfield 66, 3), (18, .iconst 0, 1), (19, .invokevirtual 72, 3), (22, .istore_n 3, 1), (23, .aload_n 1, 1), (24, .getfield 18, 3), (27, .iconst 1, 1), (28, .if_icmp .ge 7, 3), (31, .iconst 0, 1), (32, .goto 13, 3), (35, .iload_n 3, 1), (36, .aload_n 1, 1), (37, .getfield 18, 3), (40, .iconst 1, 1), (41, .iadd, 1), (42, .invokestatic 76, 3), (45, .ireturn, 1)]
set_option maxRecDepth 100000 in
theorem eX0_openingOf : mf_dec cX0_openingOf LX0_openingOf = true := by decide +kernel
set_option maxRecDepth 100000 in
theorem okX0_openingOf : mf_ok YX0_openingOf 2 := ⟨mf_m4 (i := 46) rfl rfl, mf_m1 (i := 14) rfl rfl, by decide +kernel, by decide⟩
abbrev YX0_passDay : mf_Y := (yX0_passDay, cX0_passDay, 7, (some .int))
def LX0_passDay_p0 : List (Nat × Instr × Nat) := [(0, .iconst 0, 1), (1, .istore 4, 2), (3, .iconst 0, 1), (4, .istore 5, 2), (6, .iload 5, 2), (8, .aload_n 1, 1), (9, .getfield 54, 3), (12, .if_icmp .ge 57, 3), (15, .iload 5, 2), (17, .iconst 1, 1), (18, .iadd, 1), (19, .istore 6, 2), (21, .iload 6, 2), (23, .aload_n 1, 1), (24, .getfield 54, 3), (27, .if_icmp .ge 36, 3), (30, .aload_n 1, 1), (31, .aload_n 2, 1), (32, .iload 5, 2), (34, .iload 6, 2), (36, .iload_n 3, 1), (37, .invokestatic 57, 3), (40, .ifCond .eq 17, 3), (43, .iinc 4 1, 3), (46, .aload_n 0, 1), (47, .aload_n 1, 1), (48, .aload_n 2, 1), (49, .iload 5, 2), (51, .iload 6, 2), (53, .iload_n 3, 1), (54, .invokevirtual 79, 3), (57, .iinc 6 1, 3), (60, .goto (-39), 3), (63, .iinc 5 1, 3), (66, .goto (-60), 3), (69, .iconst 0, 1), (70, .istore 5, 2), (72, .iload 5, 2), (74, .aload_n 1, 1), (75, .getfield 54, 3), (78, .if_icmp .ge 18, 3), (81, .aload_n 0, 1), (82, .aload_n 1, 1), (83, .aload_n 2, 1), (84, .iload 5, 2), (86, .iload_n 3, 1), (87, .invokevirtual 83, 3), (90, .iinc 5 1, 3), (93, .goto (-21), 3), (96, .iconst 0, 1), (97, .istore 5, 2), (99, .iload 5, 2), (101, .aload_n 1, 1), (102, .getfield 54, 3), (105, .if_icmp .ge 18, 3), (108, .aload_n 0, 1), (109, .aload_n 1, 1), (110, .aload_n 2, 1), (111, .iload 5, 2), (113, .iload_n 3, 1)]
set_option maxRecDepth 100000 in
theorem eX0_passDay_p0 : mf_dec cX0_passDay LX0_passDay_p0 = true := by decide +kernel
def LX0_passDay_p1 : List (Nat × Instr × Nat) := [(114, .invokevirtual 87, 3), (117, .iinc 5 1, 3), (120, .goto (-21), 3), (123, .aload_n 2, 1), (124, .dup, 1), (125, .getfield 90, 3), (128, .iconst 1, 1), (129, .iadd, 1), (130, .putfield 90, 3), (133, .iload 4, 2), (135, .ireturn, 1)]
set_option maxRecDepth 100000 in
theorem eX0_passDay_p1 : mf_dec cX0_passDay LX0_passDay_p1 = true := by decide +kernel
set_option maxRecDepth 100000 in
theorem okX0_passDay : mf_ok YX0_passDay 3 := ⟨mf_m4 (i := 191) rfl rfl, mf_m1 (i := 14) rfl rfl, by decide +kernel, by decide⟩
abbrev YX0_meetUp : mf_Y := (yX0_meetUp, cX0_meetUp, 10, none)
def LX0_meetUp_p0 : List (Nat × Instr × Nat) := [(0, .aload_n 2, 1), (1, .getfield 93, 3), (4, .iload_n 3, 1), (5, .sipush 9999, 3), (8, .aload_n 2, 1), (9, .getfield 93, 3), (12, .iload_n 3, 1), (13, .iaload, 1), (14, .iconst 1, 1), (15, .iadd, 1), (16, .invokestatic 34, 3), (19, .iastore, 1), (20, .aload_n 2, 1), (21, .getfield 93, 3), (24, .iload 4, 2), (26, .sipush 9999, 3), (29, .aload_n 2, 1), (30, .getfield 93, 3), (33, .iload 4, 2), (35, .iaload, 1), (36, .iconst 1, 1), (37, .iadd, 1), (38, .invokestatic 34, 3), (41, .iastore, 1), (42, .aload_n 2, 1), (43, .iload_n 3, 1), (44, .iload 4, 2), (46, .invokevirtual 96, 3), (49, .iconst 1, 1), (50, .istore 6, 2), (52, .aload_n 1, 1), (53, .getfield 66, 3), (56, .iconst 2, 1), (57, .invokevirtual 100, 3), (60, .ifCond .eq 43, 3), (63, .aload_n 0, 1), (64, .aload_n 1, 1), (65, .aload_n 2, 1), (66, .iload_n 3, 1), (67, .iload 5, 2), (69, .invokevirtual 104, 3), (72, .aload_n 0, 1), (73, .getfield 12, 3), (76, .getfield 61, 3), (79, .bipush 6, 2), (81, .aload_n 1, 1), (82, .getfield 107, 3), (85, .iload 4, 2), (87, .iaload, 1), (88, .iastore, 1), (89, .aload_n 0, 1), (90, .getfield 12, 3), (93, .aload_n 1, 1), (94, .getfield 66, 3), (97, .iconst 2, 1), (98, .invokevirtual 72, 3), (101, .istore 6, 2), (103, .iload 6, 2), (105, .ifCond .ge 8, 3), (108, .iload 4, 2)]
set_option maxRecDepth 100000 in
theorem eX0_meetUp_p0 : mf_dec cX0_meetUp LX0_meetUp_p0 = true := by decide +kernel
def LX0_meetUp_p1 : List (Nat × Instr × Nat) := [(110, .goto 4, 3), (113, .iload_n 3, 1), (114, .istore 7, 2), (116, .iload 6, 2), (118, .ifCond .ge 7, 3), (121, .iload_n 3, 1), (122, .goto 5, 3), (125, .iload 4, 2), (127, .istore 8, 2), (129, .iload 6, 2), (131, .invokestatic 110, 3), (134, .aload_n 2, 1), (135, .getfield 113, 3), (138, .iload 7, 2), (140, .iaload, 1), (141, .invokestatic 34, 3), (144, .istore 9, 2), (146, .aload_n 2, 1), (147, .iload 7, 2), (149, .iload 9, 2), (151, .ineg, 1), (152, .invokevirtual 116, 3), (155, .aload_n 2, 1), (156, .iload 8, 2), (158, .iload 9, 2), (160, .invokevirtual 116, 3), (163, .return_, 1)]
set_option maxRecDepth 100000 in
theorem eX0_meetUp_p1 : mf_dec cX0_meetUp LX0_meetUp_p1 = true := by decide +kernel
set_option maxRecDepth 100000 in
theorem okX0_meetUp : mf_ok YX0_meetUp 5 := ⟨mf_m4 (i := 195) rfl rfl, mf_m1 (i := 14) rfl rfl, by decide +kernel, by decide⟩
abbrev YX0_reap : mf_Y := (yX0_reap, cX0_reap, 6, none)
def LX0_reap : List (Nat × Instr × Nat) := [(0, .aload_n 2, 1), (1, .getfield 43, 3), (4, .iload_n 3, 1), (5, .iaload, 1), (6, .istore 5, 2), (8, .aload_n 1, 1), (9, .getfield 66, 3), (12, .iconst 1, 1), (13, .invokevirtual 100, 3), (16, .ifCond .eq 26, 3), (19, .aload_n 0, 1), (20, .aload_n 1, 1), (21, .aload_n 2, 1), (22, .iload_n 3, 1), (23, .iload 4, 2), (25, .invokevirtual 104, 3), (28, .aload_n 0, 1), (29, .getfield 12, 3), (32, .aload_n 1, 1), (33, .getfield 66, 3), (36, .iconst 1, 1), (37, .invokevirtual 72, 3), (40, .istore 5, 2), (42, .aload_n 2, 1), (43, .iload_n 3, 1), (44, .bipush (-99), 2), (46, .bipush 99, 2), (48, .iload 5, 2), (50, .invokestatic 34, 3), (53, .invokestatic 40, 3), (56, .invokevirtual 116, 3), (59, .return_, 1)]
set_option maxRecDepth 100000 in
theorem eX0_reap : mf_dec cX0_reap LX0_reap = true := by decide +kernel
set_option maxRecDepth 100000 in
theorem okX0_reap : mf_ok YX0_reap 4 := ⟨mf_m4 (i := 216) rfl rfl, mf_m1 (i := 14) rfl rfl, by decide +kernel, by decide⟩
abbrev YX0_stepOutward : mf_Y := (yX0_stepOutward, cX0_stepOutward, 6, none)
def LX0_stepOutward : List (Nat × Instr × Nat) := [(0, .aload_n 2, 1), (1, .getfield 43, 3), (4, .iload_n 3, 1), (5, .iaload, 1), (6, .iconst 1, 1), (7, .iadd, 1), (8, .istore 5, 2), (10, .iload 5, 2), (12, .aload_n 1, 1), (13, .getfield 119, 3), (16, .if_icmp .ge 22, 3), (19, .aload_n 2, 1), (20, .aload_n 2, 1), (21, .getfield 28, 3), (24, .iload_n 3, 1), (25, .iaload, 1), (26, .iload 5, 2), (28, .aload_n 1, 1), (29, .getfield 54, 3), (32, .invokevirtual 122, 3), (35, .ifCond .ne 4, 3), (38, .return_, 1), (39, .aload_n 0, 1), (40, .aload_n 1, 1), (41, .aload_n 2, 1), (42, .iload_n 3, 1), (43, .iload 4, 2), (45, .invokevirtual 104, 3), (48, .aload_n 0, 1), (49, .getfield 12, 3), (52, .aload_n 1, 1), (53, .getfield 66, 3), (56, .iconst 3, 1), (57, .invokevirtual 72, 3), (60, .ifCond .eq 11, 3), (63, .aload_n 2, 1), (64, .getfield 43, 3), (67, .iload_n 3, 1), (68, .iload 5, 2), (70, .iastore, 1), (71, .return_, 1)]
set_option maxRecDepth 100000 in
theorem eX0_stepOutward : mf_dec cX0_stepOutward LX0_stepOutward = true := by decide +kernel
set_option maxRecDepth 100000 in
theorem okX0_stepOutward : mf_ok YX0_stepOutward 4 := ⟨mf_m4 (i := 220) rfl rfl, mf_m1 (i := 14) rfl rfl, by decide +kernel, by decide⟩
abbrev YX0_setParts : mf_Y := (yX0_setParts, cX0_setParts, 6, none)
def LX0_setParts : List (Nat × Instr × Nat) := [(0, .aload_n 0, 1), (1, .getfield 12, 3), (4, .getfield 61, 3), (7, .astore 5, 2), (9, .aload 5, 2), (11, .iconst 0, 1), (12, .aload_n 2, 1), (13, .getfield 90, 3), (16, .iastore, 1), (17, .aload 5, 2), (19, .iconst 1, 1), (20, .aload_n 2, 1), (21, .getfield 28, 3), (24, .iload_n 3, 1), (25, .iaload, 1), (26, .iastore, 1), (27, .aload 5, 2), (29, .iconst 2, 1), (30, .aload_n 2, 1), (31, .getfield 43, 3), (34, .iload_n 3, 1), (35, .iaload, 1), (36, .iastore, 1), (37, .aload 5, 2), (39, .iconst 3, 1), (40, .aload_n 1, 1), (41, .getfield 107, 3), (44, .iload_n 3, 1), (45, .iaload, 1), (46, .iastore, 1), (47, .aload 5, 2), (49, .iconst 4, 1), (50, .aload_n 2, 1), (51, .getfield 113, 3), (54, .iload_n 3, 1), (55, .iaload, 1), (56, .iastore, 1), (57, .aload 5, 2), (59, .iconst 5, 1), (60, .iload 4, 2), (62, .aload_n 2, 1), (63, .getfield 28, 3), (66, .iload_n 3, 1), (67, .iaload, 1), (68, .invokestatic 24, 3), (71, .ifCond .eq 7, 3), (74, .iconst 1, 1), (75, .goto 4, 3), (78, .iconst 0, 1), (79, .iastore, 1), (80, .return_, 1)]
set_option maxRecDepth 100000 in
theorem eX0_setParts : mf_dec cX0_setParts LX0_setParts = true := by decide +kernel
set_option maxRecDepth 100000 in
theorem okX0_setParts : mf_ok YX0_setParts 4 := ⟨mf_m4 (i := 204) rfl rfl, mf_m1 (i := 14) rfl rfl, by decide +kernel, by decide⟩
abbrev YX0_reckonOf : mf_Y := (yX0_reckonOf, cX0_reckonOf, 7, (some .int))
def LX0_reckonOf : List (Nat × Instr × Nat) := [(0, .aload_n 0, 1), (1, .aload_n 2, 1), (2, .aload_n 3, 1), (3, .iload 4, 2), (5, .iload 5, 2), (7, .invokevirtual 104, 3), (10, .aload_n 0, 1), (11, .getfield 12, 3), (14, .getfield 61, 3), (17, .bipush 7, 2), (19, .iload 4, 2), (21, .iastore, 1), (22, .aload_n 0, 1), (23, .getfield 12, 3), (26, .getfield 61, 3), (29, .bipush 8, 2), (31, .aload_n 3, 1), (32, .getfield 93, 3), (35, .iload 4, 2), (37, .iaload, 1), (38, .iastore, 1), (39, .iconst 0, 1), (40, .istore 6, 2), (42, .iload 6, 2), (44, .bipush 8, 2), (46, .if_icmp .ge 54, 3), (49, .aload_n 0, 1), (50, .getfield 12, 3), (53, .getfield 126, 3), (56, .iload 6, 2), (58, .iload 6, 2), (60, .aload_n 2, 1), (61, .getfield 54, 3), (64, .if_icmp .ge 28, 3), (67, .iload 6, 2), (69, .iload 4, 2), (71, .if_icmp .eq 21, 3), (74, .aload_n 2, 1), (75, .aload_n 3, 1), (76, .iload 4, 2), (78, .iload 6, 2), (80, .iload 5, 2), (82, .invokestatic 57, 3), (85, .ifCond .eq 7, 3), (88, .iconst 1, 1), (89, .goto 4, 3), (92, .iconst 0, 1), (93, .bastore, 1), (94, .iinc 6 1, 3), (97, .goto (-55), 3), (100, .aload_n 0, 1), (101, .getfield 12, 3), (104, .aload_n 1, 1), (105, .iconst 0, 1), (106, .invokevirtual 72, 3), (109, .ireturn, 1)]
set_option maxRecDepth 100000 in
theorem eX0_reckonOf : mf_dec cX0_reckonOf LX0_reckonOf = true := by decide +kernel
set_option maxRecDepth 100000 in
theorem okX0_reckonOf : mf_ok YX0_reckonOf 5 := ⟨mf_m5 (i := 126) rfl rfl, mf_m1 (i := 14) rfl rfl, by decide +kernel, by decide⟩
abbrev YX1_init : mf_Y := (yX1_init, cX1_init, 1, none)
def LX1_init : List (Nat × Instr × Nat) := [(0, .aload_n 0, 1), (1, .invokespecial 3, 3), (4, .aload_n 0, 1), (5, .bipush 12, 2), (7, .newarray .int, 2), (9, .putfield 9, 3), (12, .aload_n 0, 1), (13, .bipush 12, 2), (15, .newarray .int, 2), (17, .putfield 15, 3), (20, .aload_n 0, 1), (21, .bipush 12, 2), (23, .newarray .int, 2), (25, .putfield 18, 3), (28, .aload_n 0, 1), (29, .bipush 8, 2), (31, .newarray .int, 2), (33, .putfield 21, 3), (36, .aload_n 0, 1), (37, .bipush 8, 2), (39, .newarray .int, 2), (41, .putfield 24, 3), (44, .aload_n 0, 1), (45, .new 27, 3), (48, .dup, 1), (49, .invokespecial 29, 3), (52, .putfield 30, 3), (55, .aload_n 0, 1), (56, .new 34, 3), (59, .dup, 1), (60, .invokespecial 36, 3), (63, .putfield 37, 3), (66, .return_, 1)]
set_option maxRecDepth 100000 in
theorem eX1_init : mf_dec cX1_init LX1_init = true := by decide +kernel
set_option maxRecDepth 100000 in
theorem okX1_init : mf_ok YX1_init 0 := ⟨mf_m1 (i := 207) rfl rfl, mf_m1 (i := 11) rfl rfl, by decide +kernel, by decide⟩
abbrev YX1_forget : mf_Y := (yX1_forget, cX1_forget, 1, none)
def LX1_forget : List (Nat × Instr × Nat) := [(0, .aload_n 0, 1), (1, .iconst 0, 1), (2, .putfield 41, 3), (5, .aload_n 0, 1), (6, .iconst 0, 1), (7, .putfield 45, 3), (10, .aload_n 0, 1), (11, .iconst 0, 1), (12, .putfield 48, 3), (15, .aload_n 0, 1), (16, .iconst 0, 1), (17, .putfield 51, 3), (20, .aload_n 0, 1), (21, .iconst 0, 1), (22, .putfield 54, 3), (25, .aload_n 0, 1), (26, .iconst 0, 1), (27, .putfield 57, 3), (30, .aload_n 0, 1), (31, .iconst 0, 1), (32, .putfield 60, 3), (35, .aload_n 0, 1), (36, .getfield 30, 3), (39, .invokevirtual 63, 3), (42, .aload_n 0, 1), (43, .getfield 37, 3), (46, .invokevirtual 66, 3), (49, .return_, 1)]
set_option maxRecDepth 100000 in
theorem eX1_forget : mf_dec cX1_forget LX1_forget = true := by decide +kernel
set_option maxRecDepth 100000 in
theorem okX1_forget : mf_ok YX1_forget 0 := ⟨mf_m3 (i := 45) rfl rfl, mf_m1 (i := 11) rfl rfl, by decide +kernel, by decide⟩
abbrev YX1_addWorm : mf_Y := (yX1_addWorm, cX1_addWorm, 4, none)
def LX1_addWorm : List (Nat × Instr × Nat) := [(0, .aload_n 0, 1), (1, .getfield 54, 3), (4, .bipush 12, 2), (6, .if_icmp .ge 43, 3), (9, .aload_n 0, 1), (10, .getfield 9, 3), (13, .aload_n 0, 1), (14, .getfield 54, 3), (17, .iload_n 1, 1), (18, .iastore, 1), (19, .aload_n 0, 1), (20, .getfield 15, 3), (23, .aload_n 0, 1), (24, .getfield 54, 3), (27, .iload_n 2, 1), (28, .iastore, 1), (29, .aload_n 0, 1), (30, .getfield 18, 3), (33, .aload_n 0, 1), (34, .getfield 54, 3), (37, .iload_n 3, 1), (38, .iastore, 1), (39, .aload_n 0, 1), (40, .dup, 1), (41, .getfield 54, 3), (44, .iconst 1, 1), (45, .iadd, 1), (46, .putfield 54, 3), (49, .return_, 1)]
set_option maxRecDepth 100000 in
theorem eX1_addWorm : mf_dec cX1_addWorm LX1_addWorm = true := by decide +kernel
set_option maxRecDepth 100000 in
theorem okX1_addWorm : mf_ok YX1_addWorm 3 := ⟨mf_m3 (i := 153) rfl rfl, mf_m1 (i := 11) rfl rfl, by decide +kernel, by decide⟩
abbrev YX1_addBeing : mf_Y := (yX1_addBeing, cX1_addBeing, 5, none)
def LX1_addBeing : List (Nat × Instr × Nat) := [(0, .aload_n 0, 1), (1, .getfield 57, 3), (4, .bipush 8, 2), (6, .if_icmp .ge 86, 3), (9, .aload_n 0, 1), (10, .getfield 21, 3), (13, .aload_n 0, 1), (14, .getfield 57, 3), (17, .iload_n 1, 1), (18, .iastore, 1), (19, .aload_n 0, 1), (20, .getfield 24, 3), (23, .aload_n 0, 1), (24, .getfield 57, 3), (27, .iload 4, 2), (29, .iastore, 1), (30, .aload_n 0, 1), (31, .getfield 37, 3), (34, .getfield 67, 3), (37, .aload_n 0, 1), (38, .getfield 57, 3), (41, .iload_n 2, 1), (42, .iastore, 1), (43, .aload_n 0, 1), (44, .getfield 37, 3), (47, .getfield 70, 3), (50, .aload_n 0, 1), (51, .getfield 57, 3), (54, .iload_n 3, 1), (55, .iastore, 1), (56, .aload_n 0, 1), (57, .getfield 37, 3), (60, .getfield 73, 3), (63, .aload_n 0, 1), (64, .getfield 57, 3), (67, .iconst 5, 1), (68, .iastore, 1), (69, .aload_n 0, 1), (70, .getfield 37, 3), (73, .getfield 76, 3), (76, .aload_n 0, 1), (77, .getfield 57, 3), (80, .iconst 0, 1), (81, .iastore, 1), (82, .aload_n 0, 1), (83, .dup, 1), (84, .getfield 57, 3), (87, .iconst 1, 1), (88, .iadd, 1), (89, .putfield 57, 3), (92, .return_, 1)]
set_option maxRecDepth 100000 in
theorem eX1_addBeing : mf_dec cX1_addBeing LX1_addBeing = true := by decide +kernel
set_option maxRecDepth 100000 in
theorem okX1_addBeing : mf_ok YX1_addBeing 4 := ⟨mf_m3 (i := 173) rfl rfl, mf_m1 (i := 11) rfl rfl, by decide +kernel, by decide⟩
abbrev YX1_hasName : mf_Y := (yX1_hasName, cX1_hasName, 3, (some .boolean))
def LX1_hasName : List (Nat × Instr × Nat) := [(0, .iconst 0, 1), (1, .istore_n 2, 1), (2, .iload_n 2, 1), (3, .aload_n 0, 1), (4, .getfield 57, 3), (7, .if_icmp .ge 27, 3), (10, .iload_n 2, 1), (11, .bipush 8, 2), (13, .if_icmp .ge 21, 3), (16, .aload_n 0, 1), (17, .getfield 21, 3), (20, .iload_n 2, 1), (21, .iaload, 1), (22, .iload_n 1, 1), (23, .if_icmp .ne 5, 3), (26, .iconst 1, 1), (27, .ireturn, 1), (28, .iinc 2 1, 3), (31, .goto (-29), 3), (34, .iconst 0, 1), (35, .ireturn, 1)]
set_option maxRecDepth 100000 in
theorem eX1_hasName : mf_dec cX1_hasName LX1_hasName = true := by decide +kernel
set_option maxRecDepth 100000 in
theorem okX1_hasName : mf_ok YX1_hasName 1 := ⟨mf_m3 (i := 169) rfl rfl, mf_m1 (i := 11) rfl rfl, by decide +kernel, by decide⟩
abbrev YX1_mirror : mf_Y := (yX1_mirror, cX1_mirror, 2, (some .int))
def LX1_mirror : List (Nat × Instr × Nat) := [(0, .aload_n 0, 1), (1, .getfield 48, 3), (4, .iconst 1, 1), (5, .isub, 1), (6, .iload_n 1, 1), (7, .isub, 1), (8, .ireturn, 1)]
set_option maxRecDepth 100000 in
theorem eX1_mirror : mf_dec cX1_mirror LX1_mirror = true := by decide +kernel
