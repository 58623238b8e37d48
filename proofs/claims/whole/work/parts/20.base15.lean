set_option maxRecDepth 100000 in
theorem okX12_lay : mf_ok YX12_lay 1 := ⟨mf_m8 (i := 188) rfl rfl, mf_m1 (i := 17) rfl rfl, by decide +kernel, by decide⟩
abbrev YX12_after : mf_Y := (yX12_after, cX12_after, 10, (some .int))
def LX12_after_p0 : List (Nat × Instr × Nat) := [(0, .aload_n 0, 1), (1, .iconst 1, 1), (2, .iconst 1, 1), (3, .iconst 1, 1), (4, .invokevirtual 520, 3), (7, .ifCond .eq 13, 3), (10, .iload_n 1, 1), (11, .i2l, 1), (12, .lconst 0, 1), (13, .lconst 1, 1), (14, .invokestatic 286, 3), (17, .ifCond .ne 5, 3), (20, .iconst (-1), 1), (21, .ireturn, 1), (22, .aload_n 0, 1), (23, .invokevirtual 552, 3), (26, .istore_n 2, 1), (27, .iconst (-1), 1), (28, .istore_n 3, 1), (29, .iconst 0, 1), (30, .istore 4, 2), (32, .iconst 0, 1), (33, .istore 5, 2), (35, .iload 5, 2), (37, .aload_n 0, 1), (38, .invokevirtual 402, 3), (41, .if_icmp .ge 121, 3), (44, .iload_n 2, 1), (45, .ifCond .eq 117, 3), (48, .iconst 0, 1), (49, .istore 6, 2), (51, .iconst 0, 1), (52, .istore 7, 2), (54, .iload 7, 2), (56, .aload_n 0, 1), (57, .getfield 105, 3), (60, .iconst 3, 1), (61, .iaload, 1), (62, .if_icmp .ge 72, 3), (65, .iconst 0, 1), (66, .istore 8, 2), (68, .iconst 0, 1), (69, .istore 9, 2), (71, .iload 9, 2), (73, .aload_n 0, 1), (74, .invokevirtual 405, 3), (77, .if_icmp .gt 40, 3), (80, .iload_n 2, 1), (81, .iload 9, 2), (83, .ishr, 1), (84, .iconst 1, 1), (85, .iand, 1), (86, .iconst 1, 1), (87, .if_icmp .ne 24, 3), (90, .aload_n 0, 1), (91, .getfield 152, 3), (94, .bipush 8, 2), (96, .iload 9, 2), (98, .imul, 1), (99, .iload 5, 2)]
set_option maxRecDepth 100000 in
theorem eX12_after_p0 : mf_dec cX12_after LX12_after_p0 = true := by decide +kernel
def LX12_after_p1 : List (Nat × Instr × Nat) := [(101, .iadd, 1), (102, .iaload, 1), (103, .iload 7, 2), (105, .if_icmp .ne 6, 3), (108, .iinc 8 1, 3), (111, .iinc 9 1, 3), (114, .goto (-43), 3), (117, .iload 8, 2), (119, .iload 6, 2), (121, .if_icmp .le 7, 3), (124, .iload 8, 2), (126, .istore 6, 2), (128, .iinc 7 1, 3), (131, .goto (-77), 3), (134, .iload_n 3, 1), (135, .iconst (-1), 1), (136, .if_icmp .eq 13, 3), (139, .iload 6, 2), (141, .iload 4, 2), (143, .if_icmp .lt 6, 3), (146, .goto 10, 3), (149, .iload 5, 2), (151, .istore_n 3, 1), (152, .iload 6, 2), (154, .istore 4, 2), (156, .iinc 5 1, 3), (159, .goto (-124), 3), (162, .iload_n 3, 1), (163, .iconst (-1), 1), (164, .if_icmp .ne 7, 3), (167, .iconst (-1), 1), (168, .goto 13, 3), (171, .iload_n 1, 1), (172, .ifCond .ne 7, 3), (175, .iload_n 3, 1), (176, .goto 5, 3), (179, .iload 4, 2), (181, .ireturn, 1)]
set_option maxRecDepth 100000 in
theorem eX12_after_p1 : mf_dec cX12_after LX12_after_p1 = true := by decide +kernel
set_option maxRecDepth 100000 in
theorem okX12_after : mf_ok YX12_after 1 := ⟨mf_m8 (i := 200) rfl rfl, mf_m1 (i := 17) rfl rfl, by decide +kernel, by decide⟩
abbrev YX12_trim : mf_Y := (yX12_trim, cX12_trim, 7, (some .int))
def LX12_trim_p0 : List (Nat × Instr × Nat) := [(0, .aload_n 0, 1), (1, .getfield 389, 3), (4, .ifCond .eq 37, 3), (7, .iload_n 1, 1), (8, .i2l, 1), (9, .lconst 0, 1), (10, .aload_n 0, 1), (11, .invokevirtual 405, 3), (14, .iconst 1, 1), (15, .isub, 1), (16, .i2l, 1), (17, .invokestatic 286, 3), (20, .ifCond .eq 21, 3), (23, .iload_n 2, 1), (24, .i2l, 1), (25, .lconst 1, 1), (26, .aload_n 0, 1), (27, .getfield 105, 3), (30, .iconst 3, 1), (31, .iaload, 1), (32, .iconst 1, 1), (33, .isub, 1), (34, .i2l, 1), (35, .invokestatic 286, 3), (38, .ifCond .ne 5, 3), (41, .iconst (-1), 1), (42, .ireturn, 1), (43, .aload_n 0, 1), (44, .getfield 105, 3), (47, .iconst 3, 1), (48, .iaload, 1), (49, .iload_n 2, 1), (50, .isub, 1), (51, .istore_n 3, 1), (52, .iload_n 3, 1), (53, .iconst 1, 1), (54, .isub, 1), (55, .istore 4, 2), (57, .iconst 0, 1), (58, .istore 5, 2), (60, .iload_n 3, 1), (61, .istore 6, 2), (63, .iload 6, 2), (65, .aload_n 0, 1), (66, .getfield 105, 3), (69, .iconst 3, 1), (70, .iaload, 1), (71, .if_icmp .ge 75, 3), (74, .aload_n 0, 1), (75, .iload_n 1, 1), (76, .iload 6, 2), (78, .invokevirtual 484, 3), (81, .iconst (-1), 1), (82, .if_icmp .ne 6, 3), (85, .goto 55, 3), (88, .iload 4, 2), (90, .ifCond .lt 30, 3), (93, .aload_n 0, 1), (94, .iload_n 1, 1), (95, .iload 4, 2)]
set_option maxRecDepth 100000 in
theorem eX12_trim_p0 : mf_dec cX12_trim LX12_trim_p0 = true := by decide +kernel
def LX12_trim_p1 : List (Nat × Instr × Nat) := [(97, .invokevirtual 481, 3), (100, .ifCond .ne 14, 3), (103, .aload_n 0, 1), (104, .iload_n 1, 1), (105, .iload 4, 2), (107, .invokevirtual 484, 3), (110, .iconst (-1), 1), (111, .if_icmp .eq 9, 3), (114, .iinc 4 (-1), 3), (117, .goto (-29), 3), (120, .iload 4, 2), (122, .ifCond .ge 5, 3), (125, .iconst (-1), 1), (126, .ireturn, 1), (127, .iload 5, 2), (129, .iload 6, 2), (131, .iload 4, 2), (133, .isub, 1), (134, .iadd, 1), (135, .istore 5, 2), (137, .iinc 4 (-1), 3), (140, .iinc 6 1, 3), (143, .goto (-80), 3), (146, .iload 5, 2), (148, .ireturn, 1)]
set_option maxRecDepth 100000 in
theorem eX12_trim_p1 : mf_dec cX12_trim LX12_trim_p1 = true := by decide +kernel
set_option maxRecDepth 100000 in
theorem okX12_trim : mf_ok YX12_trim 2 := ⟨mf_m8 (i := 204) rfl rfl, mf_m1 (i := 17) rfl rfl, by decide +kernel, by decide⟩
abbrev YX12_keeps : mf_Y := (yX12_keeps, cX12_keeps, 2, none)
def LX12_keeps : List (Nat × Instr × Nat) := [(0, .aload_n 0, 1), (1, .aload_n 0, 1), (2, .getfield 555, 3), (5, .iconst 1, 1), (6, .iadd, 1), (7, .bipush 20, 2), (9, .irem, 1), (10, .putfield 555, 3), (13, .iconst 0, 1), (14, .istore_n 1, 1), (15, .iload_n 1, 1), (16, .sipush 160, 3), (19, .if_icmp .ge 30, 3), (22, .aload_n 0, 1), (23, .getfield 155, 3), (26, .sipush 160, 3), (29, .aload_n 0, 1), (30, .getfield 555, 3), (33, .imul, 1), (34, .iload_n 1, 1), (35, .iadd, 1), (36, .aload_n 0, 1), (37, .getfield 136, 3), (40, .iload_n 1, 1), (41, .iaload, 1), (42, .iastore, 1), (43, .iinc 1 1, 3), (46, .goto (-31), 3), (49, .aload_n 0, 1), (50, .getfield 396, 3), (53, .bipush 20, 2), (55, .if_icmp .ge 13, 3), (58, .aload_n 0, 1), (59, .dup, 1), (60, .getfield 396, 3), (63, .iconst 1, 1), (64, .iadd, 1), (65, .putfield 396, 3), (68, .return_, 1)]
set_option maxRecDepth 100000 in
theorem eX12_keeps : mf_dec cX12_keeps LX12_keeps = true := by decide +kernel
set_option maxRecDepth 100000 in
theorem okX12_keeps : mf_ok YX12_keeps 0 := ⟨mf_m8 (i := 216) rfl rfl, mf_m1 (i := 17) rfl rfl, by decide +kernel, by decide⟩
abbrev YX12_undo : mf_Y := (yX12_undo, cX12_undo, 2, (some .boolean))
def LX12_undo : List (Nat × Instr × Nat) := [(0, .aload_n 0, 1), (1, .getfield 396, 3), (4, .ifCond .ne 15, 3), (7, .aload_n 0, 1), (8, .getfield 17, 3), (11, .iconst 4, 1), (12, .dup2, 1), (13, .iaload, 1), (14, .iconst 1, 1), (15, .iadd, 1), (16, .iastore, 1), (17, .iconst 0, 1), (18, .ireturn, 1), (19, .iconst 0, 1), (20, .istore_n 1, 1), (21, .iload_n 1, 1), (22, .sipush 160, 3), (25, .if_icmp .ge 30, 3), (28, .aload_n 0, 1), (29, .getfield 136, 3), (32, .iload_n 1, 1), (33, .aload_n 0, 1), (34, .getfield 155, 3), (37, .sipush 160, 3), (40, .aload_n 0, 1), (41, .getfield 555, 3), (44, .imul, 1), (45, .iload_n 1, 1), (46, .iadd, 1), (47, .iaload, 1), (48, .iastore, 1), (49, .iinc 1 1, 3), (52, .goto (-31), 3), (55, .aload_n 0, 1), (56, .aload_n 0, 1), (57, .getfield 555, 3), (60, .bipush 20, 2), (62, .iadd, 1), (63, .iconst 1, 1), (64, .isub, 1), (65, .bipush 20, 2), (67, .irem, 1), (68, .putfield 555, 3), (71, .aload_n 0, 1), (72, .dup, 1), (73, .getfield 396, 3), (76, .iconst 1, 1), (77, .isub, 1), (78, .putfield 396, 3), (81, .iconst 1, 1), (82, .ireturn, 1)]
set_option maxRecDepth 100000 in
theorem eX12_undo : mf_dec cX12_undo LX12_undo = true := by decide +kernel
set_option maxRecDepth 100000 in
theorem okX12_undo : mf_ok YX12_undo 0 := ⟨mf_m8 (i := 208) rfl rfl, mf_m1 (i := 17) rfl rfl, by decide +kernel, by decide⟩
abbrev YX12_go : mf_Y := (yX12_go, cX12_go, 4, (some .boolean))
def LX12_go : List (Nat × Instr × Nat) := [(0, .aload_n 0, 1), (1, .iload_n 1, 1), (2, .invokevirtual 502, 3), (5, .ifCond .eq 31, 3), (8, .aload_n 0, 1), (9, .iload_n 2, 1), (10, .iload_n 3, 1), (11, .invokevirtual 507, 3), (14, .ifCond .eq 22, 3), (17, .aload_n 0, 1), (18, .iload_n 2, 1), (19, .iload_n 3, 1), (20, .invokevirtual 481, 3), (23, .ifCond .ne 13, 3), (26, .aload_n 0, 1), (27, .iload_n 2, 1), (28, .iload_n 3, 1), (29, .invokevirtual 484, 3), (32, .iconst (-1), 1), (33, .if_icmp .eq 15, 3), (36, .aload_n 0, 1), (37, .getfield 17, 3), (40, .iconst 2, 1), (41, .dup2, 1), (42, .iaload, 1), (43, .iconst 1, 1), (44, .iadd, 1), (45, .iastore, 1), (46, .iconst 0, 1), (47, .ireturn, 1), (48, .aload_n 0, 1), (49, .invokevirtual 558, 3), (52, .aload_n 0, 1), (53, .getfield 136, 3), (56, .bipush 7, 2), (58, .iconst 4, 1), (59, .iload_n 1, 1), (60, .imul, 1), (61, .iadd, 1), (62, .iload_n 2, 1), (63, .iastore, 1), (64, .aload_n 0, 1), (65, .getfield 136, 3), (68, .bipush 7, 2), (70, .iconst 4, 1), (71, .iload_n 1, 1), (72, .imul, 1), (73, .iadd, 1), (74, .iconst 1, 1), (75, .iadd, 1), (76, .iload_n 3, 1), (77, .iastore, 1), (78, .iconst 1, 1), (79, .ireturn, 1)]
set_option maxRecDepth 100000 in
theorem eX12_go : mf_dec cX12_go LX12_go = true := by decide +kernel
set_option maxRecDepth 100000 in
theorem okX12_go : mf_ok YX12_go 3 := ⟨mf_m8 (i := 212) rfl rfl, mf_m1 (i := 17) rfl rfl, by decide +kernel, by decide⟩
abbrev YX12_isFree : mf_Y := (yX12_isFree, cX12_isFree, 3, (some .boolean))
def LX12_isFree : List (Nat × Instr × Nat) := [(0, .aload_n 0, 1), (1, .iload_n 1, 1), (2, .iload_n 2, 1), (3, .invokevirtual 507, 3), (6, .ifCond .eq 26, 3), (9, .aload_n 0, 1), (10, .iload_n 1, 1), (11, .iload_n 2, 1), (12, .invokevirtual 481, 3), (15, .ifCond .ne 17, 3), (18, .aload_n 0, 1), (19, .iload_n 1, 1), (20, .iload_n 2, 1), (21, .invokevirtual 484, 3), (24, .iconst (-1), 1), (25, .if_icmp .ne 7, 3), (28, .iconst 1, 1), (29, .goto 4, 3), (32, .iconst 0, 1), (33, .ireturn, 1)]
set_option maxRecDepth 100000 in
theorem eX12_isFree : mf_dec cX12_isFree LX12_isFree = true := by decide +kernel
set_option maxRecDepth 100000 in
theorem okX12_isFree : mf_ok YX12_isFree 2 := ⟨mf_m8 (i := 228) rfl rfl, mf_m1 (i := 17) rfl rfl, by decide +kernel, by decide⟩
abbrev YX12_refuge : mf_Y := (yX12_refuge, cX12_refuge, 4, (some .int))
def LX12_refuge : List (Nat × Instr × Nat) := [(0, .iconst 1, 1), (1, .istore_n 3, 1), (2, .iload_n 3, 1), (3, .bipush 8, 2), (5, .if_icmp .ge 39, 3), (8, .aload_n 0, 1), (9, .iload_n 1, 1), (10, .iload_n 2, 1), (11, .iload_n 3, 1), (12, .isub, 1), (13, .invokevirtual 561, 3), (16, .ifCond .eq 7, 3), (19, .iload_n 2, 1), (20, .iload_n 3, 1), (21, .isub, 1), (22, .ireturn, 1), (23, .aload_n 0, 1), (24, .iload_n 1, 1), (25, .iload_n 2, 1), (26, .iload_n 3, 1), (27, .iadd, 1), (28, .invokevirtual 561, 3), (31, .ifCond .eq 7, 3), (34, .iload_n 2, 1), (35, .iload_n 3, 1), (36, .iadd, 1), (37, .ireturn, 1), (38, .iinc 3 1, 3), (41, .goto (-39), 3), (44, .iconst (-1), 1), (45, .ireturn, 1)]
set_option maxRecDepth 100000 in
theorem eX12_refuge : mf_dec cX12_refuge LX12_refuge = true := by decide +kernel
set_option maxRecDepth 100000 in
theorem okX12_refuge : mf_ok YX12_refuge 2 := ⟨mf_m8 (i := 224) rfl rfl, mf_m1 (i := 17) rfl rfl, by decide +kernel, by decide⟩
abbrev YX12_gloss : mf_Y := (yX12_gloss, cX12_gloss, 5, (some .int))
def LX12_gloss_p0 : List (Nat × Instr × Nat) := [(0, .aload_n 0, 1), (1, .iload_n 1, 1), (2, .iload_n 2, 1), (3, .invokevirtual 507, 3), (6, .ifCond .eq 12, 3), (9, .aload_n 0, 1), (10, .iload_n 1, 1), (11, .iload_n 2, 1), (12, .invokevirtual 481, 3), (15, .ifCond .eq 9, 3), (18, .aload_n 0, 1), (19, .iconst 2, 1), (20, .invokevirtual 546, 3), (23, .ireturn, 1), (24, .aload_n 0, 1), (25, .iload_n 1, 1), (26, .iload_n 2, 1), (27, .invokevirtual 484, 3), (30, .istore_n 3, 1), (31, .iload_n 3, 1), (32, .iconst (-1), 1), (33, .if_icmp .ne 8, 3), (36, .bipush 100, 2), (38, .goto 9, 3), (41, .aload_n 0, 1), (42, .iload_n 1, 1), (43, .iload_n 2, 1), (44, .invokevirtual 564, 3), (47, .istore 4, 2), (49, .iload 4, 2), (51, .iconst (-1), 1), (52, .if_icmp .ne 9, 3), (55, .aload_n 0, 1), (56, .iconst 2, 1), (57, .invokevirtual 546, 3), (60, .ireturn, 1), (61, .aload_n 0, 1), (62, .invokevirtual 558, 3), (65, .aload_n 0, 1), (66, .getfield 136, 3), (69, .iconst 1, 1), (70, .iload_n 1, 1), (71, .iadd, 1), (72, .dup2, 1), (73, .iaload, 1), (74, .iconst 1, 1), (75, .iload_n 2, 1), (76, .ishl, 1), (77, .ior, 1), (78, .iastore, 1), (79, .iload_n 3, 1), (80, .iconst (-1), 1), (81, .if_icmp .eq 18, 3), (84, .aload_n 0, 1), (85, .getfield 136, 3), (88, .bipush 7, 2), (90, .iconst 4, 1), (91, .iload_n 3, 1), (92, .imul, 1), (93, .iadd, 1)]
set_option maxRecDepth 100000 in
theorem eX12_gloss_p0 : mf_dec cX12_gloss LX12_gloss_p0 = true := by decide +kernel
def LX12_gloss_p1 : List (Nat × Instr × Nat) := [(94, .iconst 1, 1), (95, .iadd, 1), (96, .iload 4, 2), (98, .iastore, 1), (99, .iload 4, 2), (101, .ireturn, 1)]
set_option maxRecDepth 100000 in
theorem eX12_gloss_p1 : mf_dec cX12_gloss LX12_gloss_p1 = true := by decide +kernel
set_option maxRecDepth 100000 in
theorem okX12_gloss : mf_ok YX12_gloss 2 := ⟨mf_m8 (i := 220) rfl rfl, mf_m1 (i := 17) rfl rfl, by decide +kernel, by decide⟩
abbrev YX12_days : mf_Y := (yX12_days, cX12_days, 2, (some .int))
def LX12_days : List (Nat × Instr × Nat) := [(0, .aload_n 0, 1), (1, .iload_n 1, 1), (2, .iconst 1, 1), (3, .bipush 100, 2), (5, .invokevirtual 520, 3), (8, .ifCond .ne 9, 3), (11, .aload_n 0, 1), (12, .iconst 3, 1), (13, .invokevirtual 546, 3), (16, .ireturn, 1), (17, .aload_n 0, 1), (18, .invokevirtual 558, 3), (21, .aload_n 0, 1), (22, .iconst 0, 1), (23, .putfield 452, 3), (26, .aload_n 0, 1), (27, .iload_n 1, 1), (28, .invokevirtual 536, 3), (31, .aload_n 0, 1), (32, .getfield 452, 3), (35, .ireturn, 1)]
set_option maxRecDepth 100000 in
theorem eX12_days : mf_dec cX12_days LX12_days = true := by decide +kernel
set_option maxRecDepth 100000 in
theorem okX12_days : mf_ok YX12_days 1 := ⟨mf_m8 (i := 232) rfl rfl, mf_m1 (i := 17) rfl rfl, by decide +kernel, by decide⟩
abbrev YX12_seed : mf_Y := (yX12_seed, cX12_seed, 2, (some .boolean))
def LX12_seed : List (Nat × Instr × Nat) := [(0, .iload_n 1, 1), (1, .ifCond .ge 15, 3), (4, .aload_n 0, 1), (5, .getfield 17, 3), (8, .iconst 5, 1), (9, .dup2, 1), (10, .iaload, 1), (11, .iconst 1, 1), (12, .iadd, 1), (13, .iastore, 1), (14, .iconst 0, 1), (15, .ireturn, 1), (16, .aload_n 0, 1), (17, .iload_n 1, 1), (18, .i2l, 1), (19, .putfield 158, 3), (22, .iconst 1, 1), (23, .ireturn, 1)]
set_option maxRecDepth 100000 in
theorem eX12_seed : mf_dec cX12_seed LX12_seed = true := by decide +kernel
set_option maxRecDepth 100000 in
theorem okX12_seed : mf_ok YX12_seed 1 := ⟨mf_m8 (i := 236) rfl rfl, mf_m1 (i := 17) rfl rfl, by decide +kernel, by decide⟩
abbrev YX12_drawOf : mf_Y := (yX12_drawOf, cX12_drawOf, 2, (some .int))
def LX12_drawOf : List (Nat × Instr × Nat) := [(0, .aload_n 0, 1), (1, .ldc2_w 567, 3), (4, .aload_n 0, 1), (5, .getfield 158, 3), (8, .lmul, 1), (9, .ldc2_w 569, 3), (12, .ladd, 1), (13, .ldc2_w 571, 3), (16, .lrem, 1), (17, .putfield 158, 3), (20, .aload_n 0, 1), (21, .getfield 158, 3), (24, .ldc2_w 573, 3), (27, .ldiv, 1), (28, .iload_n 1, 1), (29, .i2l, 1), (30, .lrem, 1), (31, .l2i, 1), (32, .ireturn, 1)]
set_option maxRecDepth 100000 in
theorem eX12_drawOf : mf_dec cX12_drawOf LX12_drawOf = true := by decide +kernel
set_option maxRecDepth 100000 in
theorem okX12_drawOf : mf_ok YX12_drawOf 1 := ⟨mf_m9 (i := 4) rfl rfl, mf_m1 (i := 17) rfl rfl, by decide +kernel, by decide⟩
abbrev YX12_chance : mf_Y := (yX12_chance, cX12_chance, 5, (some .int))
def LX12_chance : List (Nat × Instr × Nat) := [(0, .aload_n 0, 1), (1, .iload_n 1, 1), (2, .iconst 1, 1), (3, .bipush 100, 2), (5, .invokevirtual 520, 3), (8, .ifCond .ne 9, 3), (11, .aload_n 0, 1), (12, .iconst 3, 1), (13, .invokevirtual 546, 3), (16, .ireturn, 1), (17, .aload_n 0, 1), (18, .invokevirtual 558, 3), (21, .iconst 0, 1), (22, .istore_n 2, 1), (23, .iconst 0, 1), (24, .istore_n 3, 1), (25, .iload_n 3, 1), (26, .iload_n 1, 1), (27, .if_icmp .ge 71, 3), (30, .aload_n 0, 1), (31, .bipush 100, 2), (33, .invokevirtual 575, 3), (36, .aload_n 0, 1), (37, .getfield 393, 3), (40, .if_icmp .ge 38, 3), (43, .aload_n 0, 1), (44, .invokevirtual 402, 3), (47, .ifCond .le 31, 3), (50, .aload_n 0, 1), (51, .aload_n 0, 1), (52, .invokevirtual 402, 3), (55, .invokevirtual 575, 3), (58, .istore 4, 2), (60, .aload_n 0, 1), (61, .iload 4, 2), (63, .aload_n 0, 1), (64, .iload 4, 2), (66, .invokevirtual 445, 3), (69, .iconst 2, 1), (70, .idiv, 1), (71, .i2l, 1), (72, .invokevirtual 448, 3), (75, .iinc 2 1, 3), (78, .aload_n 0, 1), (79, .aload_n 0, 1), (80, .aload_n 0, 1), (81, .getfield 136, 3), (84, .iconst 0, 1), (85, .iaload, 1), (86, .invokevirtual 487, 3), (89, .invokevirtual 490, 3), (92, .iinc 3 1, 3), (95, .goto (-70), 3), (98, .iload_n 2, 1), (99, .ireturn, 1)]
set_option maxRecDepth 100000 in
theorem eX12_chance : mf_dec cX12_chance LX12_chance = true := by decide +kernel
set_option maxRecDepth 100000 in
theorem okX12_chance : mf_ok YX12_chance 1 := ⟨mf_m9 (i := 0) rfl rfl, mf_m1 (i := 17) rfl rfl, by decide +kernel, by decide⟩
abbrev YX12_qCode : mf_Y := (yX12_qCode, cX12_qCode, 2, none)
def LX12_qCode : List (Nat × Instr × Nat) := [(0, .aload_n 0, 1), (1, .getfield 228, 3), (4, .aload_n 0, 1), (5, .getfield 338, 3), (8, .iload_n 1, 1), (9, .iastore, 1), (10, .aload_n 0, 1), (11, .dup, 1), (12, .getfield 338, 3), (15, .iconst 1, 1), (16, .iadd, 1), (17, .putfield 338, 3), (20, .return_, 1)]
set_option maxRecDepth 100000 in
theorem eX12_qCode : mf_dec cX12_qCode LX12_qCode = true := by decide +kernel
set_option maxRecDepth 100000 in
theorem okX12_qCode : mf_ok YX12_qCode 1 := ⟨mf_m7 (i := 141) rfl rfl, mf_m1 (i := 17) rfl rfl, by decide +kernel, by decide⟩
abbrev YX12_qOpens : mf_Y := (yX12_qOpens, cX12_qOpens, 3, none)
def LX12_qOpens : List (Nat × Instr × Nat) := [(0, .aload_n 0, 1), (1, .getfield 243, 3), (4, .ifCond .eq 4, 3), (7, .return_, 1), (8, .aload_n 0, 1), (9, .getfield 344, 3), (12, .bipush 6, 2), (14, .if_icmp .ne 10, 3), (17, .aload_n 0, 1), (18, .iconst 4, 1), (19, .iload_n 2, 1), (20, .invokevirtual 273, 3), (23, .return_, 1), (24, .aload_n 0, 1), (25, .dup, 1), (26, .getfield 344, 3), (29, .iconst 1, 1), (30, .iadd, 1), (31, .putfield 344, 3), (34, .aload_n 0, 1), (35, .getfield 231, 3), (38, .aload_n 0, 1), (39, .getfield 341, 3), (42, .iload_n 1, 1), (43, .iastore, 1), (44, .aload_n 0, 1), (45, .dup, 1), (46, .getfield 341, 3), (49, .iconst 1, 1), (50, .iadd, 1), (51, .putfield 341, 3), (54, .return_, 1)]
set_option maxRecDepth 100000 in
theorem eX12_qOpens : mf_dec cX12_qOpens LX12_qOpens = true := by decide +kernel
set_option maxRecDepth 100000 in
theorem okX12_qOpens : mf_ok YX12_qOpens 2 := ⟨mf_m7 (i := 133) rfl rfl, mf_m1 (i := 17) rfl rfl, by decide +kernel, by decide⟩
abbrev YX12_qIsOn : mf_Y := (yX12_qIsOn, cX12_qIsOn, 2, (some .boolean))
def LX12_qIsOn : List (Nat × Instr × Nat) := [(0, .aload_n 0, 1), (1, .getfield 341, 3), (4, .ifCond .le 22, 3), (7, .aload_n 0, 1), (8, .getfield 231, 3), (11, .aload_n 0, 1), (12, .getfield 341, 3), (15, .iconst 1, 1), (16, .isub, 1), (17, .iaload, 1), (18, .iload_n 1, 1), (19, .if_icmp .ne 7, 3), (22, .iconst 1, 1), (23, .goto 4, 3), (26, .iconst 0, 1), (27, .ireturn, 1)]
set_option maxRecDepth 100000 in
theorem eX12_qIsOn : mf_dec cX12_qIsOn LX12_qIsOn = true := by decide +kernel
set_option maxRecDepth 100000 in
theorem okX12_qIsOn : mf_ok YX12_qIsOn 1 := ⟨mf_m7 (i := 192) rfl rfl, mf_m1 (i := 17) rfl rfl, by decide +kernel, by decide⟩
abbrev YX12_qDrops : mf_Y := (yX12_qDrops, cX12_qDrops, 1, none)
def LX12_qDrops : List (Nat × Instr × Nat) := [(0, .aload_n 0, 1), (1, .dup, 1), (2, .getfield 341, 3), (5, .iconst 1, 1), (6, .isub, 1), (7, .putfield 341, 3), (10, .aload_n 0, 1), (11, .aload_n 0, 1), (12, .getfield 231, 3), (15, .aload_n 0, 1), (16, .getfield 341, 3), (19, .iaload, 1), (20, .invokevirtual 578, 3), (23, .return_, 1)]
set_option maxRecDepth 100000 in
theorem eX12_qDrops : mf_dec cX12_qDrops LX12_qDrops = true := by decide +kernel
set_option maxRecDepth 100000 in
theorem okX12_qDrops : mf_ok YX12_qDrops 0 := ⟨mf_m7 (i := 173) rfl rfl, mf_m1 (i := 17) rfl rfl, by decide +kernel, by decide⟩
abbrev YX12_qIsBracket : mf_Y := (yX12_qIsBracket, cX12_qIsBracket, 1, (some .boolean))
def LX12_qIsBracket : List (Nat × Instr × Nat) := [(0, .iload_n 0, 1), (1, .bipush 20, 2), (3, .if_icmp .lt 13, 3), (6, .iload_n 0, 1), (7, .bipush 24, 2), (9, .if_icmp .gt 7, 3), (12, .iconst 1, 1), (13, .goto 4, 3), (16, .iconst 0, 1), (17, .ireturn, 1)]
set_option maxRecDepth 100000 in
theorem eX12_qIsBracket : mf_dec cX12_qIsBracket LX12_qIsBracket = true := by decide +kernel
