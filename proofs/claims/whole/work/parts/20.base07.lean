set_option maxRecDepth 100000 in
theorem okX11_meets : mf_ok YX11_meets 2 := ⟨mf_m4 (i := 145) rfl rfl, mf_m1 (i := 1) rfl rfl, by decide +kernel, by decide⟩
abbrev YX11_pairs : mf_Y := (yX11_pairs, cX11_pairs, 3, (some .int))
def LX11_pairs : List (Nat × Instr × Nat) := [(0, .aload_n 0, 1), (1, .getfield 47, 3), (4, .getfield 140, 3), (7, .ifCond .eq 19, 3), (10, .iload_n 1, 1), (11, .iconst (-1), 1), (12, .if_icmp .lt 14, 3), (15, .iload_n 1, 1), (16, .aload_n 0, 1), (17, .getfield 47, 3), (20, .getfield 140, 3), (23, .if_icmp .le 5, 3), (26, .iconst (-1), 1), (27, .ireturn, 1), (28, .iload_n 1, 1), (29, .iconst (-1), 1), (30, .if_icmp .ne 24, 3), (33, .aload_n 0, 1), (34, .getfield 66, 3), (37, .aload_n 0, 1), (38, .getfield 47, 3), (41, .aload_n 0, 1), (42, .getfield 82, 3), (45, .getfield 156, 3), (48, .invokevirtual 159, 3), (51, .goto 4, 3), (54, .iload_n 1, 1), (55, .istore_n 2, 1), (56, .aload_n 0, 1), (57, .getfield 47, 3), (60, .aload_n 0, 1), (61, .getfield 82, 3), (64, .iload_n 2, 1), (65, .invokestatic 223, 3), (68, .ireturn, 1)]
set_option maxRecDepth 100000 in
theorem eX11_pairs : mf_dec cX11_pairs LX11_pairs = true := by decide +kernel
set_option maxRecDepth 100000 in
theorem okX11_pairs : mf_ok YX11_pairs 1 := ⟨mf_m4 (i := 156) rfl rfl, mf_m1 (i := 1) rfl rfl, by decide +kernel, by decide⟩
abbrev YX11_apart : mf_Y := (yX11_apart, cX11_apart, 1, (some .int))
def LX11_apart : List (Nat × Instr × Nat) := [(0, .aload_n 0, 1), (1, .getfield 47, 3), (4, .getfield 140, 3), (7, .ifCond .ne 7, 3), (10, .iconst (-1), 1), (11, .goto 18, 3), (14, .aload_n 0, 1), (15, .getfield 75, 3), (18, .aload_n 0, 1), (19, .getfield 47, 3), (22, .aload_n 0, 1), (23, .getfield 82, 3), (26, .invokevirtual 227, 3), (29, .ireturn, 1)]
set_option maxRecDepth 100000 in
theorem eX11_apart : mf_dec cX11_apart LX11_apart = true := by decide +kernel
set_option maxRecDepth 100000 in
theorem okX11_apart : mf_ok YX11_apart 0 := ⟨mf_m4 (i := 164) rfl rfl, mf_m1 (i := 1) rfl rfl, by decide +kernel, by decide⟩
abbrev YX11_reading : mf_Y := (yX11_reading, cX11_reading, 3, (some .int))
def LX11_reading : List (Nat × Instr × Nat) := [(0, .iload_n 1, 1), (1, .iconst 1, 1), (2, .if_icmp .lt 26, 3), (5, .iload_n 1, 1), (6, .iconst 3, 1), (7, .if_icmp .gt 21, 3), (10, .iload_n 2, 1), (11, .iconst (-1), 1), (12, .if_icmp .lt 16, 3), (15, .iload_n 2, 1), (16, .iload_n 1, 1), (17, .if_icmp .ge 11, 3), (20, .aload_n 0, 1), (21, .iload_n 1, 1), (22, .invokevirtual 231, 3), (25, .ifCond .ne 5, 3), (28, .iconst (-1), 1), (29, .ireturn, 1), (30, .aload_n 0, 1), (31, .getfield 75, 3), (34, .aload_n 0, 1), (35, .getfield 47, 3), (38, .aload_n 0, 1), (39, .getfield 82, 3), (42, .iload_n 1, 1), (43, .iload_n 2, 1), (44, .invokevirtual 234, 3), (47, .ireturn, 1)]
set_option maxRecDepth 100000 in
theorem eX11_reading : mf_dec cX11_reading LX11_reading = true := by decide +kernel
set_option maxRecDepth 100000 in
theorem okX11_reading : mf_ok YX11_reading 2 := ⟨mf_m4 (i := 173) rfl rfl, mf_m1 (i := 1) rfl rfl, by decide +kernel, by decide⟩
abbrev YX11_later : mf_Y := (yX11_later, cX11_later, 5, (some .int))
def LX11_later : List (Nat × Instr × Nat) := [(0, .aload_n 0, 1), (1, .iload_n 1, 1), (2, .invokevirtual 169, 3), (5, .ifCond .eq 21, 3), (8, .iload_n 2, 1), (9, .ifCond .lt 17, 3), (12, .iload_n 2, 1), (13, .bipush 60, 2), (15, .if_icmp .gt 11, 3), (18, .aload_n 0, 1), (19, .iload_n 2, 1), (20, .invokevirtual 231, 3), (23, .ifCond .ne 5, 3), (26, .iconst (-1), 1), (27, .ireturn, 1), (28, .iload_n 3, 1), (29, .ifCond .lt 8, 3), (32, .iload_n 3, 1), (33, .iconst 2, 1), (34, .if_icmp .le 5, 3), (37, .iconst (-1), 1), (38, .ireturn, 1), (39, .aload_n 0, 1), (40, .getfield 75, 3), (43, .aload_n 0, 1), (44, .getfield 47, 3), (47, .aload_n 0, 1), (48, .getfield 82, 3), (51, .iload_n 2, 1), (52, .invokevirtual 238, 3), (55, .astore 4, 2), (57, .iload_n 3, 1), (58, .ifCond .ne 11, 3), (61, .aload 4, 2), (63, .getfield 183, 3), (66, .iload_n 1, 1), (67, .iaload, 1), (68, .ireturn, 1), (69, .iload_n 3, 1), (70, .iconst 1, 1), (71, .if_icmp .ne 13, 3), (74, .aload 4, 2), (76, .getfield 189, 3), (79, .iload_n 1, 1), (80, .iaload, 1), (81, .goto 10, 3), (84, .aload 4, 2), (86, .getfield 192, 3), (89, .iload_n 1, 1), (90, .iaload, 1), (91, .ireturn, 1)]
set_option maxRecDepth 100000 in
theorem eX11_later : mf_dec cX11_later LX11_later = true := by decide +kernel
set_option maxRecDepth 100000 in
theorem okX11_later : mf_ok YX11_later 3 := ⟨mf_m4 (i := 225) rfl rfl, mf_m1 (i := 1) rfl rfl, by decide +kernel, by decide⟩
abbrev YX11_opening : mf_Y := (yX11_opening, cX11_opening, 2, (some .int))
def LX11_opening : List (Nat × Instr × Nat) := [(0, .iload_n 1, 1), (1, .ifCond .lt 17, 3), (4, .iload_n 1, 1), (5, .bipush 60, 2), (7, .if_icmp .gt 11, 3), (10, .aload_n 0, 1), (11, .iload_n 1, 1), (12, .invokevirtual 231, 3), (15, .ifCond .ne 5, 3), (18, .iconst (-1), 1), (19, .ireturn, 1), (20, .aload_n 0, 1), (21, .getfield 66, 3), (24, .aload_n 0, 1), (25, .getfield 47, 3), (28, .aload_n 0, 1), (29, .getfield 82, 3), (32, .getfield 156, 3), (35, .iload_n 1, 1), (36, .iadd, 1), (37, .invokevirtual 159, 3), (40, .ireturn, 1)]
set_option maxRecDepth 100000 in
theorem eX11_opening : mf_dec cX11_opening LX11_opening = true := by decide +kernel
set_option maxRecDepth 100000 in
theorem okX11_opening : mf_ok YX11_opening 1 := ⟨mf_m4 (i := 234) rfl rfl, mf_m1 (i := 1) rfl rfl, by decide +kernel, by decide⟩
abbrev YX11_way : mf_Y := (yX11_way, cX11_way, 4, (some .int))
def LX11_way : List (Nat × Instr × Nat) := [(0, .aload_n 0, 1), (1, .iload_n 1, 1), (2, .invokevirtual 169, 3), (5, .ifCond .eq 12, 3), (8, .aload_n 0, 1), (9, .iload_n 2, 1), (10, .iload_n 3, 1), (11, .invokevirtual 199, 3), (14, .ifCond .ne 5, 3), (17, .iconst (-1), 1), (18, .ireturn, 1), (19, .aload_n 0, 1), (20, .getfield 75, 3), (23, .aload_n 0, 1), (24, .getfield 47, 3), (27, .aload_n 0, 1), (28, .getfield 82, 3), (31, .iload_n 1, 1), (32, .iload_n 2, 1), (33, .iload_n 3, 1), (34, .invokevirtual 242, 3), (37, .ireturn, 1)]
set_option maxRecDepth 100000 in
theorem eX11_way : mf_dec cX11_way LX11_way = true := by decide +kernel
set_option maxRecDepth 100000 in
theorem okX11_way : mf_ok YX11_way 3 := ⟨mf_m4 (i := 238) rfl rfl, mf_m1 (i := 1) rfl rfl, by decide +kernel, by decide⟩
abbrev YX11_see : mf_Y := (yX11_see, cX11_see, 2, (some .int))
def LX11_see : List (Nat × Instr × Nat) := [(0, .aload_n 0, 1), (1, .getfield 75, 3), (4, .aload_n 0, 1), (5, .getfield 47, 3), (8, .aload_n 0, 1), (9, .getfield 15, 3), (12, .invokevirtual 246, 3), (15, .istore_n 1, 1), (16, .aload_n 0, 1), (17, .getfield 15, 3), (20, .iconst 0, 1), (21, .putfield 107, 3), (24, .iload_n 1, 1), (25, .ifCond .ne 15, 3), (28, .aload_n 0, 1), (29, .getfield 93, 3), (32, .iconst 1, 1), (33, .dup2, 1), (34, .iaload, 1), (35, .iconst 1, 1), (36, .iadd, 1), (37, .iastore, 1), (38, .iconst (-1), 1), (39, .ireturn, 1), (40, .aload_n 0, 1), (41, .getfield 75, 3), (44, .getfield 131, 3), (47, .ireturn, 1)]
set_option maxRecDepth 100000 in
theorem eX11_see : mf_dec cX11_see LX11_see = true := by decide +kernel
set_option maxRecDepth 100000 in
theorem okX11_see : mf_ok YX11_see 0 := ⟨mf_m5 (i := 15) rfl rfl, mf_m1 (i := 1) rfl rfl, by decide +kernel, by decide⟩
abbrev YX11_lay : mf_Y := (yX11_lay, cX11_lay, 3, (some .int))
def LX11_lay : List (Nat × Instr × Nat) := [(0, .aload_n 0, 1), (1, .iconst 1, 1), (2, .invokevirtual 231, 3), (5, .ifCond .eq 12, 3), (8, .iload_n 1, 1), (9, .ifCond .lt 8, 3), (12, .iload_n 1, 1), (13, .iconst 1, 1), (14, .if_icmp .le 5, 3), (17, .iconst (-1), 1), (18, .ireturn, 1), (19, .aload_n 0, 1), (20, .getfield 75, 3), (23, .aload_n 0, 1), (24, .getfield 47, 3), (27, .aload_n 0, 1), (28, .getfield 82, 3), (31, .invokevirtual 250, 3), (34, .istore_n 2, 1), (35, .iload_n 1, 1), (36, .ifCond .ne 10, 3), (39, .iload_n 2, 1), (40, .invokestatic 253, 3), (43, .goto 4, 3), (46, .iload_n 2, 1), (47, .ireturn, 1)]
set_option maxRecDepth 100000 in
theorem eX11_lay : mf_dec cX11_lay LX11_lay = true := by decide +kernel
set_option maxRecDepth 100000 in
theorem okX11_lay : mf_ok YX11_lay 1 := ⟨mf_m5 (i := 27) rfl rfl, mf_m1 (i := 1) rfl rfl, by decide +kernel, by decide⟩
abbrev YX11_after : mf_Y := (yX11_after, cX11_after, 2, (some .int))
def LX11_after : List (Nat × Instr × Nat) := [(0, .aload_n 0, 1), (1, .iconst 1, 1), (2, .invokevirtual 231, 3), (5, .ifCond .eq 12, 3), (8, .iload_n 1, 1), (9, .ifCond .lt 8, 3), (12, .iload_n 1, 1), (13, .iconst 1, 1), (14, .if_icmp .le 5, 3), (17, .iconst (-1), 1), (18, .ireturn, 1), (19, .aload_n 0, 1), (20, .getfield 75, 3), (23, .aload_n 0, 1), (24, .getfield 47, 3), (27, .aload_n 0, 1), (28, .getfield 82, 3), (31, .iload_n 1, 1), (32, .invokevirtual 258, 3), (35, .ireturn, 1)]
set_option maxRecDepth 100000 in
theorem eX11_after : mf_dec cX11_after LX11_after = true := by decide +kernel
set_option maxRecDepth 100000 in
theorem okX11_after : mf_ok YX11_after 1 := ⟨mf_m5 (i := 40) rfl rfl, mf_m1 (i := 1) rfl rfl, by decide +kernel, by decide⟩
abbrev YX11_trim : mf_Y := (yX11_trim, cX11_trim, 3, (some .int))
def LX11_trim : List (Nat × Instr × Nat) := [(0, .iload_n 2, 1), (1, .iconst 1, 1), (2, .if_icmp .lt 23, 3), (5, .iload_n 2, 1), (6, .aload_n 0, 1), (7, .getfield 47, 3), (10, .getfield 143, 3), (13, .if_icmp .ge 12, 3), (16, .aload_n 0, 1), (17, .iload_n 1, 1), (18, .iconst 0, 1), (19, .invokevirtual 199, 3), (22, .ifCond .ne 5, 3), (25, .iconst (-1), 1), (26, .ireturn, 1), (27, .aload_n 0, 1), (28, .getfield 75, 3), (31, .aload_n 0, 1), (32, .getfield 47, 3), (35, .aload_n 0, 1), (36, .getfield 82, 3), (39, .iload_n 1, 1), (40, .iload_n 2, 1), (41, .invokevirtual 261, 3), (44, .ireturn, 1)]
set_option maxRecDepth 100000 in
theorem eX11_trim : mf_dec cX11_trim LX11_trim = true := by decide +kernel
set_option maxRecDepth 100000 in
theorem okX11_trim : mf_ok YX11_trim 2 := ⟨mf_m5 (i := 54) rfl rfl, mf_m1 (i := 1) rfl rfl, by decide +kernel, by decide⟩
abbrev YX11_go : mf_Y := (yX11_go, cX11_go, 4, (some .boolean))
def LX11_go : List (Nat × Instr × Nat) := [(0, .aload_n 0, 1), (1, .iload_n 1, 1), (2, .invokevirtual 169, 3), (5, .ifCond .eq 31, 3), (8, .aload_n 0, 1), (9, .iload_n 2, 1), (10, .iload_n 3, 1), (11, .invokevirtual 199, 3), (14, .ifCond .eq 22, 3), (17, .aload_n 0, 1), (18, .getfield 82, 3), (21, .iload_n 2, 1), (22, .iload_n 3, 1), (23, .aload_n 0, 1), (24, .getfield 47, 3), (27, .getfield 153, 3), (30, .invokevirtual 264, 3), (33, .ifCond .ne 15, 3), (36, .aload_n 0, 1), (37, .getfield 93, 3), (40, .iconst 2, 1), (41, .dup2, 1), (42, .iaload, 1), (43, .iconst 1, 1), (44, .iadd, 1), (45, .iastore, 1), (46, .iconst 0, 1), (47, .ireturn, 1), (48, .aload_n 0, 1), (49, .invokevirtual 268, 3), (52, .aload_n 0, 1), (53, .getfield 82, 3), (56, .getfield 180, 3), (59, .iload_n 1, 1), (60, .iload_n 2, 1), (61, .iastore, 1), (62, .aload_n 0, 1), (63, .getfield 82, 3), (66, .getfield 183, 3), (69, .iload_n 1, 1), (70, .iload_n 3, 1), (71, .iastore, 1), (72, .iconst 1, 1), (73, .ireturn, 1)]
set_option maxRecDepth 100000 in
theorem eX11_go : mf_dec cX11_go LX11_go = true := by decide +kernel
set_option maxRecDepth 100000 in
theorem okX11_go : mf_ok YX11_go 3 := ⟨mf_m5 (i := 64) rfl rfl, mf_m1 (i := 1) rfl rfl, by decide +kernel, by decide⟩
abbrev YX11_gloss : mf_Y := (yX11_gloss, cX11_gloss, 5, (some .int))
def LX11_gloss_p0 : List (Nat × Instr × Nat) := [(0, .aload_n 0, 1), (1, .iload_n 1, 1), (2, .iload_n 2, 1), (3, .invokevirtual 199, 3), (6, .ifCond .eq 15, 3), (9, .aload_n 0, 1), (10, .getfield 82, 3), (13, .iload_n 1, 1), (14, .iload_n 2, 1), (15, .invokevirtual 202, 3), (18, .ifCond .eq 15, 3), (21, .aload_n 0, 1), (22, .getfield 93, 3), (25, .iconst 2, 1), (26, .dup2, 1), (27, .iaload, 1), (28, .iconst 1, 1), (29, .iadd, 1), (30, .iastore, 1), (31, .iconst (-1), 1), (32, .ireturn, 1), (33, .aload_n 0, 1), (34, .getfield 82, 3), (37, .iload_n 1, 1), (38, .iload_n 2, 1), (39, .aload_n 0, 1), (40, .getfield 47, 3), (43, .getfield 153, 3), (46, .invokevirtual 205, 3), (49, .istore_n 3, 1), (50, .iload_n 3, 1), (51, .iconst (-1), 1), (52, .if_icmp .ne 7, 3), (55, .iconst (-1), 1), (56, .goto 9, 3), (59, .aload_n 0, 1), (60, .iload_n 1, 1), (61, .iload_n 2, 1), (62, .invokevirtual 271, 3), (65, .istore 4, 2), (67, .iload_n 3, 1), (68, .iconst (-1), 1), (69, .if_icmp .eq 21, 3), (72, .iload 4, 2), (74, .iconst (-1), 1), (75, .if_icmp .ne 15, 3), (78, .aload_n 0, 1), (79, .getfield 93, 3), (82, .iconst 2, 1), (83, .dup2, 1), (84, .iaload, 1), (85, .iconst 1, 1), (86, .iadd, 1), (87, .iastore, 1), (88, .iconst (-1), 1), (89, .ireturn, 1), (90, .aload_n 0, 1), (91, .invokevirtual 268, 3), (94, .aload_n 0, 1), (95, .getfield 82, 3)]
set_option maxRecDepth 100000 in
theorem eX11_gloss_p0 : mf_dec cX11_gloss LX11_gloss_p0 = true := by decide +kernel
def LX11_gloss_p1 : List (Nat × Instr × Nat) := [(98, .iload_n 1, 1), (99, .iload_n 2, 1), (100, .invokevirtual 274, 3), (103, .iload_n 3, 1), (104, .iconst (-1), 1), (105, .if_icmp .ne 6, 3), (108, .bipush 100, 2), (110, .ireturn, 1), (111, .aload_n 0, 1), (112, .getfield 82, 3), (115, .getfield 183, 3), (118, .iload_n 3, 1), (119, .iload 4, 2), (121, .iastore, 1), (122, .iload 4, 2), (124, .ireturn, 1)]
set_option maxRecDepth 100000 in
theorem eX11_gloss_p1 : mf_dec cX11_gloss LX11_gloss_p1 = true := by decide +kernel
set_option maxRecDepth 100000 in
theorem okX11_gloss : mf_ok YX11_gloss 2 := ⟨mf_m5 (i := 74) rfl rfl, mf_m1 (i := 1) rfl rfl, by decide +kernel, by decide⟩
abbrev YX11_days : mf_Y := (yX11_days, cX11_days, 4, (some .int))
def LX11_days : List (Nat × Instr × Nat) := [(0, .iload_n 1, 1), (1, .iconst 1, 1), (2, .if_icmp .lt 17, 3), (5, .iload_n 1, 1), (6, .bipush 100, 2), (8, .if_icmp .gt 11, 3), (11, .aload_n 0, 1), (12, .iload_n 1, 1), (13, .invokevirtual 231, 3), (16, .ifCond .ne 15, 3), (19, .aload_n 0, 1), (20, .getfield 93, 3), (23, .iconst 3, 1), (24, .dup2, 1), (25, .iaload, 1), (26, .iconst 1, 1), (27, .iadd, 1), (28, .iastore, 1), (29, .iconst (-1), 1), (30, .ireturn, 1), (31, .aload_n 0, 1), (32, .invokevirtual 268, 3), (35, .iconst 0, 1), (36, .istore_n 2, 1), (37, .iconst 0, 1), (38, .istore_n 3, 1), (39, .iload_n 3, 1), (40, .iload_n 1, 1), (41, .if_icmp .ge 45, 3), (44, .iload_n 2, 1), (45, .aload_n 0, 1), (46, .getfield 66, 3), (49, .aload_n 0, 1), (50, .getfield 47, 3), (53, .aload_n 0, 1), (54, .getfield 82, 3), (57, .aload_n 0, 1), (58, .getfield 66, 3), (61, .aload_n 0, 1), (62, .getfield 47, 3), (65, .aload_n 0, 1), (66, .getfield 82, 3), (69, .getfield 156, 3), (72, .invokevirtual 159, 3), (75, .invokevirtual 278, 3), (78, .iadd, 1), (79, .istore_n 2, 1), (80, .iinc 3 1, 3), (83, .goto (-44), 3), (86, .iload_n 2, 1), (87, .ireturn, 1)]
set_option maxRecDepth 100000 in
theorem eX11_days : mf_dec cX11_days LX11_days = true := by decide +kernel
set_option maxRecDepth 100000 in
theorem okX11_days : mf_ok YX11_days 1 := ⟨mf_m5 (i := 83) rfl rfl, mf_m1 (i := 1) rfl rfl, by decide +kernel, by decide⟩
abbrev YX11_chance : mf_Y := (yX11_chance, cX11_chance, 5, (some .int))
def LX11_chance_p0 : List (Nat × Instr × Nat) := [(0, .iload_n 1, 1), (1, .iconst 1, 1), (2, .if_icmp .lt 17, 3), (5, .iload_n 1, 1), (6, .bipush 100, 2), (8, .if_icmp .gt 11, 3), (11, .aload_n 0, 1), (12, .iload_n 1, 1), (13, .invokevirtual 231, 3), (16, .ifCond .ne 15, 3), (19, .aload_n 0, 1), (20, .getfield 93, 3), (23, .iconst 3, 1), (24, .dup2, 1), (25, .iaload, 1), (26, .iconst 1, 1), (27, .iadd, 1), (28, .iastore, 1), (29, .iconst (-1), 1), (30, .ireturn, 1), (31, .aload_n 0, 1), (32, .invokevirtual 268, 3), (35, .iconst 0, 1), (36, .istore_n 2, 1), (37, .iconst 0, 1), (38, .istore_n 3, 1), (39, .iload_n 3, 1), (40, .iload_n 1, 1), (41, .if_icmp .ge 99, 3), (44, .aload_n 0, 1), (45, .bipush 100, 2), (47, .invokevirtual 281, 3), (50, .aload_n 0, 1), (51, .getfield 47, 3), (54, .getfield 284, 3), (57, .if_icmp .ge 43, 3), (60, .aload_n 0, 1), (61, .getfield 47, 3), (64, .getfield 153, 3), (67, .ifCond .le 33, 3), (70, .aload_n 0, 1), (71, .aload_n 0, 1), (72, .getfield 47, 3), (75, .getfield 153, 3), (78, .invokevirtual 281, 3), (81, .istore 4, 2), (83, .aload_n 0, 1), (84, .getfield 82, 3), (87, .getfield 189, 3), (90, .iload 4, 2), (92, .dup2, 1), (93, .iaload, 1), (94, .iconst 2, 1), (95, .idiv, 1), (96, .iastore, 1), (97, .iinc 2 1, 3), (100, .aload_n 0, 1), (101, .getfield 66, 3), (104, .aload_n 0, 1), (105, .getfield 47, 3)]
set_option maxRecDepth 100000 in
theorem eX11_chance_p0 : mf_dec cX11_chance LX11_chance_p0 = true := by decide +kernel
def LX11_chance_p1 : List (Nat × Instr × Nat) := [(108, .aload_n 0, 1), (109, .getfield 82, 3), (112, .aload_n 0, 1), (113, .getfield 66, 3), (116, .aload_n 0, 1), (117, .getfield 47, 3), (120, .aload_n 0, 1), (121, .getfield 82, 3), (124, .getfield 156, 3), (127, .invokevirtual 159, 3), (130, .invokevirtual 278, 3), (133, .pop, 1), (134, .iinc 3 1, 3), (137, .goto (-98), 3), (140, .iload_n 2, 1), (141, .ireturn, 1)]
set_option maxRecDepth 100000 in
theorem eX11_chance_p1 : mf_dec cX11_chance LX11_chance_p1 = true := by decide +kernel
set_option maxRecDepth 100000 in
theorem okX11_chance : mf_ok YX11_chance 1 := ⟨mf_m5 (i := 88) rfl rfl, mf_m1 (i := 1) rfl rfl, by decide +kernel, by decide⟩
abbrev YX11_undo : mf_Y := (yX11_undo, cX11_undo, 1, (some .boolean))
def LX11_undo : List (Nat × Instr × Nat) := [(0, .aload_n 0, 1), (1, .getfield 134, 3), (4, .ifCond .ne 15, 3), (7, .aload_n 0, 1), (8, .getfield 93, 3), (11, .iconst 4, 1), (12, .dup2, 1), (13, .iaload, 1), (14, .iconst 1, 1), (15, .iadd, 1), (16, .iastore, 1), (17, .iconst 0, 1), (18, .ireturn, 1), (19, .aload_n 0, 1), (20, .dup, 1), (21, .getfield 134, 3), (24, .iconst 1, 1), (25, .isub, 1), (26, .putfield 134, 3), (29, .aload_n 0, 1), (30, .aload_n 0, 1), (31, .getfield 287, 3), (34, .bipush 20, 2), (36, .iadd, 1), (37, .iconst 1, 1), (38, .isub, 1), (39, .bipush 20, 2), (41, .irem, 1), (42, .putfield 287, 3), (45, .aload_n 0, 1), (46, .getfield 82, 3), (49, .aload_n 0, 1), (50, .getfield 89, 3), (53, .aload_n 0, 1), (54, .getfield 287, 3), (57, .aaload, 1), (58, .invokevirtual 127, 3), (61, .iconst 1, 1), (62, .ireturn, 1)]
set_option maxRecDepth 100000 in
theorem eX11_undo : mf_dec cX11_undo LX11_undo = true := by decide +kernel
set_option maxRecDepth 100000 in
theorem okX11_undo : mf_ok YX11_undo 0 := ⟨mf_m5 (i := 99) rfl rfl, mf_m1 (i := 1) rfl rfl, by decide +kernel, by decide⟩
abbrev YX11_seed : mf_Y := (yX11_seed, cX11_seed, 2, (some .boolean))
def LX11_seed : List (Nat × Instr × Nat) := [(0, .iload_n 1, 1), (1, .ifCond .ge 15, 3), (4, .aload_n 0, 1), (5, .getfield 93, 3), (8, .iconst 5, 1), (9, .dup2, 1), (10, .iaload, 1), (11, .iconst 1, 1), (12, .iadd, 1), (13, .iastore, 1), (14, .iconst 0, 1), (15, .ireturn, 1), (16, .aload_n 0, 1), (17, .iload_n 1, 1), (18, .putfield 104, 3), (21, .iconst 1, 1), (22, .ireturn, 1)]
set_option maxRecDepth 100000 in
theorem eX11_seed : mf_dec cX11_seed LX11_seed = true := by decide +kernel
set_option maxRecDepth 100000 in
theorem okX11_seed : mf_ok YX11_seed 1 := ⟨mf_m5 (i := 103) rfl rfl, mf_m1 (i := 1) rfl rfl, by decide +kernel, by decide⟩
abbrev YX11_ask : mf_Y := (yX11_ask, cX11_ask, 2, (some .long))
def LX11_ask : List (Nat × Instr × Nat) := [(0, .aload_n 0, 1), (1, .getfield 47, 3), (4, .getfield 140, 3), (7, .ifCond .ne 15, 3), (10, .aload_n 0, 1), (11, .getfield 15, 3), (14, .iconst 0, 1), (15, .putfield 107, 3), (18, .ldc2_w 290, 3), (21, .lreturn, 1), (22, .aload_n 0, 1), (23, .getfield 40, 3), (26, .aload_n 0, 1), (27, .getfield 31, 3), (30, .invokevirtual 292, 3), (33, .istore_n 1, 1), (34, .aload_n 0, 1), (35, .invokevirtual 118, 3), (38, .aload_n 0, 1), (39, .getfield 121, 3), (42, .ifCond .eq 9, 3), (45, .ldc2_w 290, 3), (48, .goto 8, 3), (51, .aload_n 0, 1), (52, .iload_n 1, 1), (53, .invokevirtual 296, 3), (56, .lreturn, 1)]
set_option maxRecDepth 100000 in
theorem eX11_ask : mf_dec cX11_ask LX11_ask = true := by decide +kernel
set_option maxRecDepth 100000 in
theorem okX11_ask : mf_ok YX11_ask 0 := ⟨mf_m5 (i := 107) rfl rfl, mf_m1 (i := 1) rfl rfl, by decide +kernel, by decide⟩
abbrev YX11_image : mf_Y := (yX11_image, cX11_image, 3, (some .int))
def LX11_image_p0 : List (Nat × Instr × Nat) := [(0, .aload_n 0, 1), (1, .iconst 0, 1), (2, .putfield 300, 3), (5, .aload_n 0, 1), (6, .aload_n 0, 1), (7, .getfield 82, 3), (10, .getfield 156, 3), (13, .invokevirtual 303, 3), (16, .iconst 0, 1), (17, .istore_n 1, 1), (18, .iload_n 1, 1), (19, .aload_n 0, 1), (20, .getfield 47, 3), (23, .getfield 140, 3), (26, .if_icmp .ge 22, 3), (29, .aload_n 0, 1), (30, .aload_n 0, 1), (31, .getfield 82, 3), (34, .getfield 306, 3), (37, .iload_n 1, 1), (38, .iaload, 1), (39, .invokevirtual 309, 3), (42, .iinc 1 1, 3), (45, .goto (-27), 3), (48, .iconst 0, 1), (49, .istore_n 1, 1), (50, .iload_n 1, 1), (51, .aload_n 0, 1), (52, .getfield 47, 3), (55, .getfield 153, 3), (58, .if_icmp .ge 61, 3), (61, .aload_n 0, 1), (62, .aload_n 0, 1), (63, .getfield 82, 3), (66, .getfield 180, 3), (69, .iload_n 1, 1), (70, .iaload, 1), (71, .invokevirtual 309, 3), (74, .aload_n 0, 1), (75, .aload_n 0, 1), (76, .getfield 82, 3), (79, .getfield 183, 3), (82, .iload_n 1, 1), (83, .iaload, 1), (84, .invokevirtual 309, 3), (87, .aload_n 0, 1), (88, .aload_n 0, 1), (89, .getfield 82, 3), (92, .getfield 189, 3), (95, .iload_n 1, 1), (96, .iaload, 1), (97, .invokevirtual 303, 3), (100, .aload_n 0, 1), (101, .aload_n 0, 1), (102, .getfield 82, 3), (105, .getfield 192, 3), (108, .iload_n 1, 1), (109, .iaload, 1), (110, .invokevirtual 303, 3), (113, .iinc 1 1, 3)]
set_option maxRecDepth 100000 in
theorem eX11_image_p0 : mf_dec cX11_image LX11_image_p0 = true := by decide +kernel
