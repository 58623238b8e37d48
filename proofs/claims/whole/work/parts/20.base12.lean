set_option maxRecDepth 100000 in
theorem okX12_fault : mf_ok YX12_fault 1 := ⟨mf_m7 (i := 212) rfl rfl, mf_m1 (i := 17) rfl rfl, by decide +kernel, by decide⟩
abbrev YX12_leaves : mf_Y := (yX12_leaves, cX12_leaves, 1, (some .int))
def LX12_leaves : List (Nat × Instr × Nat) := [(0, .aload_n 0, 1), (1, .getfield 105, 3), (4, .iconst 2, 1), (5, .iaload, 1), (6, .ireturn, 1)]
set_option maxRecDepth 100000 in
theorem eX12_leaves : mf_dec cX12_leaves LX12_leaves = true := by decide +kernel
set_option maxRecDepth 100000 in
theorem okX12_leaves : mf_ok YX12_leaves 0 := ⟨mf_m8 (i := 34) rfl rfl, mf_m1 (i := 17) rfl rfl, by decide +kernel, by decide⟩
abbrev YX12_beingMany : mf_Y := (yX12_beingMany, cX12_beingMany, 1, (some .int))
def LX12_beingMany : List (Nat × Instr × Nat) := [(0, .aload_n 0, 1), (1, .getfield 108, 3), (4, .iconst 3, 1), (5, .iaload, 1), (6, .ireturn, 1)]
set_option maxRecDepth 100000 in
theorem eX12_beingMany : mf_dec cX12_beingMany LX12_beingMany = true := by decide +kernel
set_option maxRecDepth 100000 in
theorem okX12_beingMany : mf_ok YX12_beingMany 0 := ⟨mf_m7 (i := 227) rfl rfl, mf_m1 (i := 17) rfl rfl, by decide +kernel, by decide⟩
abbrev YX12_isBeing : mf_Y := (yX12_isBeing, cX12_isBeing, 2, (some .boolean))
def LX12_isBeing : List (Nat × Instr × Nat) := [(0, .iload_n 1, 1), (1, .i2l, 1), (2, .lconst 0, 1), (3, .aload_n 0, 1), (4, .invokevirtual 402, 3), (7, .iconst 1, 1), (8, .isub, 1), (9, .i2l, 1), (10, .invokestatic 286, 3), (13, .ireturn, 1)]
set_option maxRecDepth 100000 in
theorem eX12_isBeing : mf_dec cX12_isBeing LX12_isBeing = true := by decide +kernel
set_option maxRecDepth 100000 in
theorem okX12_isBeing : mf_ok YX12_isBeing 1 := ⟨mf_m8 (i := 46) rfl rfl, mf_m1 (i := 17) rfl rfl, by decide +kernel, by decide⟩
abbrev YX12_isCell : mf_Y := (yX12_isCell, cX12_isCell, 3, (some .boolean))
def LX12_isCell : List (Nat × Instr × Nat) := [(0, .aload_n 0, 1), (1, .getfield 389, 3), (4, .ifCond .eq 41, 3), (7, .iload_n 1, 1), (8, .i2l, 1), (9, .lconst 0, 1), (10, .aload_n 0, 1), (11, .invokevirtual 405, 3), (14, .iconst 1, 1), (15, .isub, 1), (16, .i2l, 1), (17, .invokestatic 286, 3), (20, .ifCond .eq 25, 3), (23, .iload_n 2, 1), (24, .i2l, 1), (25, .lconst 0, 1), (26, .aload_n 0, 1), (27, .getfield 105, 3), (30, .iconst 3, 1), (31, .iaload, 1), (32, .iconst 1, 1), (33, .isub, 1), (34, .i2l, 1), (35, .invokestatic 286, 3), (38, .ifCond .eq 7, 3), (41, .iconst 1, 1), (42, .goto 4, 3), (45, .iconst 0, 1), (46, .ireturn, 1)]
set_option maxRecDepth 100000 in
theorem eX12_isCell : mf_dec cX12_isCell LX12_isCell = true := by decide +kernel
set_option maxRecDepth 100000 in
theorem okX12_isCell : mf_ok YX12_isCell 2 := ⟨mf_m8 (i := 59) rfl rfl, mf_m1 (i := 17) rfl rfl, by decide +kernel, by decide⟩
abbrev YX12_leafOf : mf_Y := (yX12_leafOf, cX12_leafOf, 2, (some .int))
def LX12_leafOf : List (Nat × Instr × Nat) := [(0, .aload_n 0, 1), (1, .getfield 136, 3), (4, .bipush 7, 2), (6, .iconst 4, 1), (7, .iload_n 1, 1), (8, .imul, 1), (9, .iadd, 1), (10, .iaload, 1), (11, .ireturn, 1)]
set_option maxRecDepth 100000 in
theorem eX12_leafOf : mf_dec cX12_leafOf LX12_leafOf = true := by decide +kernel
set_option maxRecDepth 100000 in
theorem okX12_leafOf : mf_ok YX12_leafOf 1 := ⟨mf_m8 (i := 7) rfl rfl, mf_m1 (i := 17) rfl rfl, by decide +kernel, by decide⟩
abbrev YX12_cellOf : mf_Y := (yX12_cellOf, cX12_cellOf, 2, (some .int))
def LX12_cellOf : List (Nat × Instr × Nat) := [(0, .aload_n 0, 1), (1, .getfield 136, 3), (4, .bipush 7, 2), (6, .iconst 4, 1), (7, .iload_n 1, 1), (8, .imul, 1), (9, .iadd, 1), (10, .iconst 1, 1), (11, .iadd, 1), (12, .iaload, 1), (13, .ireturn, 1)]
set_option maxRecDepth 100000 in
theorem eX12_cellOf : mf_dec cX12_cellOf LX12_cellOf = true := by decide +kernel
set_option maxRecDepth 100000 in
theorem okX12_cellOf : mf_ok YX12_cellOf 1 := ⟨mf_m8 (i := 11) rfl rfl, mf_m1 (i := 17) rfl rfl, by decide +kernel, by decide⟩
abbrev YX12_purseOf : mf_Y := (yX12_purseOf, cX12_purseOf, 2, (some .int))
def LX12_purseOf : List (Nat × Instr × Nat) := [(0, .aload_n 0, 1), (1, .getfield 136, 3), (4, .bipush 7, 2), (6, .iconst 4, 1), (7, .iload_n 1, 1), (8, .imul, 1), (9, .iadd, 1), (10, .iconst 2, 1), (11, .iadd, 1), (12, .iaload, 1), (13, .ireturn, 1)]
set_option maxRecDepth 100000 in
theorem eX12_purseOf : mf_dec cX12_purseOf LX12_purseOf = true := by decide +kernel
set_option maxRecDepth 100000 in
theorem okX12_purseOf : mf_ok YX12_purseOf 1 := ⟨mf_m8 (i := 15) rfl rfl, mf_m1 (i := 17) rfl rfl, by decide +kernel, by decide⟩
abbrev YX12_purseIs : mf_Y := (yX12_purseIs, cX12_purseIs, 4, none)
def LX12_purseIs : List (Nat × Instr × Nat) := [(0, .aload_n 0, 1), (1, .getfield 136, 3), (4, .bipush 7, 2), (6, .iconst 4, 1), (7, .iload_n 1, 1), (8, .imul, 1), (9, .iadd, 1), (10, .iconst 2, 1), (11, .iadd, 1), (12, .lload_n 2, 1), (13, .lconst 0, 1), (14, .lcmp, 1), (15, .ifCond .ge 7, 3), (18, .iconst 0, 1), (19, .goto 19, 3), (22, .lload_n 2, 1), (23, .ldc2_w 408, 3), (26, .lcmp, 1), (27, .ifCond .le 9, 3), (30, .sipush 9999, 3), (33, .goto 5, 3), (36, .lload_n 2, 1), (37, .l2i, 1), (38, .iastore, 1), (39, .return_, 1)]
set_option maxRecDepth 100000 in
theorem eX12_purseIs : mf_dec cX12_purseIs LX12_purseIs = true := by decide +kernel
set_option maxRecDepth 100000 in
theorem okX12_purseIs : mf_ok YX12_purseIs 2 := ⟨mf_m8 (i := 141) rfl rfl, mf_m1 (i := 17) rfl rfl, by decide +kernel, by decide⟩
abbrev YX12_hasGloss : mf_Y := (yX12_hasGloss, cX12_hasGloss, 3, (some .boolean))
def LX12_hasGloss : List (Nat × Instr × Nat) := [(0, .aload_n 0, 1), (1, .getfield 136, 3), (4, .iconst 1, 1), (5, .iload_n 1, 1), (6, .iadd, 1), (7, .iaload, 1), (8, .iload_n 2, 1), (9, .ishr, 1), (10, .iconst 1, 1), (11, .iand, 1), (12, .iconst 1, 1), (13, .if_icmp .ne 7, 3), (16, .iconst 1, 1), (17, .goto 4, 3), (20, .iconst 0, 1), (21, .ireturn, 1)]
set_option maxRecDepth 100000 in
theorem eX12_hasGloss : mf_dec cX12_hasGloss LX12_hasGloss = true := by decide +kernel
set_option maxRecDepth 100000 in
theorem okX12_hasGloss : mf_ok YX12_hasGloss 2 := ⟨mf_m8 (i := 67) rfl rfl, mf_m1 (i := 17) rfl rfl, by decide +kernel, by decide⟩
abbrev YX12_standsOn : mf_Y := (yX12_standsOn, cX12_standsOn, 4, (some .int))
def LX12_standsOn : List (Nat × Instr × Nat) := [(0, .iconst 0, 1), (1, .istore_n 3, 1), (2, .iload_n 3, 1), (3, .aload_n 0, 1), (4, .invokevirtual 402, 3), (7, .if_icmp .ge 29, 3), (10, .aload_n 0, 1), (11, .iload_n 3, 1), (12, .invokevirtual 410, 3), (15, .iload_n 1, 1), (16, .if_icmp .ne 14, 3), (19, .aload_n 0, 1), (20, .iload_n 3, 1), (21, .invokevirtual 413, 3), (24, .iload_n 2, 1), (25, .if_icmp .ne 5, 3), (28, .iload_n 3, 1), (29, .ireturn, 1), (30, .iinc 3 1, 3), (33, .goto (-31), 3), (36, .iconst (-1), 1), (37, .ireturn, 1)]
set_option maxRecDepth 100000 in
theorem eX12_standsOn : mf_dec cX12_standsOn LX12_standsOn = true := by decide +kernel
set_option maxRecDepth 100000 in
theorem okX12_standsOn : mf_ok YX12_standsOn 2 := ⟨mf_m8 (i := 71) rfl rfl, mf_m1 (i := 17) rfl rfl, by decide +kernel, by decide⟩
abbrev YX12_isOpen : mf_Y := (yX12_isOpen, cX12_isOpen, 2, (some .boolean))
def LX12_isOpen : List (Nat × Instr × Nat) := [(0, .iload_n 0, 1), (1, .iload_n 1, 1), (2, .iconst 1, 1), (3, .isub, 1), (4, .if_icmp .eq 8, 3), (7, .iload_n 0, 1), (8, .iload_n 1, 1), (9, .if_icmp .ne 7, 3), (12, .iconst 1, 1), (13, .goto 4, 3), (16, .iconst 0, 1), (17, .ireturn, 1)]
set_option maxRecDepth 100000 in
theorem eX12_isOpen : mf_dec cX12_isOpen LX12_isOpen = true := by decide +kernel
set_option maxRecDepth 100000 in
theorem okX12_isOpen : mf_ok YX12_isOpen 2 := ⟨mf_m8 (i := 18) rfl rfl, mf_m1 (i := 17) rfl rfl, by decide +kernel, by decide⟩
abbrev YX12_liesOnNext : mf_Y := (yX12_liesOnNext, cX12_liesOnNext, 3, (some .boolean))
def LX12_liesOnNext : List (Nat × Instr × Nat) := [(0, .iload_n 1, 1), (1, .ifCond .lt 25, 3), (4, .iload_n 1, 1), (5, .iconst 1, 1), (6, .iadd, 1), (7, .aload_n 0, 1), (8, .invokevirtual 405, 3), (11, .if_icmp .ge 15, 3), (14, .iload_n 1, 1), (15, .iload_n 2, 1), (16, .invokestatic 416, 3), (19, .ifCond .ne 7, 3), (22, .iconst 1, 1), (23, .goto 4, 3), (26, .iconst 0, 1), (27, .ireturn, 1)]
set_option maxRecDepth 100000 in
theorem eX12_liesOnNext : mf_dec cX12_liesOnNext LX12_liesOnNext = true := by decide +kernel
set_option maxRecDepth 100000 in
theorem okX12_liesOnNext : mf_ok YX12_liesOnNext 2 := ⟨mf_m8 (i := 63) rfl rfl, mf_m1 (i := 17) rfl rfl, by decide +kernel, by decide⟩
abbrev YX12_doMeet : mf_Y := (yX12_doMeet, cX12_doMeet, 6, (some .boolean))
def LX12_doMeet : List (Nat × Instr × Nat) := [(0, .aload_n 0, 1), (1, .iload_n 1, 1), (2, .invokevirtual 413, 3), (5, .aload_n 0, 1), (6, .iload_n 2, 1), (7, .invokevirtual 413, 3), (10, .iadd, 1), (11, .aload_n 0, 1), (12, .getfield 105, 3), (15, .iconst 3, 1), (16, .iaload, 1), (17, .iconst 1, 1), (18, .isub, 1), (19, .if_icmp .eq 5, 3), (22, .iconst 0, 1), (23, .ireturn, 1), (24, .aload_n 0, 1), (25, .iload_n 1, 1), (26, .invokevirtual 410, 3), (29, .istore 4, 2), (31, .aload_n 0, 1), (32, .iload_n 2, 1), (33, .invokevirtual 410, 3), (36, .istore 5, 2), (38, .iload 5, 2), (40, .iload 4, 2), (42, .iconst 1, 1), (43, .iadd, 1), (44, .if_icmp .ne 13, 3), (47, .aload_n 0, 1), (48, .iload 4, 2), (50, .iload_n 3, 1), (51, .invokevirtual 419, 3), (54, .goto 27, 3), (57, .iload 4, 2), (59, .iload 5, 2), (61, .iconst 1, 1), (62, .iadd, 1), (63, .if_icmp .ne 17, 3), (66, .aload_n 0, 1), (67, .iload 5, 2), (69, .iload_n 3, 1), (70, .invokevirtual 419, 3), (73, .ifCond .eq 7, 3), (76, .iconst 1, 1), (77, .goto 4, 3), (80, .iconst 0, 1), (81, .ireturn, 1)]
set_option maxRecDepth 100000 in
theorem eX12_doMeet : mf_dec cX12_doMeet LX12_doMeet = true := by decide +kernel
set_option maxRecDepth 100000 in
theorem okX12_doMeet : mf_ok YX12_doMeet 3 := ⟨mf_m8 (i := 84) rfl rfl, mf_m1 (i := 17) rfl rfl, by decide +kernel, by decide⟩
abbrev YX12_codesTell : mf_Y := (yX12_codesTell, cX12_codesTell, 5, (some .long))
def LX12_codesTell_p0 : List (Nat × Instr × Nat) := [(0, .aload_n 0, 1), (1, .iload_n 1, 1), (2, .invokestatic 335, 3), (5, .putfield 301, 3), (8, .aload_n 0, 1), (9, .iconst 0, 1), (10, .putfield 422, 3), (13, .aload_n 0, 1), (14, .getfield 127, 3), (17, .iconst 4, 1), (18, .iload_n 1, 1), (19, .iadd, 1), (20, .iaload, 1), (21, .istore_n 3, 1), (22, .iload_n 3, 1), (23, .aload_n 0, 1), (24, .getfield 130, 3), (27, .iconst 4, 1), (28, .iload_n 1, 1), (29, .iadd, 1), (30, .iaload, 1), (31, .if_icmp .ge 122, 3), (34, .aload_n 0, 1), (35, .getfield 133, 3), (38, .sipush 1600, 3), (41, .iload_n 3, 1), (42, .iadd, 1), (43, .iaload, 1), (44, .istore 4, 2), (46, .iload 4, 2), (48, .sipush 1000, 3), (51, .if_icmp .lt 17, 3), (54, .aload_n 0, 1), (55, .iload 4, 2), (57, .sipush 1000, 3), (60, .isub, 1), (61, .i2l, 1), (62, .invokevirtual 425, 3), (65, .goto 82, 3), (68, .iload 4, 2), (70, .bipush 40, 2), (72, .if_icmp .lt 20, 3), (75, .aload_n 0, 1), (76, .aload_n 0, 1), (77, .iload 4, 2), (79, .bipush 40, 2), (81, .isub, 1), (82, .iload_n 2, 1), (83, .invokevirtual 429, 3), (86, .invokevirtual 425, 3), (89, .goto 58, 3), (92, .iload 4, 2), (94, .bipush 13, 2), (96, .if_icmp .ne 11, 3), (99, .aload_n 0, 1), (100, .lconst 1, 1), (101, .invokevirtual 425, 3), (104, .goto 43, 3), (107, .iload 4, 2), (109, .bipush 12, 2)]
set_option maxRecDepth 100000 in
theorem eX12_codesTell_p0 : mf_dec cX12_codesTell LX12_codesTell_p0 = true := by decide +kernel
def LX12_codesTell_p1 : List (Nat × Instr × Nat) := [(111, .if_icmp .ne 30, 3), (114, .aload_n 0, 1), (115, .getfield 234, 3), (118, .aload_n 0, 1), (119, .getfield 422, 3), (122, .iconst 1, 1), (123, .isub, 1), (124, .lconst 1, 1), (125, .aload_n 0, 1), (126, .getfield 234, 3), (129, .aload_n 0, 1), (130, .getfield 422, 3), (133, .iconst 1, 1), (134, .isub, 1), (135, .laload, 1), (136, .lsub, 1), (137, .lastore, 1), (138, .goto 9, 3), (141, .aload_n 0, 1), (142, .iload 4, 2), (144, .invokevirtual 433, 3), (147, .iinc 3 1, 3), (150, .goto (-128), 3), (153, .aload_n 0, 1), (154, .getfield 234, 3), (157, .iconst 0, 1), (158, .laload, 1), (159, .lreturn, 1)]
set_option maxRecDepth 100000 in
theorem eX12_codesTell_p1 : mf_dec cX12_codesTell LX12_codesTell_p1 = true := by decide +kernel
set_option maxRecDepth 100000 in
theorem okX12_codesTell : mf_ok YX12_codesTell 2 := ⟨mf_m7 (i := 235) rfl rfl, mf_m1 (i := 17) rfl rfl, by decide +kernel, by decide⟩
abbrev YX12_openingOn : mf_Y := (yX12_openingOn, cX12_openingOn, 3, (some .int))
def LX12_openingOn : List (Nat × Instr × Nat) := [(0, .aload_n 0, 1), (1, .getfield 389, 3), (4, .ifCond .eq 13, 3), (7, .aload_n 0, 1), (8, .getfield 127, 3), (11, .iconst 4, 1), (12, .iaload, 1), (13, .iconst (-1), 1), (14, .if_icmp .ne 5, 3), (17, .iconst 0, 1), (18, .ireturn, 1), (19, .aload_n 0, 1), (20, .iload_n 1, 1), (21, .putfield 436, 3), (24, .aload_n 0, 1), (25, .iconst 0, 1), (26, .iconst 0, 1), (27, .invokevirtual 439, 3), (30, .aload_n 0, 1), (31, .invokevirtual 405, 3), (34, .iconst 1, 1), (35, .iadd, 1), (36, .i2l, 1), (37, .lrem, 1), (38, .l2i, 1), (39, .istore_n 2, 1), (40, .iload_n 2, 1), (41, .ifCond .ge 14, 3), (44, .iload_n 2, 1), (45, .aload_n 0, 1), (46, .invokevirtual 405, 3), (49, .iadd, 1), (50, .iconst 1, 1), (51, .iadd, 1), (52, .goto 4, 3), (55, .iload_n 2, 1), (56, .ireturn, 1)]
set_option maxRecDepth 100000 in
theorem eX12_openingOn : mf_dec cX12_openingOn LX12_openingOn = true := by decide +kernel
set_option maxRecDepth 100000 in
theorem okX12_openingOn : mf_ok YX12_openingOn 1 := ⟨mf_m7 (i := 231) rfl rfl, mf_m1 (i := 17) rfl rfl, by decide +kernel, by decide⟩
abbrev YX12_isMet : mf_Y := (yX12_isMet, cX12_isMet, 3, none)
def LX12_isMet : List (Nat × Instr × Nat) := [(0, .bipush 7, 2), (2, .iconst 4, 1), (3, .iload_n 1, 1), (4, .imul, 1), (5, .iadd, 1), (6, .iconst 3, 1), (7, .iadd, 1), (8, .istore_n 2, 1), (9, .aload_n 0, 1), (10, .getfield 136, 3), (13, .iload_n 2, 1), (14, .iaload, 1), (15, .sipush 9999, 3), (18, .if_icmp .ge 13, 3), (21, .aload_n 0, 1), (22, .getfield 136, 3), (25, .iload_n 2, 1), (26, .dup2, 1), (27, .iaload, 1), (28, .iconst 1, 1), (29, .iadd, 1), (30, .iastore, 1), (31, .aload_n 0, 1), (32, .getfield 142, 3), (35, .iload_n 1, 1), (36, .dup2, 1), (37, .iaload, 1), (38, .iconst 1, 1), (39, .iadd, 1), (40, .iastore, 1), (41, .return_, 1)]
set_option maxRecDepth 100000 in
theorem eX12_isMet : mf_dec cX12_isMet LX12_isMet = true := by decide +kernel
set_option maxRecDepth 100000 in
theorem okX12_isMet : mf_ok YX12_isMet 1 := ⟨mf_m8 (i := 129) rfl rfl, mf_m1 (i := 17) rfl rfl, by decide +kernel, by decide⟩
abbrev YX12_isKept : mf_Y := (yX12_isKept, cX12_isKept, 4, none)
def LX12_isKept_p0 : List (Nat × Instr × Nat) := [(0, .aload_n 0, 1), (1, .getfield 442, 3), (4, .ifCond .eq 4, 3), (7, .return_, 1), (8, .aload_n 0, 1), (9, .getfield 136, 3), (12, .bipush 39, 2), (14, .iaload, 1), (15, .bipush 40, 2), (17, .if_icmp .ne 36, 3), (20, .bipush 40, 2), (22, .istore_n 3, 1), (23, .iload_n 3, 1), (24, .sipush 157, 3), (27, .if_icmp .ge 23, 3), (30, .aload_n 0, 1), (31, .getfield 136, 3), (34, .iload_n 3, 1), (35, .aload_n 0, 1), (36, .getfield 136, 3), (39, .iload_n 3, 1), (40, .iconst 3, 1), (41, .iadd, 1), (42, .iaload, 1), (43, .iastore, 1), (44, .iinc 3 1, 3), (47, .goto (-24), 3), (50, .goto 14, 3), (53, .aload_n 0, 1), (54, .getfield 136, 3), (57, .bipush 39, 2), (59, .dup2, 1), (60, .iaload, 1), (61, .iconst 1, 1), (62, .iadd, 1), (63, .iastore, 1), (64, .bipush 40, 2), (66, .iconst 3, 1), (67, .aload_n 0, 1), (68, .getfield 136, 3), (71, .bipush 39, 2), (73, .iaload, 1), (74, .imul, 1), (75, .iadd, 1), (76, .iconst 3, 1), (77, .isub, 1), (78, .istore_n 3, 1), (79, .aload_n 0, 1), (80, .getfield 136, 3), (83, .iload_n 3, 1), (84, .aload_n 0, 1), (85, .getfield 136, 3), (88, .iconst 0, 1), (89, .iaload, 1), (90, .iastore, 1), (91, .aload_n 0, 1), (92, .getfield 136, 3), (95, .iload_n 3, 1), (96, .iconst 1, 1), (97, .iadd, 1)]
set_option maxRecDepth 100000 in
theorem eX12_isKept_p0 : mf_dec cX12_isKept LX12_isKept_p0 = true := by decide +kernel
def LX12_isKept_p1 : List (Nat × Instr × Nat) := [(98, .iload_n 1, 1), (99, .iastore, 1), (100, .aload_n 0, 1), (101, .getfield 136, 3), (104, .iload_n 3, 1), (105, .iconst 2, 1), (106, .iadd, 1), (107, .iload_n 2, 1), (108, .iastore, 1), (109, .return_, 1)]
set_option maxRecDepth 100000 in
theorem eX12_isKept_p1 : mf_dec cX12_isKept LX12_isKept_p1 = true := by decide +kernel
set_option maxRecDepth 100000 in
theorem okX12_isKept : mf_ok YX12_isKept 2 := ⟨mf_m8 (i := 133) rfl rfl, mf_m1 (i := 17) rfl rfl, by decide +kernel, by decide⟩
abbrev YX12_pays : mf_Y := (yX12_pays, cX12_pays, 7, none)
def LX12_pays : List (Nat × Instr × Nat) := [(0, .lload_n 3, 1), (1, .aload_n 0, 1), (2, .iload_n 1, 1), (3, .invokevirtual 445, 3), (6, .i2l, 1), (7, .lcmp, 1), (8, .ifCond .le 12, 3), (11, .aload_n 0, 1), (12, .iload_n 1, 1), (13, .invokevirtual 445, 3), (16, .i2l, 1), (17, .goto 4, 3), (20, .lload_n 3, 1), (21, .lstore 5, 2), (23, .aload_n 0, 1), (24, .iload_n 1, 1), (25, .aload_n 0, 1), (26, .iload_n 1, 1), (27, .invokevirtual 445, 3), (30, .i2l, 1), (31, .lload 5, 2), (33, .lsub, 1), (34, .invokevirtual 448, 3), (37, .aload_n 0, 1), (38, .iload_n 2, 1), (39, .aload_n 0, 1), (40, .iload_n 2, 1), (41, .invokevirtual 445, 3), (44, .i2l, 1), (45, .lload 5, 2), (47, .ladd, 1), (48, .invokevirtual 448, 3), (51, .return_, 1)]
set_option maxRecDepth 100000 in
theorem eX12_pays : mf_dec cX12_pays LX12_pays = true := by decide +kernel
