def LX12_isBeingTold_p1 : List (Nat × Instr × Nat) := [(93, .aload_n 0, 1), (94, .getfield 7, 3), (97, .iload 4, 2), (99, .iaload, 1), (100, .aload_n 0, 1), (101, .getfield 7, 3), (104, .iload_n 3, 1), (105, .iaload, 1), (106, .if_icmp .ne 25, 3), (109, .aload_n 0, 1), (110, .getfield 7, 3), (113, .iload 4, 2), (115, .iconst 1, 1), (116, .iadd, 1), (117, .iaload, 1), (118, .aload_n 0, 1), (119, .getfield 7, 3), (122, .iload_n 3, 1), (123, .iconst 1, 1), (124, .iadd, 1), (125, .iaload, 1), (126, .if_icmp .ne 5, 3), (129, .iconst 0, 1), (130, .ireturn, 1), (131, .iinc 4 6, 3), (134, .goto (-47), 3), (137, .iconst 1, 1), (138, .ireturn, 1)]
set_option maxRecDepth 100000 in
theorem eX12_isBeingTold_p1 : mf_dec cX12_isBeingTold LX12_isBeingTold_p1 = true := by decide +kernel
def LX12_isImage_p0 : List (Nat × Instr × Nat) := [(0, .iconst 2, 1), (1, .aload_n 0, 1), (2, .invokevirtual 405, 3), (5, .iadd, 1), (6, .istore_n 2, 1), (7, .aload_n 0, 1), (8, .getfield 389, 3), (11, .ifCond .eq 50, 3), (14, .iload_n 1, 1), (15, .iload_n 2, 1), (16, .bipush 6, 2), (18, .aload_n 0, 1), (19, .invokevirtual 402, 3), (22, .imul, 1), (23, .iadd, 1), (24, .iconst 1, 1), (25, .iadd, 1), (26, .if_icmp .ne 35, 3), (29, .aload_n 0, 1), (30, .getfield 7, 3), (33, .iload_n 1, 1), (34, .iconst 1, 1), (35, .isub, 1), (36, .iaload, 1), (37, .aload_n 0, 1), (38, .getfield 7, 3), (41, .iload_n 1, 1), (42, .iconst 1, 1), (43, .isub, 1), (44, .invokestatic 676, 3), (47, .if_icmp .ne 14, 3), (50, .aload_n 0, 1), (51, .iconst 0, 1), (52, .invokevirtual 680, 3), (55, .sipush 999, 3), (58, .if_icmp .le 5, 3), (61, .iconst 0, 1), (62, .ireturn, 1), (63, .iconst 2, 1), (64, .istore_n 3, 1), (65, .iload_n 3, 1), (66, .iload_n 2, 1), (67, .if_icmp .ge 28, 3), (70, .aload_n 0, 1), (71, .getfield 7, 3), (74, .iload_n 3, 1), (75, .iaload, 1), (76, .iconst 1, 1), (77, .aload_n 0, 1), (78, .getfield 105, 3), (81, .iconst 3, 1), (82, .iaload, 1), (83, .ishl, 1), (84, .if_icmp .lt 5, 3), (87, .iconst 0, 1), (88, .ireturn, 1), (89, .iinc 3 1, 3), (92, .goto (-27), 3), (95, .iconst 0, 1), (96, .istore_n 3, 1)]
set_option maxRecDepth 100000 in
theorem eX12_isImage_p0 : mf_dec cX12_isImage LX12_isImage_p0 = true := by decide +kernel
def LX12_isImage_p1 : List (Nat × Instr × Nat) := [(97, .iload_n 3, 1), (98, .aload_n 0, 1), (99, .invokevirtual 402, 3), (102, .if_icmp .ge 20, 3), (105, .aload_n 0, 1), (106, .iload_n 2, 1), (107, .iload_n 3, 1), (108, .invokevirtual 683, 3), (111, .ifCond .ne 5, 3), (114, .iconst 0, 1), (115, .ireturn, 1), (116, .iinc 3 1, 3), (119, .goto (-22), 3), (122, .iconst 1, 1), (123, .ireturn, 1)]
set_option maxRecDepth 100000 in
theorem eX12_isImage_p1 : mf_dec cX12_isImage LX12_isImage_p1 = true := by decide +kernel
def LX12_on_p0 : List (Nat × Instr × Nat) := [(0, .aload_n 0, 1), (1, .getfield 240, 3), (4, .istore_n 1, 1), (5, .aload_n 0, 1), (6, .iconst 0, 1), (7, .putfield 240, 3), (10, .aload_n 0, 1), (11, .iload_n 1, 1), (12, .invokevirtual 686, 3), (15, .ifCond .ne 15, 3), (18, .aload_n 0, 1), (19, .getfield 17, 3), (22, .iconst 5, 1), (23, .dup2, 1), (24, .iaload, 1), (25, .iconst 1, 1), (26, .iadd, 1), (27, .iastore, 1), (28, .iconst 0, 1), (29, .ireturn, 1), (30, .aload_n 0, 1), (31, .getfield 136, 3), (34, .iconst 0, 1), (35, .aload_n 0, 1), (36, .iconst 0, 1), (37, .invokevirtual 680, 3), (40, .iastore, 1), (41, .iconst 0, 1), (42, .istore_n 2, 1), (43, .iload_n 2, 1), (44, .aload_n 0, 1), (45, .invokevirtual 405, 3), (48, .if_icmp .ge 25, 3), (51, .aload_n 0, 1), (52, .getfield 136, 3), (55, .iconst 1, 1), (56, .iload_n 2, 1), (57, .iadd, 1), (58, .aload_n 0, 1), (59, .getfield 7, 3), (62, .iconst 2, 1), (63, .iload_n 2, 1), (64, .iadd, 1), (65, .iaload, 1), (66, .iastore, 1), (67, .iinc 2 1, 3), (70, .goto (-27), 3), (73, .iconst 0, 1), (74, .istore_n 2, 1), (75, .iload_n 2, 1), (76, .aload_n 0, 1), (77, .invokevirtual 402, 3), (80, .if_icmp .ge 99, 3), (83, .iconst 2, 1), (84, .aload_n 0, 1), (85, .invokevirtual 405, 3), (88, .iadd, 1), (89, .bipush 6, 2), (91, .iload_n 2, 1), (92, .imul, 1)]
set_option maxRecDepth 100000 in
theorem eX12_on_p0 : mf_dec cX12_on LX12_on_p0 = true := by decide +kernel
def LX12_on_p1 : List (Nat × Instr × Nat) := [(93, .iadd, 1), (94, .istore_n 3, 1), (95, .aload_n 0, 1), (96, .getfield 136, 3), (99, .bipush 7, 2), (101, .iconst 4, 1), (102, .iload_n 2, 1), (103, .imul, 1), (104, .iadd, 1), (105, .aload_n 0, 1), (106, .getfield 7, 3), (109, .iload_n 3, 1), (110, .iaload, 1), (111, .iastore, 1), (112, .aload_n 0, 1), (113, .getfield 136, 3), (116, .bipush 7, 2), (118, .iconst 4, 1), (119, .iload_n 2, 1), (120, .imul, 1), (121, .iadd, 1), (122, .iconst 1, 1), (123, .iadd, 1), (124, .aload_n 0, 1), (125, .getfield 7, 3), (128, .iload_n 3, 1), (129, .iconst 1, 1), (130, .iadd, 1), (131, .iaload, 1), (132, .iastore, 1), (133, .aload_n 0, 1), (134, .getfield 136, 3), (137, .bipush 7, 2), (139, .iconst 4, 1), (140, .iload_n 2, 1), (141, .imul, 1), (142, .iadd, 1), (143, .iconst 2, 1), (144, .iadd, 1), (145, .aload_n 0, 1), (146, .iload_n 3, 1), (147, .iconst 2, 1), (148, .iadd, 1), (149, .invokevirtual 680, 3), (152, .iastore, 1), (153, .aload_n 0, 1), (154, .getfield 136, 3), (157, .bipush 7, 2), (159, .iconst 4, 1), (160, .iload_n 2, 1), (161, .imul, 1), (162, .iadd, 1), (163, .iconst 3, 1), (164, .iadd, 1), (165, .aload_n 0, 1), (166, .iload_n 3, 1), (167, .iconst 4, 1), (168, .iadd, 1), (169, .invokevirtual 680, 3), (172, .iastore, 1)]
set_option maxRecDepth 100000 in
theorem eX12_on_p1 : mf_dec cX12_on LX12_on_p1 = true := by decide +kernel
def LX12_on_p2 : List (Nat × Instr × Nat) := [(173, .iinc 2 1, 3), (176, .goto (-101), 3), (179, .aload_n 0, 1), (180, .getfield 136, 3), (183, .bipush 39, 2), (185, .iconst 0, 1), (186, .iastore, 1), (187, .aload_n 0, 1), (188, .iconst 0, 1), (189, .putfield 396, 3), (192, .iconst 1, 1), (193, .ireturn, 1)]
set_option maxRecDepth 100000 in
theorem eX12_on_p2 : mf_dec cX12_on LX12_on_p2 = true := by decide +kernel
def LX12_status : List (Nat × Instr × Nat) := [(0, .iload_n 1, 1), (1, .i2l, 1), (2, .lconst 0, 1), (3, .ldc2_w 505, 3), (6, .invokestatic 286, 3), (9, .ifCond .eq 12, 3), (12, .aload_n 0, 1), (13, .getfield 17, 3), (16, .iload_n 1, 1), (17, .iaload, 1), (18, .goto 4, 3), (21, .iconst (-1), 1), (22, .ireturn, 1)]
set_option maxRecDepth 100000 in
theorem eX12_status : mf_dec cX12_status LX12_status = true := by decide +kernel
def LJ6_bitCount_0f7a4 : List (Nat × Instr × Nat) := [(0, .iload_n 0, 1), (1, .iload_n 0, 1), (2, .iconst 1, 1), (3, .iushr, 1), (4, .ldc_w 265, 3), (7, .iand, 1), (8, .isub, 1), (9, .istore_n 0, 1), (10, .iload_n 0, 1), (11, .ldc_w 266, 3), (14, .iand, 1), (15, .iload_n 0, 1), (16, .iconst 2, 1), (17, .iushr, 1), (18, .ldc_w 266, 3), (21, .iand, 1), (22, .iadd, 1), (23, .istore_n 0, 1), (24, .iload_n 0, 1), (25, .iload_n 0, 1), (26, .iconst 4, 1), (27, .iushr, 1), (28, .iadd, 1), (29, .ldc_w 267, 3), (32, .iand, 1), (33, .istore_n 0, 1), (34, .iload_n 0, 1), (35, .iload_n 0, 1), (36, .bipush 8, 2), (38, .iushr, 1), (39, .iadd, 1), (40, .istore_n 0, 1), (41, .iload_n 0, 1), (42, .iload_n 0, 1), (43, .bipush 16, 2), (45, .iushr, 1), (46, .iadd, 1), (47, .istore_n 0, 1), (48, .iload_n 0, 1), (49, .bipush 63, 2), (51, .iand, 1), (52, .ireturn, 1)]
set_option maxRecDepth 100000 in
theorem eJ6_bitCount_0f7a4 : mf_dec cJ6_bitCount_0f7a4 LJ6_bitCount_0f7a4 = true := by decide +kernel
def LJ9_floorDiv_7cf53 : List (Nat × Instr × Nat) := [(0, .iload_n 0, 1), (1, .iload_n 1, 1), (2, .idiv, 1), (3, .istore_n 2, 1), (4, .iload_n 0, 1), (5, .iload_n 1, 1), (6, .ixor, 1), (7, .ifCond .ge 14, 3), (10, .iload_n 2, 1), (11, .iload_n 1, 1), (12, .imul, 1), (13, .iload_n 0, 1), (14, .if_icmp .eq 7, 3), (17, .iload_n 2, 1), (18, .iconst 1, 1), (19, .isub, 1), (20, .ireturn, 1), (21, .iload_n 2, 1), (22, .ireturn, 1)]
set_option maxRecDepth 100000 in
theorem eJ9_floorDiv_7cf53 : mf_dec cJ9_floorDiv_7cf53 LJ9_floorDiv_7cf53 = true := by decide +kernel
def LJ9_floorMod_7cf53 : List (Nat × Instr × Nat) := [(0, .iload_n 0, 1), (1, .iload_n 1, 1), (2, .irem, 1), (3, .istore_n 2, 1), (4, .iload_n 0, 1), (5, .iload_n 1, 1), (6, .ixor, 1), (7, .ifCond .ge 11, 3), (10, .iload_n 2, 1), (11, .ifCond .eq 7, 3), (14, .iload_n 2, 1), (15, .iload_n 1, 1), (16, .iadd, 1), (17, .ireturn, 1), (18, .iload_n 2, 1), (19, .ireturn, 1)]
set_option maxRecDepth 100000 in
theorem eJ9_floorMod_7cf53 : mf_dec cJ9_floorMod_7cf53 LJ9_floorMod_7cf53 = true := by decide +kernel
def LJ9_abs_0f7a4 : List (Nat × Instr × Nat) := [(0, .iload_n 0, 1), (1, .ifCond .ge 8, 3), (4, .iload_n 0, 1), (5, .ineg, 1), (6, .goto 4, 3), (9, .iload_n 0, 1), (10, .ireturn, 1)]
set_option maxRecDepth 100000 in
theorem eJ9_abs_0f7a4 : mf_dec cJ9_abs_0f7a4 LJ9_abs_0f7a4 = true := by decide +kernel
def LJ9_max_7cf53 : List (Nat × Instr × Nat) := [(0, .iload_n 0, 1), (1, .iload_n 1, 1), (2, .if_icmp .lt 7, 3), (5, .iload_n 0, 1), (6, .goto 4, 3), (9, .iload_n 1, 1), (10, .ireturn, 1)]
set_option maxRecDepth 100000 in
theorem eJ9_max_7cf53 : mf_dec cJ9_max_7cf53 LJ9_max_7cf53 = true := by decide +kernel
def LJ9_max_f86c9 : List (Nat × Instr × Nat) := [(0, .lload_n 0, 1), (1, .lload_n 2, 1), (2, .lcmp, 1), (3, .ifCond .lt 7, 3), (6, .lload_n 0, 1), (7, .goto 4, 3), (10, .lload_n 2, 1), (11, .lreturn, 1)]
set_option maxRecDepth 100000 in
theorem eJ9_max_f86c9 : mf_dec cJ9_max_f86c9 LJ9_max_f86c9 = true := by decide +kernel
def LJ9_min_7cf53 : List (Nat × Instr × Nat) := [(0, .iload_n 0, 1), (1, .iload_n 1, 1), (2, .if_icmp .gt 7, 3), (5, .iload_n 0, 1), (6, .goto 4, 3), (9, .iload_n 1, 1), (10, .ireturn, 1)]
set_option maxRecDepth 100000 in
theorem eJ9_min_7cf53 : mf_dec cJ9_min_7cf53 LJ9_min_7cf53 = true := by decide +kernel
def LJ9_min_f86c9 : List (Nat × Instr × Nat) := [(0, .lload_n 0, 1), (1, .lload_n 2, 1), (2, .lcmp, 1), (3, .ifCond .gt 7, 3), (6, .lload_n 0, 1), (7, .goto 4, 3), (10, .lload_n 2, 1), (11, .lreturn, 1)]
set_option maxRecDepth 100000 in
theorem eJ9_min_f86c9 : mf_dec cJ9_min_f86c9 LJ9_min_f86c9 = true := by decide +kernel
def LJ0_length_8abf5 : List (Nat × Instr × Nat) := [(0, .aload_n 0, 1), (1, .getfield 9, 3), (4, .arraylength, 1), (5, .aload_n 0, 1), (6, .invokevirtual 335, 3), (9, .ishr, 1), (10, .ireturn, 1)]
set_option maxRecDepth 100000 in
theorem eJ0_length_8abf5 : mf_dec cJ0_length_8abf5 LJ0_length_8abf5 = true := by decide +kernel
def LJ0_charAt_5068e : List (Nat × Instr × Nat) := [(0, .aload_n 0, 1), (1, .invokevirtual 492, 3), (4, .ifCond .eq 12, 3), (7, .aload_n 0, 1), (8, .getfield 9, 3), (11, .iload_n 1, 1), (12, .invokestatic 495, 3), (15, .ireturn, 1), (16, .aload_n 0, 1), (17, .getfield 9, 3), (20, .iload_n 1, 1), (21, .invokestatic 498, 3), (24, .ireturn, 1)]
set_option maxRecDepth 100000 in
theorem eJ0_charAt_5068e : mf_dec cJ0_charAt_5068e LJ0_charAt_5068e = true := by decide +kernel
def LJ0_coder_7d493 : List (Nat × Instr × Nat) := [(0, .getstatic 38, 3), (3, .ifCond .eq 10, 3), (6, .aload_n 0, 1), (7, .getfield 15, 3), (10, .goto 4, 3), (13, .iconst 1, 1), (14, .ireturn, 1)]
set_option maxRecDepth 100000 in
theorem eJ0_coder_7d493 : mf_dec cJ0_coder_7d493 LJ0_coder_7d493 = true := by decide +kernel
def LJ0_isLatin1_aae02 : List (Nat × Instr × Nat) := [(0, .getstatic 38, 3), (3, .ifCond .eq 14, 3), (6, .aload_n 0, 1), (7, .getfield 15, 3), (10, .ifCond .ne 7, 3), (13, .iconst 1, 1), (14, .goto 4, 3), (17, .iconst 0, 1), (18, .ireturn, 1)]
set_option maxRecDepth 100000 in
theorem eJ0_isLatin1_aae02 : mf_dec cJ0_isLatin1_aae02 LJ0_isLatin1_aae02 = true := by decide +kernel
def LJ0_checkIndex_df160 : List (Nat × Instr × Nat) := [(0, .iload_n 0, 1), (1, .iload_n 1, 1), (2, .getstatic 1053, 3), (5, .invokestatic 1059, 3), (8, .pop, 1), (9, .return_, 1)]
set_option maxRecDepth 100000 in
theorem eJ0_checkIndex_df160 : mf_dec cJ0_checkIndex_df160 LJ0_checkIndex_df160 = true := by decide +kernel
