abbrev K_X5 : XK := (RX5, [(9, 4, 0, true), (15, 4, 1, true), (18, 4, 2, false), (22, 4, 3, false), (25, 4, 4, false), (28, 4, 5, true), (31, 4, 6, true), (34, 4, 7, true)], [], [])
set_option maxRecDepth 100000 in
theorem okK_X5 : okK K_X5 = true := by decide +kernel
abbrev tb_X5_init : List (Nat × Instr × Nat) := [(0, .aload_n 0, 1), (1, .invokespecial 3, 3), (4, .aload_n 0, 1), (5, .iconst 0, 1), (6, .putfield 9, 3), (9, .aload_n 0, 1), (10, .iconst 0, 1), (11, .putfield 15, 3), (14, .aload_n 0, 1), (15, .sipush 160, 3), (18, .newarray .int, 2), (20, .putfield 18, 3), (23, .aload_n 0, 1), (24, .sipush 160, 3), (27, .newarray .int, 2), (29, .putfield 22, 3), (32, .aload_n 0, 1), (33, .iconst 3, 1), (34, .newarray .int, 2), (36, .putfield 25, 3), (39, .aload_n 0, 1), (40, .iconst 0, 1), (41, .putfield 28, 3), (44, .aload_n 0, 1), (45, .iconst 0, 1), (46, .putfield 31, 3), (49, .aload_n 0, 1), (50, .iconst (-1), 1), (51, .putfield 34, 3), (54, .return_, 1)]
abbrev M_X5_init : XM := (yX5_init, cX5_init, 1, none, tb_X5_init, K_X5)
set_option maxRecDepth 100000 in
theorem ok_X5_init : okM M_X5_init := ⟨okK_X5, by decide +kernel, List.mem_filter.mpr ⟨List.mem_of_getElem? (i := 172) rfl, rfl⟩, rfl, by decide +kernel, by decide⟩
abbrev tb_X5_put : List (Nat × Instr × Nat) := [(0, .aload_n 0, 1), (1, .getfield 9, 3), (4, .sipush 160, 3), (7, .if_icmp .lt 4, 3), (10, .return_, 1), (11, .aload_n 0, 1), (12, .getfield 18, 3), (15, .aload_n 0, 1), (16, .getfield 9, 3), (19, .iload_n 1, 1), (20, .iastore, 1), (21, .aload_n 0, 1), (22, .dup, 1), (23, .getfield 9, 3), (26, .iconst 1, 1), (27, .iadd, 1), (28, .putfield 9, 3), (31, .return_, 1)]
abbrev M_X5_put : XM := (yX5_put, cX5_put, 2, none, tb_X5_put, K_X5)
set_option maxRecDepth 100000 in
theorem ok_X5_put : okM M_X5_put := ⟨okK_X5, by decide +kernel, List.mem_filter.mpr ⟨List.mem_of_getElem? (i := 334) rfl, rfl⟩, rfl, by decide +kernel, by decide⟩
abbrev tb_X5_clear : List (Nat × Instr × Nat) := [(0, .aload_n 0, 1), (1, .iconst 0, 1), (2, .putfield 9, 3), (5, .return_, 1)]
abbrev M_X5_clear : XM := (yX5_clear, cX5_clear, 1, none, tb_X5_clear, K_X5)
set_option maxRecDepth 100000 in
theorem ok_X5_clear : okM M_X5_clear := ⟨okK_X5, by decide +kernel, List.mem_filter.mpr ⟨List.mem_of_getElem? (i := 454) rfl, rfl⟩, rfl, by decide +kernel, by decide⟩
abbrev tb_X5_isText : List (Nat × Instr × Nat) := [(0, .aload_n 0, 1), (1, .iconst 0, 1), (2, .putfield 28, 3), (5, .aload_n 0, 1), (6, .iconst 0, 1), (7, .putfield 31, 3), (10, .aload_n 0, 1), (11, .invokevirtual 37, 3), (14, .iconst 0, 1), (15, .istore_n 1, 1), (16, .iload_n 1, 1), (17, .iconst 2, 1), (18, .if_icmp .gt 51, 3), (21, .aload_n 0, 1), (22, .bipush (-10), 2), (24, .iload_n 1, 1), (25, .isub, 1), (26, .invokevirtual 40, 3), (29, .ifCond .eq 11, 3), (32, .aload_n 0, 1), (33, .iconst 0, 1), (34, .invokevirtual 44, 3), (37, .ifCond .ne 5, 3), (40, .iconst 0, 1), (41, .ireturn, 1), (42, .aload_n 0, 1), (43, .getfield 25, 3), (46, .iload_n 1, 1), (47, .aload_n 0, 1), (48, .getfield 28, 3), (51, .iastore, 1), (52, .aload_n 0, 1), (53, .bipush (-5), 2), (55, .invokevirtual 40, 3), (58, .ifCond .ne 5, 3), (61, .iconst 0, 1), (62, .ireturn, 1), (63, .iinc 1 1, 3), (66, .goto (-50), 3), (69, .aload_n 0, 1), (70, .getfield 34, 3), (73, .iconst (-1), 1), (74, .if_icmp .ne 7, 3), (77, .iconst 1, 1), (78, .goto 4, 3), (81, .iconst 0, 1), (82, .ireturn, 1)]
abbrev M_X5_isText : XM := (yX5_isText, cX5_isText, 2, (some .boolean), tb_X5_isText, K_X5)
set_option maxRecDepth 100000 in
theorem ok_X5_isText : okM M_X5_isText := ⟨okK_X5, by decide +kernel, List.mem_filter.mpr ⟨List.mem_of_getElem? (i := 338) rfl, rfl⟩, rfl, by decide +kernel, by decide⟩
abbrev tb_X5_law : List (Nat × Instr × Nat) := [(0, .new 47, 3), (3, .dup, 1), (4, .aload_n 0, 1), (5, .getfield 22, 3), (8, .aload_n 0, 1), (9, .getfield 28, 3), (12, .invokestatic 49, 3), (15, .aload_n 0, 1), (16, .getfield 25, 3), (19, .aload_n 0, 1), (20, .getfield 25, 3), (23, .arraylength, 1), (24, .invokestatic 49, 3), (27, .invokespecial 55, 3), (30, .areturn, 1)]
abbrev M_X5_law : XM := (yX5_law, cX5_law, 1, (some (.object "WarmChairs$Law")), tb_X5_law, K_X5)
set_option maxRecDepth 100000 in
theorem ok_X5_law : okM M_X5_law := ⟨okK_X5, by decide +kernel, List.mem_filter.mpr ⟨List.mem_of_getElem? (i := 417) rfl, rfl⟩, rfl, by decide +kernel, by decide⟩
abbrev tb_X5_passes : List (Nat × Instr × Nat) := [(0, .aload_n 0, 1), (1, .getfield 34, 3), (4, .iload_n 1, 1), (5, .if_icmp .eq 5, 3), (8, .iconst 0, 1), (9, .ireturn, 1), (10, .aload_n 0, 1), (11, .invokevirtual 37, 3), (14, .iconst 1, 1), (15, .ireturn, 1)]
abbrev M_X5_passes : XM := (yX5_passes, cX5_passes, 2, (some .boolean), tb_X5_passes, K_X5)
set_option maxRecDepth 100000 in
theorem ok_X5_passes : okM M_X5_passes := ⟨okK_X5, by decide +kernel, List.mem_filter.mpr ⟨List.mem_of_getElem? (i := 385) rfl, rfl⟩, rfl, by decide +kernel, by decide⟩
abbrev tb_X5_emit : List (Nat × Instr × Nat) := [(0, .aload_n 0, 1), (1, .getfield 28, 3), (4, .sipush 160, 3), (7, .if_icmp .lt 5, 3), (10, .iconst 0, 1), (11, .ireturn, 1), (12, .aload_n 0, 1), (13, .getfield 22, 3), (16, .aload_n 0, 1), (17, .getfield 28, 3), (20, .iload_n 1, 1), (21, .iastore, 1), (22, .aload_n 0, 1), (23, .dup, 1), (24, .getfield 28, 3), (27, .iconst 1, 1), (28, .iadd, 1), (29, .putfield 28, 3), (32, .iconst 1, 1), (33, .ireturn, 1)]
abbrev M_X5_emit : XM := (yX5_emit, cX5_emit, 2, (some .boolean), tb_X5_emit, K_X5)
set_option maxRecDepth 100000 in
theorem ok_X5_emit : okM M_X5_emit := ⟨okK_X5, by decide +kernel, List.mem_filter.mpr ⟨List.mem_of_getElem? (i := 401) rfl, rfl⟩, rfl, by decide +kernel, by decide⟩
abbrev tb_X5_isEither : List (Nat × Instr × Nat) := [(0, .aload_n 0, 1), (1, .iload_n 1, 1), (2, .invokevirtual 58, 3), (5, .ifCond .ne 5, 3), (8, .iconst 0, 1), (9, .ireturn, 1), (10, .iconst 0, 1), (11, .istore_n 2, 1), (12, .iload_n 2, 1), (13, .sipush 160, 3), (16, .if_icmp .ge 43, 3), (19, .aload_n 0, 1), (20, .getfield 34, 3), (23, .sipush 10006, 3), (26, .if_icmp .ne 33, 3), (29, .aload_n 0, 1), (30, .invokevirtual 37, 3), (33, .aload_n 0, 1), (34, .iload_n 1, 1), (35, .invokevirtual 58, 3), (38, .ifCond .eq 13, 3), (41, .aload_n 0, 1), (42, .sipush 10006, 3), (45, .invokevirtual 61, 3), (48, .ifCond .ne 5, 3), (51, .iconst 0, 1), (52, .ireturn, 1), (53, .iinc 2 1, 3), (56, .goto (-44), 3), (59, .iconst 1, 1), (60, .ireturn, 1)]
abbrev M_X5_isEither : XM := (yX5_isEither, cX5_isEither, 3, (some .boolean), tb_X5_isEither, K_X5)
set_option maxRecDepth 100000 in
theorem ok_X5_isEither : okM M_X5_isEither := ⟨okK_X5, by decide +kernel, List.mem_filter.mpr ⟨List.mem_of_getElem? (i := 389) rfl, rfl⟩, rfl, by decide +kernel, by decide⟩
abbrev tb_X5_isBoth : List (Nat × Instr × Nat) := [(0, .aload_n 0, 1), (1, .iload_n 1, 1), (2, .invokevirtual 64, 3), (5, .ifCond .ne 5, 3), (8, .iconst 0, 1), (9, .ireturn, 1), (10, .iconst 0, 1), (11, .istore_n 2, 1), (12, .iload_n 2, 1), (13, .sipush 160, 3), (16, .if_icmp .ge 43, 3), (19, .aload_n 0, 1), (20, .getfield 34, 3), (23, .sipush 10007, 3), (26, .if_icmp .ne 33, 3), (29, .aload_n 0, 1), (30, .invokevirtual 37, 3), (33, .aload_n 0, 1), (34, .iload_n 1, 1), (35, .invokevirtual 64, 3), (38, .ifCond .eq 13, 3), (41, .aload_n 0, 1), (42, .sipush 10007, 3), (45, .invokevirtual 61, 3), (48, .ifCond .ne 5, 3), (51, .iconst 0, 1), (52, .ireturn, 1), (53, .iinc 2 1, 3), (56, .goto (-44), 3), (59, .iconst 1, 1), (60, .ireturn, 1)]
abbrev M_X5_isBoth : XM := (yX5_isBoth, cX5_isBoth, 3, (some .boolean), tb_X5_isBoth, K_X5)
set_option maxRecDepth 100000 in
theorem ok_X5_isBoth : okM M_X5_isBoth := ⟨okK_X5, by decide +kernel, List.mem_filter.mpr ⟨List.mem_of_getElem? (i := 393) rfl, rfl⟩, rfl, by decide +kernel, by decide⟩
abbrev tb_X5_isNot : List (Nat × Instr × Nat) := [(0, .aload_n 0, 1), (1, .getfield 34, 3), (4, .sipush 10013, 3), (7, .if_icmp .ne 40, 3), (10, .iload_n 1, 1), (11, .iconst 5, 1), (12, .if_icmp .lt 5, 3), (15, .iconst 0, 1), (16, .ireturn, 1), (17, .aload_n 0, 1), (18, .invokevirtual 37, 3), (21, .aload_n 0, 1), (22, .iload_n 1, 1), (23, .iconst 1, 1), (24, .iadd, 1), (25, .invokevirtual 64, 3), (28, .ifCond .eq 17, 3), (31, .aload_n 0, 1), (32, .sipush 10013, 3), (35, .invokevirtual 61, 3), (38, .ifCond .eq 7, 3), (41, .iconst 1, 1), (42, .goto 4, 3), (45, .iconst 0, 1), (46, .ireturn, 1), (47, .aload_n 0, 1), (48, .iload_n 1, 1), (49, .invokevirtual 67, 3), (52, .ifCond .ne 5, 3), (55, .iconst 0, 1), (56, .ireturn, 1), (57, .aload_n 0, 1), (58, .getfield 34, 3), (61, .istore_n 2, 1), (62, .iload_n 2, 1), (63, .sipush 10008, 3), (66, .if_icmp .eq 12, 3), (69, .iload_n 2, 1), (70, .sipush 10009, 3), (73, .if_icmp .eq 5, 3), (76, .iconst 1, 1), (77, .ireturn, 1), (78, .aload_n 0, 1), (79, .invokevirtual 37, 3), (82, .aload_n 0, 1), (83, .iload_n 1, 1), (84, .invokevirtual 67, 3), (87, .ifCond .eq 15, 3), (90, .aload_n 0, 1), (91, .iload_n 2, 1), (92, .invokevirtual 61, 3), (95, .ifCond .eq 7, 3), (98, .iconst 1, 1), (99, .goto 4, 3), (102, .iconst 0, 1), (103, .ireturn, 1)]
abbrev M_X5_isNot : XM := (yX5_isNot, cX5_isNot, 3, (some .boolean), tb_X5_isNot, K_X5)
set_option maxRecDepth 100000 in
theorem ok_X5_isNot : okM M_X5_isNot := ⟨okK_X5, by decide +kernel, List.mem_filter.mpr ⟨List.mem_of_getElem? (i := 397) rfl, rfl⟩, rfl, by decide +kernel, by decide⟩
abbrev tb_X5_isSum : List (Nat × Instr × Nat) := [(0, .aload_n 0, 1), (1, .iload_n 1, 1), (2, .invokevirtual 70, 3), (5, .ifCond .ne 5, 3), (8, .iconst 0, 1), (9, .ireturn, 1), (10, .iconst 0, 1), (11, .istore_n 2, 1), (12, .iload_n 2, 1), (13, .sipush 160, 3), (16, .if_icmp .ge 56, 3), (19, .aload_n 0, 1), (20, .getfield 34, 3), (23, .sipush 10010, 3), (26, .if_icmp .eq 13, 3), (29, .aload_n 0, 1), (30, .getfield 34, 3), (33, .sipush 10011, 3), (36, .if_icmp .ne 36, 3), (39, .aload_n 0, 1), (40, .getfield 34, 3), (43, .istore_n 3, 1), (44, .aload_n 0, 1), (45, .invokevirtual 37, 3), (48, .aload_n 0, 1), (49, .iload_n 1, 1), (50, .invokevirtual 70, 3), (53, .ifCond .eq 11, 3), (56, .aload_n 0, 1), (57, .iload_n 3, 1), (58, .invokevirtual 61, 3), (61, .ifCond .ne 5, 3), (64, .iconst 0, 1), (65, .ireturn, 1), (66, .iinc 2 1, 3), (69, .goto (-57), 3), (72, .iconst 1, 1), (73, .ireturn, 1)]
abbrev M_X5_isSum : XM := (yX5_isSum, cX5_isSum, 4, (some .boolean), tb_X5_isSum, K_X5)
set_option maxRecDepth 100000 in
theorem ok_X5_isSum : okM M_X5_isSum := ⟨okK_X5, by decide +kernel, List.mem_filter.mpr ⟨List.mem_of_getElem? (i := 405) rfl, rfl⟩, rfl, by decide +kernel, by decide⟩
abbrev tb_X5_isTerm : List (Nat × Instr × Nat) := [(0, .aload_n 0, 1), (1, .iload_n 1, 1), (2, .invokevirtual 73, 3), (5, .ifCond .ne 5, 3), (8, .iconst 0, 1), (9, .ireturn, 1), (10, .iconst 0, 1), (11, .istore_n 2, 1), (12, .iload_n 2, 1), (13, .sipush 160, 3), (16, .if_icmp .ge 43, 3), (19, .aload_n 0, 1), (20, .getfield 34, 3), (23, .sipush 10012, 3), (26, .if_icmp .ne 33, 3), (29, .aload_n 0, 1), (30, .invokevirtual 37, 3), (33, .aload_n 0, 1), (34, .iload_n 1, 1), (35, .invokevirtual 73, 3), (38, .ifCond .eq 13, 3), (41, .aload_n 0, 1), (42, .sipush 10012, 3), (45, .invokevirtual 61, 3), (48, .ifCond .ne 5, 3), (51, .iconst 0, 1), (52, .ireturn, 1), (53, .iinc 2 1, 3), (56, .goto (-44), 3), (59, .iconst 1, 1), (60, .ireturn, 1)]
abbrev M_X5_isTerm : XM := (yX5_isTerm, cX5_isTerm, 3, (some .boolean), tb_X5_isTerm, K_X5)
set_option maxRecDepth 100000 in
theorem ok_X5_isTerm : okM M_X5_isTerm := ⟨okK_X5, by decide +kernel, List.mem_filter.mpr ⟨List.mem_of_getElem? (i := 409) rfl, rfl⟩, rfl, by decide +kernel, by decide⟩
abbrev tb_X5_isOperand : List (Nat × Instr × Nat) := [(0, .aload_n 0, 1), (1, .getfield 34, 3), (4, .ifCond .lt 28, 3), (7, .aload_n 0, 1), (8, .getfield 34, 3), (11, .sipush 10006, 3), (14, .if_icmp .ge 18, 3), (17, .aload_n 0, 1), (18, .getfield 34, 3), (21, .istore_n 2, 1), (22, .aload_n 0, 1), (23, .invokevirtual 37, 3), (26, .aload_n 0, 1), (27, .iload_n 2, 1), (28, .invokevirtual 61, 3), (31, .ireturn, 1), (32, .iload_n 1, 1), (33, .iconst 5, 1), (34, .if_icmp .lt 5, 3), (37, .iconst 0, 1), (38, .ireturn, 1), (39, .aload_n 0, 1), (40, .getfield 34, 3), (43, .sipush 10011, 3), (46, .if_icmp .ne 33, 3), (49, .aload_n 0, 1), (50, .invokevirtual 37, 3), (53, .aload_n 0, 1), (54, .iload_n 1, 1), (55, .iconst 1, 1), (56, .iadd, 1), (57, .invokevirtual 73, 3), (60, .ifCond .eq 17, 3), (63, .aload_n 0, 1), (64, .sipush 10014, 3), (67, .invokevirtual 61, 3), (70, .ifCond .eq 7, 3), (73, .iconst 1, 1), (74, .goto 4, 3), (77, .iconst 0, 1), (78, .ireturn, 1), (79, .aload_n 0, 1), (80, .bipush (-3), 2), (82, .invokevirtual 40, 3), (85, .ifCond .eq 26, 3), (88, .aload_n 0, 1), (89, .iload_n 1, 1), (90, .iconst 1, 1), (91, .iadd, 1), (92, .invokevirtual 44, 3), (95, .ifCond .eq 16, 3), (98, .aload_n 0, 1), (99, .bipush (-4), 2), (101, .invokevirtual 40, 3), (104, .ifCond .eq 7, 3), (107, .iconst 1, 1), (108, .goto 4, 3), (111, .iconst 0, 1), (112, .ireturn, 1)]
abbrev M_X5_isOperand : XM := (yX5_isOperand, cX5_isOperand, 3, (some .boolean), tb_X5_isOperand, K_X5)
set_option maxRecDepth 100000 in
theorem ok_X5_isOperand : okM M_X5_isOperand := ⟨okK_X5, by decide +kernel, List.mem_filter.mpr ⟨List.mem_of_getElem? (i := 413) rfl, rfl⟩, rfl, by decide +kernel, by decide⟩
abbrev tb_X5_look : List (Nat × Instr × Nat) := [(0, .aload_n 0, 1), (1, .getfield 31, 3), (4, .aload_n 0, 1), (5, .getfield 9, 3), (8, .if_icmp .ge 31, 3), (11, .aload_n 0, 1), (12, .getfield 18, 3), (15, .aload_n 0, 1), (16, .getfield 31, 3), (19, .iaload, 1), (20, .invokestatic 76, 3), (23, .ifCond .eq 16, 3), (26, .aload_n 0, 1), (27, .dup, 1), (28, .getfield 31, 3), (31, .iconst 1, 1), (32, .iadd, 1), (33, .putfield 31, 3), (36, .goto (-36), 3), (39, .aload_n 0, 1), (40, .aload_n 0, 1), (41, .getfield 31, 3), (44, .putfield 15, 3), (47, .aload_n 0, 1), (48, .getfield 31, 3), (51, .aload_n 0, 1), (52, .getfield 9, 3), (55, .if_icmp .lt 11, 3), (58, .aload_n 0, 1), (59, .iconst (-1), 1), (60, .putfield 34, 3), (63, .goto 63, 3), (66, .aload_n 0, 1), (67, .getfield 18, 3), (70, .aload_n 0, 1), (71, .getfield 31, 3), (74, .iaload, 1), (75, .invokestatic 79, 3), (78, .ifCond .eq 14, 3), (81, .aload_n 0, 1), (82, .aload_n 0, 1), (83, .invokevirtual 82, 3), (86, .putfield 34, 3), (89, .goto 37, 3), (92, .aload_n 0, 1), (93, .getfield 18, 3), (96, .aload_n 0, 1), (97, .getfield 31, 3), (100, .iaload, 1), (101, .invokestatic 86, 3), (104, .ifCond .eq 14, 3), (107, .aload_n 0, 1), (108, .aload_n 0, 1), (109, .invokevirtual 89, 3), (112, .putfield 34, 3), (115, .goto 11, 3), (118, .aload_n 0, 1), (119, .aload_n 0, 1), (120, .invokevirtual 92, 3), (123, .putfield 34, 3), (126, .return_, 1)]
abbrev M_X5_look : XM := (yX5_look, cX5_look, 1, none, tb_X5_look, K_X5)
set_option maxRecDepth 100000 in
theorem ok_X5_look : okM M_X5_look := ⟨okK_X5, by decide +kernel, List.mem_filter.mpr ⟨List.mem_of_getElem? (i := 342) rfl, rfl⟩, rfl, by decide +kernel, by decide⟩
abbrev tb_X5_word : List (Nat × Instr × Nat) := [(0, .aload_n 0, 1), (1, .getfield 31, 3), (4, .aload_n 0, 1), (5, .getfield 9, 3), (8, .if_icmp .ge 31, 3), (11, .aload_n 0, 1), (12, .getfield 18, 3), (15, .aload_n 0, 1), (16, .getfield 31, 3), (19, .iaload, 1), (20, .invokestatic 79, 3), (23, .ifCond .eq 16, 3), (26, .aload_n 0, 1), (27, .dup, 1), (28, .getfield 31, 3), (31, .iconst 1, 1), (32, .iadd, 1), (33, .putfield 31, 3), (36, .goto (-36), 3), (39, .aload_n 0, 1), (40, .ldc 95, 2), (42, .invokevirtual 97, 3), (45, .ifCond .eq 7, 3), (48, .sipush 10000, 3), (51, .ireturn, 1), (52, .aload_n 0, 1), (53, .ldc 101, 2), (55, .invokevirtual 97, 3), (58, .ifCond .eq 7, 3), (61, .sipush 10001, 3), (64, .ireturn, 1), (65, .aload_n 0, 1), (66, .ldc 103, 2), (68, .invokevirtual 97, 3), (71, .ifCond .eq 7, 3), (74, .sipush 10002, 3), (77, .ireturn, 1), (78, .aload_n 0, 1), (79, .ldc 105, 2), (81, .invokevirtual 97, 3), (84, .ifCond .eq 7, 3), (87, .sipush 10003, 3), (90, .ireturn, 1), (91, .aload_n 0, 1), (92, .ldc 107, 2), (94, .invokevirtual 97, 3), (97, .ifCond .eq 7, 3), (100, .sipush 10004, 3), (103, .ireturn, 1), (104, .aload_n 0, 1), (105, .ldc 109, 2), (107, .invokevirtual 97, 3), (110, .ifCond .eq 7, 3), (113, .sipush 10005, 3), (116, .ireturn, 1), (117, .aload_n 0, 1), (118, .ldc 110, 2), (120, .invokevirtual 97, 3), (123, .ifCond .eq 6, 3), (126, .bipush (-10), 2), (128, .ireturn, 1), (129, .aload_n 0, 1), (130, .ldc 112, 2), (132, .invokevirtual 97, 3), (135, .ifCond .eq 6, 3), (138, .bipush (-11), 2), (140, .ireturn, 1), (141, .aload_n 0, 1), (142, .ldc 114, 2), (144, .invokevirtual 97, 3), (147, .ifCond .eq 6, 3), (150, .bipush (-12), 2), (152, .ireturn, 1), (153, .aload_n 0, 1), (154, .ldc 116, 2), (156, .invokevirtual 97, 3), (159, .ifCond .eq 7, 3), (162, .sipush 10006, 3), (165, .ireturn, 1), (166, .aload_n 0, 1), (167, .ldc 118, 2), (169, .invokevirtual 97, 3), (172, .ifCond .eq 7, 3), (175, .sipush 10007, 3), (178, .ireturn, 1), (179, .aload_n 0, 1), (180, .ldc 120, 2), (182, .invokevirtual 97, 3), (185, .ifCond .eq 9, 3), (188, .sipush 10013, 3), (191, .goto 5, 3), (194, .bipush (-2), 2), (196, .ireturn, 1)]
abbrev M_X5_word : XM := (yX5_word, cX5_word, 1, (some .int), tb_X5_word, K_X5)
set_option maxRecDepth 100000 in
theorem ok_X5_word : okM M_X5_word := ⟨okK_X5, by decide +kernel, List.mem_filter.mpr ⟨List.mem_of_getElem? (i := 352) rfl, rfl⟩, rfl, by decide +kernel, by decide⟩
abbrev tb_X5_spells : List (Nat × Instr × Nat) := [(0, .aload_n 0, 1), (1, .getfield 31, 3), (4, .aload_n 0, 1), (5, .getfield 15, 3), (8, .isub, 1), (9, .aload_n 1, 1), (10, .invokevirtual 122, 3), (13, .if_icmp .eq 5, 3), (16, .iconst 0, 1), (17, .ireturn, 1), (18, .iconst 0, 1), (19, .istore_n 2, 1), (20, .iload_n 2, 1), (21, .aload_n 1, 1), (22, .invokevirtual 122, 3), (25, .if_icmp .ge 30, 3), (28, .aload_n 0, 1), (29, .getfield 18, 3), (32, .aload_n 0, 1), (33, .getfield 15, 3), (36, .iload_n 2, 1), (37, .iadd, 1), (38, .iaload, 1), (39, .aload_n 1, 1), (40, .iload_n 2, 1), (41, .invokevirtual 127, 3), (44, .if_icmp .eq 5, 3), (47, .iconst 0, 1), (48, .ireturn, 1), (49, .iinc 2 1, 3), (52, .goto (-32), 3), (55, .iconst 1, 1), (56, .ireturn, 1)]
abbrev M_X5_spells : XM := (yX5_spells, cX5_spells, 3, (some .boolean), tb_X5_spells, K_X5)
set_option maxRecDepth 100000 in
theorem ok_X5_spells : okM M_X5_spells := ⟨okK_X5, by decide +kernel, List.mem_filter.mpr ⟨List.mem_of_getElem? (i := 357) rfl, rfl⟩, rfl, by decide +kernel, by decide⟩
abbrev tb_X5_number : List (Nat × Instr × Nat) := [(0, .iconst 0, 1), (1, .istore_n 1, 1), (2, .aload_n 0, 1), (3, .getfield 31, 3), (6, .aload_n 0, 1), (7, .getfield 9, 3), (10, .if_icmp .ge 49, 3), (13, .aload_n 0, 1), (14, .getfield 18, 3), (17, .aload_n 0, 1), (18, .getfield 31, 3), (21, .iaload, 1), (22, .invokestatic 86, 3), (25, .ifCond .eq 34, 3), (28, .iload_n 1, 1), (29, .bipush 10, 2), (31, .imul, 1), (32, .aload_n 0, 1), (33, .getfield 18, 3), (36, .aload_n 0, 1), (37, .getfield 31, 3), (40, .iaload, 1), (41, .iadd, 1), (42, .bipush 48, 2), (44, .isub, 1), (45, .istore_n 1, 1), (46, .aload_n 0, 1), (47, .dup, 1), (48, .getfield 31, 3), (51, .iconst 1, 1), (52, .iadd, 1), (53, .putfield 31, 3), (56, .goto (-54), 3), (59, .aload_n 0, 1), (60, .getfield 31, 3), (63, .aload_n 0, 1), (64, .getfield 15, 3), (67, .isub, 1), (68, .iconst 4, 1), (69, .if_icmp .le 8, 3), (72, .bipush (-2), 2), (74, .goto 4, 3), (77, .iload_n 1, 1), (78, .ireturn, 1)]
abbrev M_X5_number : XM := (yX5_number, cX5_number, 2, (some .int), tb_X5_number, K_X5)
set_option maxRecDepth 100000 in
theorem ok_X5_number : okM M_X5_number := ⟨okK_X5, by decide +kernel, List.mem_filter.mpr ⟨List.mem_of_getElem? (i := 377) rfl, rfl⟩, rfl, by decide +kernel, by decide⟩
abbrev tb_X5_sign : List (Nat × Instr × Nat) := [(0, .aload_n 0, 1), (1, .getfield 18, 3), (4, .aload_n 0, 1), (5, .getfield 31, 3), (8, .iaload, 1), (9, .istore_n 1, 1), (10, .aload_n 0, 1), (11, .dup, 1), (12, .getfield 31, 3), (15, .iconst 1, 1), (16, .iadd, 1), (17, .putfield 31, 3), (20, .iload_n 1, 1), (21, .tableswitch 132 40 61 #[103, 106, 120, 112, 132, 116, 132, 132, 132, 132, 132, 132, 132, 132, 132, 132, 132, 132, 132, 109, 124, 128], 103), (124, .bipush (-3), 2), (126, .ireturn, 1), (127, .bipush (-4), 2), (129, .ireturn, 1), (130, .bipush (-5), 2), (132, .ireturn, 1), (133, .sipush 10010, 3), (136, .ireturn, 1), (137, .sipush 10011, 3), (140, .ireturn, 1), (141, .sipush 10012, 3), (144, .ireturn, 1), (145, .sipush 10008, 3), (148, .ireturn, 1), (149, .sipush 10009, 3), (152, .ireturn, 1), (153, .bipush (-2), 2), (155, .ireturn, 1)]
abbrev M_X5_sign : XM := (yX5_sign, cX5_sign, 2, (some .int), tb_X5_sign, K_X5)
set_option maxRecDepth 100000 in
theorem ok_X5_sign : okM M_X5_sign := ⟨okK_X5, by decide +kernel, List.mem_filter.mpr ⟨List.mem_of_getElem? (i := 381) rfl, rfl⟩, rfl, by decide +kernel, by decide⟩
abbrev tb_X5_isBlank : List (Nat × Instr × Nat) := [(0, .iload_n 0, 1), (1, .bipush 32, 2), (3, .if_icmp .eq 9, 3), (6, .iload_n 0, 1), (7, .bipush 10, 2), (9, .if_icmp .ne 7, 3), (12, .iconst 1, 1), (13, .goto 4, 3), (16, .iconst 0, 1), (17, .ireturn, 1)]
abbrev M_X5_isBlank : XM := (yX5_isBlank, cX5_isBlank, 1, (some .boolean), tb_X5_isBlank, K_X5)
set_option maxRecDepth 100000 in
theorem ok_X5_isBlank : okM M_X5_isBlank := ⟨okK_X5, by decide +kernel, List.mem_filter.mpr ⟨List.mem_of_getElem? (i := 345) rfl, rfl⟩, rfl, by decide +kernel, by decide⟩
abbrev tb_X5_isLetter : List (Nat × Instr × Nat) := [(0, .iload_n 0, 1), (1, .bipush 97, 2), (3, .if_icmp .lt 13, 3), (6, .iload_n 0, 1), (7, .bipush 122, 2), (9, .if_icmp .gt 7, 3), (12, .iconst 1, 1), (13, .goto 4, 3), (16, .iconst 0, 1), (17, .ireturn, 1)]
abbrev M_X5_isLetter : XM := (yX5_isLetter, cX5_isLetter, 1, (some .boolean), tb_X5_isLetter, K_X5)
set_option maxRecDepth 100000 in
theorem ok_X5_isLetter : okM M_X5_isLetter := ⟨okK_X5, by decide +kernel, List.mem_filter.mpr ⟨List.mem_of_getElem? (i := 348) rfl, rfl⟩, rfl, by decide +kernel, by decide⟩
abbrev tb_X5_isDigit : List (Nat × Instr × Nat) := [(0, .iload_n 0, 1), (1, .bipush 48, 2), (3, .if_icmp .lt 13, 3), (6, .iload_n 0, 1), (7, .bipush 57, 2), (9, .if_icmp .gt 7, 3), (12, .iconst 1, 1), (13, .goto 4, 3), (16, .iconst 0, 1), (17, .ireturn, 1)]
abbrev M_X5_isDigit : XM := (yX5_isDigit, cX5_isDigit, 1, (some .boolean), tb_X5_isDigit, K_X5)
set_option maxRecDepth 100000 in
theorem ok_X5_isDigit : okM M_X5_isDigit := ⟨okK_X5, by decide +kernel, List.mem_filter.mpr ⟨List.mem_of_getElem? (i := 373) rfl, rfl⟩, rfl, by decide +kernel, by decide⟩
set_option maxRecDepth 100000 in
theorem lk_X5_37 : okV RX5 37 yX5_look 0 = true := by decide +kernel
set_option maxRecDepth 100000 in
theorem lk_X5_40 : okV RX5 40 yX5_passes 1 = true := by decide +kernel
set_option maxRecDepth 100000 in
theorem lk_X5_44 : okV RX5 44 yX5_isEither 1 = true := by decide +kernel
set_option maxRecDepth 100000 in
theorem lk_X5_49 : okS RX5 49 yJ7_copyOf_59c91 2 = true := by decide +kernel
set_option maxRecDepth 100000 in
theorem lk_X5_58 : okV RX5 58 yX5_isBoth 1 = true := by decide +kernel
set_option maxRecDepth 100000 in
theorem lk_X5_61 : okV RX5 61 yX5_emit 1 = true := by decide +kernel
set_option maxRecDepth 100000 in
theorem lk_X5_64 : okV RX5 64 yX5_isNot 1 = true := by decide +kernel
set_option maxRecDepth 100000 in
theorem lk_X5_67 : okV RX5 67 yX5_isSum 1 = true := by decide +kernel
set_option maxRecDepth 100000 in
theorem lk_X5_70 : okV RX5 70 yX5_isTerm 1 = true := by decide +kernel
set_option maxRecDepth 100000 in
theorem lk_X5_73 : okV RX5 73 yX5_isOperand 1 = true := by decide +kernel
set_option maxRecDepth 100000 in
theorem lk_X5_76 : okS RX5 76 yX5_isBlank 1 = true := by decide +kernel
set_option maxRecDepth 100000 in
theorem lk_X5_79 : okS RX5 79 yX5_isLetter 1 = true := by decide +kernel
set_option maxRecDepth 100000 in
theorem lk_X5_82 : okV RX5 82 yX5_word 0 = true := by decide +kernel
set_option maxRecDepth 100000 in
theorem lk_X5_86 : okS RX5 86 yX5_isDigit 1 = true := by decide +kernel
set_option maxRecDepth 100000 in
theorem lk_X5_89 : okV RX5 89 yX5_number 0 = true := by decide +kernel
set_option maxRecDepth 100000 in
theorem lk_X5_92 : okV RX5 92 yX5_sign 0 = true := by decide +kernel
set_option maxRecDepth 100000 in
theorem lk_X5_97 : okV RX5 97 yX5_spells 1 = true := by decide +kernel
set_option maxRecDepth 100000 in
theorem lk_X5_122 : okV RX5 122 yJ0_length_8abf5 0 = true := by decide +kernel
set_option maxRecDepth 100000 in
theorem lk_X5_127 : okV RX5 127 yJ0_charAt_5068e 1 = true := by decide +kernel
abbrev K_J6 : XK := (RJ6, [], [(265, 1431655765), (266, 858993459), (267, 252645135)], [])
set_option maxRecDepth 100000 in
theorem okK_J6 : okK K_J6 = true := by decide +kernel
abbrev tb_J6_bitCount_0f7a4 : List (Nat × Instr × Nat) := [(0, .iload_n 0, 1), (1, .iload_n 0, 1), (2, .iconst 1, 1), (3, .iushr, 1), (4, .ldc_w 265, 3), (7, .iand, 1), (8, .isub, 1), (9, .istore_n 0, 1), (10, .iload_n 0, 1), (11, .ldc_w 266, 3), (14, .iand, 1), (15, .iload_n 0, 1), (16, .iconst 2, 1), (17, .iushr, 1), (18, .ldc_w 266, 3), (21, .iand, 1), (22, .iadd, 1), (23, .istore_n 0, 1), (24, .iload_n 0, 1), (25, .iload_n 0, 1), (26, .iconst 4, 1), (27, .iushr, 1), (28, .iadd, 1), (29, .ldc_w 267, 3), (32, .iand, 1), (33, .istore_n 0, 1), (34, .iload_n 0, 1), (35, .iload_n 0, 1), (36, .bipush 8, 2), (38, .iushr, 1), (39, .iadd, 1), (40, .istore_n 0, 1), (41, .iload_n 0, 1), (42, .iload_n 0, 1), (43, .bipush 16, 2), (45, .iushr, 1), (46, .iadd, 1), (47, .istore_n 0, 1), (48, .iload_n 0, 1), (49, .bipush 63, 2), (51, .iand, 1), (52, .ireturn, 1)]
abbrev M_J6_bitCount_0f7a4 : XM := (yJ6_bitCount_0f7a4, cJ6_bitCount_0f7a4, 1, (some .int), tb_J6_bitCount_0f7a4, K_J6)
set_option maxRecDepth 100000 in
theorem ok_J6_bitCount_0f7a4 : okM M_J6_bitCount_0f7a4 := ⟨okK_J6, by decide +kernel, List.mem_filter.mpr ⟨List.mem_of_getElem? (i := 698) rfl, rfl⟩, rfl, by decide +kernel, by decide⟩
abbrev K_J7 : XK := (RJ7, [], [], [])
set_option maxRecDepth 100000 in
theorem okK_J7 : okK K_J7 = true := by decide +kernel
abbrev tb_J7_fill_53178 : List (Nat × Instr × Nat) := [(0, .iconst 0, 1), (1, .istore_n 2, 1), (2, .aload_n 0, 1), (3, .arraylength, 1), (4, .istore_n 3, 1), (5, .iload_n 2, 1), (6, .iload_n 3, 1), (7, .if_icmp .ge 13, 3), (10, .aload_n 0, 1), (11, .iload_n 2, 1), (12, .iload_n 1, 1), (13, .iastore, 1), (14, .iinc 2 1, 3), (17, .goto (-12), 3), (20, .return_, 1)]
abbrev M_J7_fill_53178 : XM := (yJ7_fill_53178, cJ7_fill_53178, 4, none, tb_J7_fill_53178, K_J7)
set_option maxRecDepth 100000 in
theorem ok_J7_fill_53178 : okM M_J7_fill_53178 := ⟨okK_J7, by decide +kernel, List.mem_filter.mpr ⟨List.mem_of_getElem? (i := 616) rfl, rfl⟩, rfl, by decide +kernel, by decide⟩
abbrev tb_J7_copyOf_59c91 : List (Nat × Instr × Nat) := [(0, .iload_n 1, 1), (1, .aload_n 0, 1), (2, .arraylength, 1), (3, .if_icmp .ne 11, 3), (6, .aload_n 0, 1), (7, .invokevirtual 316, 3), (10, .checkcast 317, 3), (13, .areturn, 1), (14, .iload_n 1, 1), (15, .newarray .int, 2), (17, .astore_n 2, 1), (18, .aload_n 0, 1), (19, .iconst 0, 1), (20, .aload_n 2, 1), (21, .iconst 0, 1), (22, .aload_n 0, 1), (23, .arraylength, 1), (24, .iload_n 1, 1), (25, .invokestatic 304, 3), (28, .invokestatic 150, 3), (31, .aload_n 2, 1), (32, .areturn, 1)]
abbrev M_J7_copyOf_59c91 : XM := (yJ7_copyOf_59c91, cJ7_copyOf_59c91, 3, (some (.array .int)), tb_J7_copyOf_59c91, K_J7)
set_option maxRecDepth 100000 in
theorem ok_J7_copyOf_59c91 : okM M_J7_copyOf_59c91 := ⟨okK_J7, by decide +kernel, List.mem_filter.mpr ⟨List.mem_of_getElem? (i := 422) rfl, rfl⟩, rfl, by decide +kernel, by decide⟩
set_option maxRecDepth 100000 in
theorem lk_J7_304 : okS RJ7 304 yJ9_min_7cf53 2 = true := by decide +kernel
