abbrev K_J0 : XK := (RJ0, [], [], [])
set_option maxRecDepth 100000 in
theorem okK_J0 : okK K_J0 = true := by decide +kernel
abbrev tb_J0_length_8abf5 : List (Nat × Instr × Nat) := [(0, .aload_n 0, 1), (1, .getfield 9, 3), (4, .arraylength, 1), (5, .aload_n 0, 1), (6, .invokevirtual 335, 3), (9, .ishr, 1), (10, .ireturn, 1)]
abbrev M_J0_length_8abf5 : XM := (yJ0_length_8abf5, cJ0_length_8abf5, 1, (some .int), tb_J0_length_8abf5, K_J0)
set_option maxRecDepth 100000 in
theorem ok_J0_length_8abf5 : okM M_J0_length_8abf5 := ⟨okK_J0, by decide +kernel, List.mem_filter.mpr ⟨List.mem_of_getElem? (i := 286) rfl, rfl⟩, rfl, by decide +kernel, by decide⟩
abbrev tb_J0_charAt_5068e : List (Nat × Instr × Nat) := [(0, .aload_n 0, 1), (1, .invokevirtual 492, 3), (4, .ifCond .eq 12, 3), (7, .aload_n 0, 1), (8, .getfield 9, 3), (11, .iload_n 1, 1), (12, .invokestatic 495, 3), (15, .ireturn, 1), (16, .aload_n 0, 1), (17, .getfield 9, 3), (20, .iload_n 1, 1), (21, .invokestatic 498, 3), (24, .ireturn, 1)]
abbrev M_J0_charAt_5068e : XM := (yJ0_charAt_5068e, cJ0_charAt_5068e, 2, (some .char), tb_J0_charAt_5068e, K_J0)
set_option maxRecDepth 100000 in
theorem ok_J0_charAt_5068e : okM M_J0_charAt_5068e := ⟨okK_J0, by decide +kernel, List.mem_filter.mpr ⟨List.mem_of_getElem? (i := 296) rfl, rfl⟩, rfl, by decide +kernel, by decide⟩
abbrev tb_J0_coder_7d493 : List (Nat × Instr × Nat) := [(0, .getstatic 38, 3), (3, .ifCond .eq 10, 3), (6, .aload_n 0, 1), (7, .getfield 15, 3), (10, .goto 4, 3), (13, .iconst 1, 1), (14, .ireturn, 1)]
abbrev M_J0_coder_7d493 : XM := (yJ0_coder_7d493, cJ0_coder_7d493, 1, (some .byte), tb_J0_coder_7d493, K_J0)
set_option maxRecDepth 100000 in
theorem ok_J0_coder_7d493 : okM M_J0_coder_7d493 := ⟨okK_J0, by decide +kernel, List.mem_filter.mpr ⟨List.mem_of_getElem? (i := 290) rfl, rfl⟩, rfl, by decide +kernel, by decide⟩
abbrev tb_J0_isLatin1_aae02 : List (Nat × Instr × Nat) := [(0, .getstatic 38, 3), (3, .ifCond .eq 14, 3), (6, .aload_n 0, 1), (7, .getfield 15, 3), (10, .ifCond .ne 7, 3), (13, .iconst 1, 1), (14, .goto 4, 3), (17, .iconst 0, 1), (18, .ireturn, 1)]
abbrev M_J0_isLatin1_aae02 : XM := (yJ0_isLatin1_aae02, cJ0_isLatin1_aae02, 1, (some .boolean), tb_J0_isLatin1_aae02, K_J0)
set_option maxRecDepth 100000 in
theorem ok_J0_isLatin1_aae02 : okM M_J0_isLatin1_aae02 := ⟨okK_J0, by decide +kernel, List.mem_filter.mpr ⟨List.mem_of_getElem? (i := 300) rfl, rfl⟩, rfl, by decide +kernel, by decide⟩
abbrev tb_J0_checkIndex_df160 : List (Nat × Instr × Nat) := [(0, .iload_n 0, 1), (1, .iload_n 1, 1), (2, .getstatic 1053, 3), (5, .invokestatic 1059, 3), (8, .pop, 1), (9, .return_, 1)]
abbrev M_J0_checkIndex_df160 : XM := (yJ0_checkIndex_df160, cJ0_checkIndex_df160, 2, none, tb_J0_checkIndex_df160, K_J0)
set_option maxRecDepth 100000 in
theorem ok_J0_checkIndex_df160 : okM M_J0_checkIndex_df160 := ⟨okK_J0, by decide +kernel, List.mem_filter.mpr ⟨List.mem_of_getElem? (i := 306) rfl, rfl⟩, rfl, by decide +kernel, by decide⟩
set_option maxRecDepth 100000 in
theorem lk_J0_335 : okV RJ0 335 yJ0_coder_7d493 0 = true := by decide +kernel
set_option maxRecDepth 100000 in
theorem lk_J0_492 : okV RJ0 492 yJ0_isLatin1_aae02 0 = true := by decide +kernel
set_option maxRecDepth 100000 in
theorem lk_J0_495 : okS RJ0 495 yJ1_charAt_3b067 2 = true := by decide +kernel
set_option maxRecDepth 100000 in
theorem lk_J0_498 : okS RJ0 498 yJ2_charAt_3b067 2 = true := by decide +kernel
set_option maxRecDepth 100000 in
theorem lk_J0_1059 : okS RJ0 1059 yJ3_checkIndex_8e157 3 = true := by decide +kernel
abbrev K_J1 : XK := (RJ1, [], [], [])
set_option maxRecDepth 100000 in
theorem okK_J1 : okK K_J1 = true := by decide +kernel
abbrev tb_J1_charAt_3b067 : List (Nat × Instr × Nat) := [(0, .iload_n 1, 1), (1, .aload_n 0, 1), (2, .arraylength, 1), (3, .invokestatic 9, 3), (6, .aload_n 0, 1), (7, .iload_n 1, 1), (8, .baload, 1), (9, .sipush 255, 3), (12, .iand, 1), (13, .i2c, 1), (14, .ireturn, 1)]
abbrev M_J1_charAt_3b067 : XM := (yJ1_charAt_3b067, cJ1_charAt_3b067, 2, (some .char), tb_J1_charAt_3b067, K_J1)
set_option maxRecDepth 100000 in
theorem ok_J1_charAt_3b067 : okM M_J1_charAt_3b067 := ⟨okK_J1, by decide +kernel, List.mem_filter.mpr ⟨List.mem_of_getElem? (i := 303) rfl, rfl⟩, rfl, by decide +kernel, by decide⟩
set_option maxRecDepth 100000 in
theorem lk_J1_9 : okS RJ1 9 yJ0_checkIndex_df160 2 = true := by decide +kernel
abbrev K_J3 : XK := (RJ3, [], [], [])
set_option maxRecDepth 100000 in
theorem okK_J3 : okK K_J3 = true := by decide +kernel
abbrev tb_J3_checkIndex_8e157 : List (Nat × Instr × Nat) := [(0, .iload_n 0, 1), (1, .ifCond .lt 8, 3), (4, .iload_n 0, 1), (5, .iload_n 1, 1), (6, .if_icmp .lt 10, 3), (9, .aload_n 2, 1), (10, .iload_n 0, 1), (11, .iload_n 1, 1), (12, .invokestatic 95, 3), (15, .athrow, 1), (16, .iload_n 0, 1), (17, .ireturn, 1)]
abbrev M_J3_checkIndex_8e157 : XM := (yJ3_checkIndex_8e157, cJ3_checkIndex_8e157, 3, (some .int), tb_J3_checkIndex_8e157, K_J3)
set_option maxRecDepth 100000 in
theorem ok_J3_checkIndex_8e157 : okM M_J3_checkIndex_8e157 := ⟨okK_J3, by decide +kernel, List.mem_filter.mpr ⟨List.mem_of_getElem? (i := 311) rfl, rfl⟩, rfl, by decide +kernel, by decide⟩
