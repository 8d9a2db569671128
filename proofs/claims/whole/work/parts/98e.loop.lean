def STEPS (INV : List va_E → Prop) : Prop :=
  STP Value.int INV M_X6_one M_X7_one 3 ∧
  STP Value.int INV M_X6_wish M_X7_wish 3 ∧
  STP Value.int INV M_X6_oneTold M_X7_oneTold 2 ∧
  STP Value.int INV M_X6_house M_X7_house 2 ∧
  STP Value.int INV M_X6_count M_X7_count 1 ∧
  STP Value.int INV M_X6_feed M_X7_feed 6 ∧
  STP Value.int INV M_X6_text M_X7_text 0 ∧
  STP Value.int INV M_X6_force M_X7_force 1 ∧
  STP Value.int INV M_X6_asks M_X7_asks 5 ∧
  STP Value.int INV M_X6_chair M_X7_chair 2 ∧
  STP Value.int INV M_X6_mend M_X7_mend 3 ∧
  STP Value.int INV M_X6_chairTold M_X7_chairTold 2 ∧
  STP Value.int INV M_X6_of M_X7_of 3 ∧
  STP Value.int INV M_X6_chairOf M_X7_chairOf 3 ∧
  STP Value.int INV M_X6_all M_X7_all 2 ∧
  STP Value.int INV M_X6_cold M_X7_cold 0 ∧
  STP Value.int INV M_X6_begin M_X7_begin 1 ∧
  STP Value.int INV M_X6_take M_X7_take 1 ∧
  STP Value.int INV M_X6_order M_X7_order 1 ∧
  STP Value.int INV M_X6_invite M_X7_invite 0 ∧
  STP Value.int INV M_X6_late M_X7_late 2 ∧
  STP Value.int INV M_X6_lent M_X7_lent 2 ∧
  STP Value.int INV M_X6_move M_X7_move 1 ∧
  STP Value.int INV M_X6_ever M_X7_ever 3 ∧
  STP Value.int INV M_X6_fewest M_X7_fewest 2 ∧
  STP Value.int INV M_X6_judge M_X7_judge 2 ∧
  STP Value.long INV M_X6_were M_X7_were 2 ∧
  STP Value.int INV M_X6_laws M_X7_laws 2 ∧
  STP Value.int INV M_X6_film M_X7_film 2 ∧
  STP Value.int INV M_X6_drawn M_X7_drawn 1 ∧
  STP Value.long INV M_X6_odds M_X7_odds 4 ∧
  STP Value.int INV M_X6_image M_X7_image 0 ∧
  STP Value.int INV M_X6_back M_X7_back 0 ∧
  STP Value.int INV M_X6_sheet M_X7_sheet 3 ∧
  STP Value.int INV M_X6_cell M_X7_cell 3 ∧
  STP Value.int INV M_X6_copy M_X7_copy 5 ∧
  STP Value.int INV M_X6_onesBy M_X7_onesBy 4 ∧
  STP Value.int INV M_X6_taken M_X7_taken 2
theorem lT_one : okT code (caseT 3 200 13 17) = true := by decide +kernel
theorem lX_one : okV R_law 13 M_X6_one.1 3 = true := by decide +kernel
theorem lY_one : okV R_law 17 M_X7_one.1 3 = true := by decide +kernel
theorem lT_wish : okT code (caseT 3 243 18 21) = true := by decide +kernel
theorem lX_wish : okV R_law 18 M_X6_wish.1 3 = true := by decide +kernel
theorem lY_wish : okV R_law 21 M_X7_wish.1 3 = true := by decide +kernel
theorem lT_oneTold : okT code (caseT 2 286 22 26) = true := by decide +kernel
theorem lX_oneTold : okV R_law 22 M_X6_oneTold.1 2 = true := by decide +kernel
theorem lY_oneTold : okV R_law 26 M_X7_oneTold.1 2 = true := by decide +kernel
theorem lT_house : okT code (caseT 2 319 27 30) = true := by decide +kernel
theorem lX_house : okV R_law 27 M_X6_house.1 2 = true := by decide +kernel
theorem lY_house : okV R_law 30 M_X7_house.1 2 = true := by decide +kernel
theorem lT_count : okT code (caseT 1 352 31 35) = true := by decide +kernel
theorem lX_count : okV R_law 31 M_X6_count.1 1 = true := by decide +kernel
theorem lY_count : okV R_law 35 M_X7_count.1 1 = true := by decide +kernel
theorem lT_feed : okT code (caseT 6 375 36 40) = true := by decide +kernel
theorem lX_feed : okV R_law 36 M_X6_feed.1 6 = true := by decide +kernel
theorem lY_feed : okV R_law 40 M_X7_feed.1 6 = true := by decide +kernel
theorem lT_text : okT code (caseT 0 450 41 45) = true := by decide +kernel
theorem lX_text : okV R_law 41 M_X6_text.1 0 = true := by decide +kernel
theorem lY_text : okV R_law 45 M_X7_text.1 0 = true := by decide +kernel
theorem lT_force : okT code (caseT 1 463 46 49) = true := by decide +kernel
theorem lX_force : okV R_law 46 M_X6_force.1 1 = true := by decide +kernel
theorem lY_force : okV R_law 49 M_X7_force.1 1 = true := by decide +kernel
theorem lT_asks : okT code (caseT 5 486 50 54) = true := by decide +kernel
theorem lX_asks : okV R_law 50 M_X6_asks.1 5 = true := by decide +kernel
theorem lY_asks : okV R_law 54 M_X7_asks.1 5 = true := by decide +kernel
theorem lT_chair : okT code (caseT 2 549 55 58) = true := by decide +kernel
theorem lX_chair : okV R_law 55 M_X6_chair.1 2 = true := by decide +kernel
theorem lY_chair : okV R_law 58 M_X7_chair.1 2 = true := by decide +kernel
theorem lT_mend : okT code (caseT 3 582 59 62) = true := by decide +kernel
theorem lX_mend : okV R_law 59 M_X6_mend.1 3 = true := by decide +kernel
theorem lY_mend : okV R_law 62 M_X7_mend.1 3 = true := by decide +kernel
theorem lT_chairTold : okT code (caseT 2 625 63 66) = true := by decide +kernel
theorem lX_chairTold : okV R_law 63 M_X6_chairTold.1 2 = true := by decide +kernel
theorem lY_chairTold : okV R_law 66 M_X7_chairTold.1 2 = true := by decide +kernel
theorem lT_of : okT code (caseT 3 658 67 70) = true := by decide +kernel
theorem lX_of : okV R_law 67 M_X6_of.1 3 = true := by decide +kernel
theorem lY_of : okV R_law 70 M_X7_of.1 3 = true := by decide +kernel
theorem lT_chairOf : okT code (caseT 3 701 71 74) = true := by decide +kernel
theorem lX_chairOf : okV R_law 71 M_X6_chairOf.1 3 = true := by decide +kernel
theorem lY_chairOf : okV R_law 74 M_X7_chairOf.1 3 = true := by decide +kernel
theorem lT_all : okT code (caseT 2 744 75 78) = true := by decide +kernel
theorem lX_all : okV R_law 75 M_X6_all.1 2 = true := by decide +kernel
theorem lY_all : okV R_law 78 M_X7_all.1 2 = true := by decide +kernel
theorem lT_cold : okT code (caseT 0 777 79 82) = true := by decide +kernel
theorem lX_cold : okV R_law 79 M_X6_cold.1 0 = true := by decide +kernel
theorem lY_cold : okV R_law 82 M_X7_cold.1 0 = true := by decide +kernel
theorem lT_begin : okT code (caseT 1 790 83 86) = true := by decide +kernel
theorem lX_begin : okV R_law 83 M_X6_begin.1 1 = true := by decide +kernel
theorem lY_begin : okV R_law 86 M_X7_begin.1 1 = true := by decide +kernel
theorem lT_take : okT code (caseT 1 813 87 90) = true := by decide +kernel
theorem lX_take : okV R_law 87 M_X6_take.1 1 = true := by decide +kernel
theorem lY_take : okV R_law 90 M_X7_take.1 1 = true := by decide +kernel
theorem lT_order : okT code (caseT 1 836 91 94) = true := by decide +kernel
theorem lX_order : okV R_law 91 M_X6_order.1 1 = true := by decide +kernel
theorem lY_order : okV R_law 94 M_X7_order.1 1 = true := by decide +kernel
theorem lT_invite : okT code (caseT 0 859 95 98) = true := by decide +kernel
theorem lX_invite : okV R_law 95 M_X6_invite.1 0 = true := by decide +kernel
theorem lY_invite : okV R_law 98 M_X7_invite.1 0 = true := by decide +kernel
theorem lT_late : okT code (caseT 2 872 99 102) = true := by decide +kernel
theorem lX_late : okV R_law 99 M_X6_late.1 2 = true := by decide +kernel
theorem lY_late : okV R_law 102 M_X7_late.1 2 = true := by decide +kernel
theorem lT_lent : okT code (caseT 2 905 103 106) = true := by decide +kernel
theorem lX_lent : okV R_law 103 M_X6_lent.1 2 = true := by decide +kernel
theorem lY_lent : okV R_law 106 M_X7_lent.1 2 = true := by decide +kernel
theorem lT_move : okT code (caseT 1 938 107 110) = true := by decide +kernel
theorem lX_move : okV R_law 107 M_X6_move.1 1 = true := by decide +kernel
theorem lY_move : okV R_law 110 M_X7_move.1 1 = true := by decide +kernel
theorem lT_ever : okT code (caseT 3 961 111 114) = true := by decide +kernel
theorem lX_ever : okV R_law 111 M_X6_ever.1 3 = true := by decide +kernel
theorem lY_ever : okV R_law 114 M_X7_ever.1 3 = true := by decide +kernel
theorem lT_fewest : okT code (caseT 2 1004 115 118) = true := by decide +kernel
theorem lX_fewest : okV R_law 115 M_X6_fewest.1 2 = true := by decide +kernel
theorem lY_fewest : okV R_law 118 M_X7_fewest.1 2 = true := by decide +kernel
theorem lT_judge : okT code (caseT 2 1037 119 122) = true := by decide +kernel
theorem lX_judge : okV R_law 119 M_X6_judge.1 2 = true := by decide +kernel
theorem lY_judge : okV R_law 122 M_X7_judge.1 2 = true := by decide +kernel
theorem lT_were : okT code (caseL 2 1070 123 127) = true := by decide +kernel
theorem lX_were : okV R_law 123 M_X6_were.1 2 = true := by decide +kernel
theorem lY_were : okV R_law 127 M_X7_were.1 2 = true := by decide +kernel
theorem lT_laws : okT code (caseT 2 1104 128 131) = true := by decide +kernel
theorem lX_laws : okV R_law 128 M_X6_laws.1 2 = true := by decide +kernel
theorem lY_laws : okV R_law 131 M_X7_laws.1 2 = true := by decide +kernel
theorem lT_film : okT code (caseT 2 1137 132 135) = true := by decide +kernel
theorem lX_film : okV R_law 132 M_X6_film.1 2 = true := by decide +kernel
theorem lY_film : okV R_law 135 M_X7_film.1 2 = true := by decide +kernel
theorem lT_drawn : okT code (caseT 1 1170 136 139) = true := by decide +kernel
theorem lX_drawn : okV R_law 136 M_X6_drawn.1 1 = true := by decide +kernel
theorem lY_drawn : okV R_law 139 M_X7_drawn.1 1 = true := by decide +kernel
theorem lT_odds : okT code (caseL 4 1193 140 144) = true := by decide +kernel
theorem lX_odds : okV R_law 140 M_X6_odds.1 4 = true := by decide +kernel
theorem lY_odds : okV R_law 144 M_X7_odds.1 4 = true := by decide +kernel
theorem lT_image : okT code (caseT 0 1247 145 148) = true := by decide +kernel
theorem lX_image : okV R_law 145 M_X6_image.1 0 = true := by decide +kernel
theorem lY_image : okV R_law 148 M_X7_image.1 0 = true := by decide +kernel
theorem lT_back : okT code (caseT 0 1260 149 152) = true := by decide +kernel
theorem lX_back : okV R_law 149 M_X6_back.1 0 = true := by decide +kernel
theorem lY_back : okV R_law 152 M_X7_back.1 0 = true := by decide +kernel
theorem lT_sheet : okT code (caseT 3 1273 153 156) = true := by decide +kernel
theorem lX_sheet : okV R_law 153 M_X6_sheet.1 3 = true := by decide +kernel
theorem lY_sheet : okV R_law 156 M_X7_sheet.1 3 = true := by decide +kernel
theorem lT_cell : okT code (caseT 3 1316 157 160) = true := by decide +kernel
theorem lX_cell : okV R_law 157 M_X6_cell.1 3 = true := by decide +kernel
theorem lY_cell : okV R_law 160 M_X7_cell.1 3 = true := by decide +kernel
theorem lT_copy : okT code (caseT 5 1359 161 164) = true := by decide +kernel
theorem lX_copy : okV R_law 161 M_X6_copy.1 5 = true := by decide +kernel
theorem lY_copy : okV R_law 164 M_X7_copy.1 5 = true := by decide +kernel
theorem lT_onesBy : okT code (caseT 4 1422 165 169) = true := by decide +kernel
theorem lX_onesBy : okV R_law 165 M_X6_onesBy.1 4 = true := by decide +kernel
theorem lY_onesBy : okV R_law 169 M_X7_onesBy.1 4 = true := by decide +kernel
theorem lT_taken : okT code (caseT 2 1475 170 173) = true := by decide +kernel
theorem lX_taken : okV R_law 170 M_X6_taken.1 2 = true := by decide +kernel
theorem lY_taken : okV R_law 173 M_X7_taken.1 2 = true := by decide +kernel
theorem d_law_0 : decode code 0 = .ok (.new 7, 3) := by decide +kernel
theorem d_law_3 : decode code 3 = .ok (.dup, 1) := by decide +kernel
theorem d_law_4 : decode code 4 = .ok (.invokespecial 9, 3) := by decide +kernel
theorem d_law_7 : decode code 7 = .ok (.astore_n 1, 1) := by decide +kernel
theorem d_law_8 : decode code 8 = .ok (.new 10, 3) := by decide +kernel
theorem d_law_11 : decode code 11 = .ok (.dup, 1) := by decide +kernel
theorem d_law_12 : decode code 12 = .ok (.invokespecial 12, 3) := by decide +kernel
theorem d_law_15 : decode code 15 = .ok (.astore_n 2, 1) := by decide +kernel
theorem d_law_16 : decode code 16 = .ok (.iconst 0, 1) := by decide +kernel
theorem d_law_17 : decode code 17 = .ok (.istore_n 3, 1) := by decide +kernel
theorem d_law_18 : decode code 18 = .ok (.iload_n 3, 1) := by decide +kernel
theorem d_law_19 : decode code 19 = .ok (.aload_n 0, 1) := by decide +kernel
theorem d_law_20 : decode code 20 = .ok (.arraylength, 1) := by decide +kernel
theorem d_law_21 : decode code 21 = .ok (.bipush 7, 2) := by decide +kernel
theorem d_law_23 : decode code 23 = .ok (.isub, 1) := by decide +kernel
theorem d_law_24 : decode code 24 = .ok (.if_icmp .gt 1490, 3) := by decide +kernel
theorem d_law_27 : decode code 27 = .ok (.aload_n 0, 1) := by decide +kernel
theorem d_law_28 : decode code 28 = .ok (.iload_n 3, 1) := by decide +kernel
theorem d_law_29 : decode code 29 = .ok (.iaload, 1) := by decide +kernel
theorem d_law_30 : decode code 30 = .ok (.bipush 63, 2) := by decide +kernel
theorem d_law_32 : decode code 32 = .ok (.iand, 1) := by decide +kernel
theorem d_law_33 : decode code 33 = .ok (.tableswitch 1475 0 37 #[167, 210, 253, 286, 319, 342, 417, 430, 453, 516, 549, 592, 625, 668, 711, 744, 757, 780, 803, 826, 839, 872, 905, 928, 971, 1004, 1037, 1071, 1104, 1137, 1160, 1214, 1227, 1240, 1283, 1326, 1389, 1442], 167) := by decide +kernel
theorem d_law_1508 : decode code 1508 = .ok (.iinc 3 7, 3) := by decide +kernel
theorem d_law_1511 : decode code 1511 = .ok (.goto (-1493), 3) := by decide +kernel
theorem d_law_1514 : decode code 1514 = .ok (.iconst 1, 1) := by decide +kernel
theorem d_law_1515 : decode code 1515 = .ok (.ireturn, 1) := by decide +kernel
theorem law_le {L j : Nat} (hL : L ≤ 448) (hj : 7 * j ≤ L) (h : ¬ (Int32.ofNat L - 7 < nI (7 * j))) : 7 * j + 7 ≤ L := by
  by_cases h7 : 7 ≤ L
  · have e : nI (L - 7) + nI 7 = nI L := by rw [nI_add, Nat.sub_add_cancel h7]
    have e2 : Int32.ofNat L - 7 = nI (L - 7) := by
      rw [show Int32.ofNat L = nI (L - 7) + nI 7 from e.symm]
      exact Int32.add_sub_cancel _ _
    rw [e2] at h
    have hn : ¬ L - 7 < 7 * j := fun q => h ((nI_ltI (a := L - 7) (b := 7 * j) (by omega) (by omega)).mpr q)
    omega
  · exfalso
    have hj0 : j = 0 := by omega
    subst hj0
    have key : ∀ L, L < 7 → Int32.ofNat L - 7 < nI (7 * 0) := by decide +kernel
    exact h (key L (by omega))
section
variable {p : Program} {l : Launch} {e : Env} {s : State} {m : MethodId} {below : List Frame} {meth : Method} {c : Code} {b L : Nat} {xs : Nat → Int32} {D : va_G} {cy : Nat → ClassId}
set_option maxHeartbeats 8000000 in
set_option maxRecDepth 100000 in
theorem law_switch {INV : List va_E → Prop} (hI : INVok INV) (SS : STEPS INV) (hC : LCx p s m meth c b L xs D cy) (hL : L ≤ 448) {Z : State → Prop} {w : List va_E} {ad : Nat → Nat} {H : Heap} {locs : List Loc} {ls : Array Slot} {i cells slots : Nat} (X : LX s D cy ad w H locs) (hw : INV w) (hl : lv_has ls 4 [(0, .ref b), (1, .ref (ad 0)), (2, .ref (ad 52)), (3, .int (nI i))]) (hi : i + 7 ≤ L) (hcl : cells + 4 ≤ 600000) (hsl : slots + 206 ≤ 7302250)
    (KK : ∀ (w' : List va_E) (ad' : Nat → Nat) (H' : Heap) (locs' : List Loc), INV w' → ad' 0 = ad 0 → ad' 52 = ad 52 → LX s D cy ad' w' H' locs' → W p l e room_1 s m #[Value.ref b] below meth c H' locs' (cells + 4) (slots + 206) Z (F0 m 1508 ls [])) (x : Int32) (q : Nat) (hq : x.toInt = (q : Int)) (h38 : q < 38) :
    W p l e room_1 s m #[Value.ref b] below meth c H locs cells slots Z (F0 m 33 ls [.int x]) := by
  obtain ⟨S0, S1, S2, S3, S4, S5, S6, S7, S8, S9, S10, S11, S12, S13, S14, S15, S16, S17, S18, S19, S20, S21, S22, S23, S24, S25, S26, S27, S28, S29, S30, S31, S32, S33, S34, S35, S36, S37⟩ := SS
  have hx := hC.1.1
  have hb := hC.1.2.1
  match q, hq, h38 with
  | 0, hq, _ =>
    refine lv_tableIn (off := 167) (tgt := 200) hx hb d_law_33 (by rw [hq]; decide) (by rw [hq]; decide) (by rw [hq]; rfl) (by decide) ?_
    exact law_caseI hI S0 ok_X6_one ok_X7_one (by decide) 200 13 17 lT_one lX_one lY_one rfl rfl hC X hw hl hi hL hcl hsl KK
  | 1, hq, _ =>
    refine lv_tableIn (off := 210) (tgt := 243) hx hb d_law_33 (by rw [hq]; decide) (by rw [hq]; decide) (by rw [hq]; rfl) (by decide) ?_
    exact law_caseI hI S1 ok_X6_wish ok_X7_wish (by decide) 243 18 21 lT_wish lX_wish lY_wish rfl rfl hC X hw hl hi hL hcl hsl KK
  | 2, hq, _ =>
    refine lv_tableIn (off := 253) (tgt := 286) hx hb d_law_33 (by rw [hq]; decide) (by rw [hq]; decide) (by rw [hq]; rfl) (by decide) ?_
    exact law_caseI hI S2 ok_X6_oneTold ok_X7_oneTold (by decide) 286 22 26 lT_oneTold lX_oneTold lY_oneTold rfl rfl hC X hw hl hi hL hcl hsl KK
  | 3, hq, _ =>
    refine lv_tableIn (off := 286) (tgt := 319) hx hb d_law_33 (by rw [hq]; decide) (by rw [hq]; decide) (by rw [hq]; rfl) (by decide) ?_
    exact law_caseI hI S3 ok_X6_house ok_X7_house (by decide) 319 27 30 lT_house lX_house lY_house rfl rfl hC X hw hl hi hL hcl hsl KK
  | 4, hq, _ =>
    refine lv_tableIn (off := 319) (tgt := 352) hx hb d_law_33 (by rw [hq]; decide) (by rw [hq]; decide) (by rw [hq]; rfl) (by decide) ?_
    exact law_caseI hI S4 ok_X6_count ok_X7_count (by decide) 352 31 35 lT_count lX_count lY_count rfl rfl hC X hw hl hi hL hcl hsl KK
  | 5, hq, _ =>
    refine lv_tableIn (off := 342) (tgt := 375) hx hb d_law_33 (by rw [hq]; decide) (by rw [hq]; decide) (by rw [hq]; rfl) (by decide) ?_
    exact law_caseI hI S5 ok_X6_feed ok_X7_feed (by decide) 375 36 40 lT_feed lX_feed lY_feed rfl rfl hC X hw hl hi hL hcl hsl KK
  | 6, hq, _ =>
    refine lv_tableIn (off := 417) (tgt := 450) hx hb d_law_33 (by rw [hq]; decide) (by rw [hq]; decide) (by rw [hq]; rfl) (by decide) ?_
    exact law_caseI hI S6 ok_X6_text ok_X7_text (by decide) 450 41 45 lT_text lX_text lY_text rfl rfl hC X hw hl hi hL hcl hsl KK
  | 7, hq, _ =>
    refine lv_tableIn (off := 430) (tgt := 463) hx hb d_law_33 (by rw [hq]; decide) (by rw [hq]; decide) (by rw [hq]; rfl) (by decide) ?_
    exact law_caseI hI S7 ok_X6_force ok_X7_force (by decide) 463 46 49 lT_force lX_force lY_force rfl rfl hC X hw hl hi hL hcl hsl KK
  | 8, hq, _ =>
    refine lv_tableIn (off := 453) (tgt := 486) hx hb d_law_33 (by rw [hq]; decide) (by rw [hq]; decide) (by rw [hq]; rfl) (by decide) ?_
    exact law_caseI hI S8 ok_X6_asks ok_X7_asks (by decide) 486 50 54 lT_asks lX_asks lY_asks rfl rfl hC X hw hl hi hL hcl hsl KK
  | 9, hq, _ =>
    refine lv_tableIn (off := 516) (tgt := 549) hx hb d_law_33 (by rw [hq]; decide) (by rw [hq]; decide) (by rw [hq]; rfl) (by decide) ?_
    exact law_caseI hI S9 ok_X6_chair ok_X7_chair (by decide) 549 55 58 lT_chair lX_chair lY_chair rfl rfl hC X hw hl hi hL hcl hsl KK
  | 10, hq, _ =>
    refine lv_tableIn (off := 549) (tgt := 582) hx hb d_law_33 (by rw [hq]; decide) (by rw [hq]; decide) (by rw [hq]; rfl) (by decide) ?_
    exact law_caseI hI S10 ok_X6_mend ok_X7_mend (by decide) 582 59 62 lT_mend lX_mend lY_mend rfl rfl hC X hw hl hi hL hcl hsl KK
  | 11, hq, _ =>
    refine lv_tableIn (off := 592) (tgt := 625) hx hb d_law_33 (by rw [hq]; decide) (by rw [hq]; decide) (by rw [hq]; rfl) (by decide) ?_
    exact law_caseI hI S11 ok_X6_chairTold ok_X7_chairTold (by decide) 625 63 66 lT_chairTold lX_chairTold lY_chairTold rfl rfl hC X hw hl hi hL hcl hsl KK
  | 12, hq, _ =>
    refine lv_tableIn (off := 625) (tgt := 658) hx hb d_law_33 (by rw [hq]; decide) (by rw [hq]; decide) (by rw [hq]; rfl) (by decide) ?_
    exact law_caseI hI S12 ok_X6_of ok_X7_of (by decide) 658 67 70 lT_of lX_of lY_of rfl rfl hC X hw hl hi hL hcl hsl KK
  | 13, hq, _ =>
    refine lv_tableIn (off := 668) (tgt := 701) hx hb d_law_33 (by rw [hq]; decide) (by rw [hq]; decide) (by rw [hq]; rfl) (by decide) ?_
    exact law_caseI hI S13 ok_X6_chairOf ok_X7_chairOf (by decide) 701 71 74 lT_chairOf lX_chairOf lY_chairOf rfl rfl hC X hw hl hi hL hcl hsl KK
  | 14, hq, _ =>
    refine lv_tableIn (off := 711) (tgt := 744) hx hb d_law_33 (by rw [hq]; decide) (by rw [hq]; decide) (by rw [hq]; rfl) (by decide) ?_
    exact law_caseI hI S14 ok_X6_all ok_X7_all (by decide) 744 75 78 lT_all lX_all lY_all rfl rfl hC X hw hl hi hL hcl hsl KK
  | 15, hq, _ =>
    refine lv_tableIn (off := 744) (tgt := 777) hx hb d_law_33 (by rw [hq]; decide) (by rw [hq]; decide) (by rw [hq]; rfl) (by decide) ?_
    exact law_caseI hI S15 ok_X6_cold ok_X7_cold (by decide) 777 79 82 lT_cold lX_cold lY_cold rfl rfl hC X hw hl hi hL hcl hsl KK
  | 16, hq, _ =>
    refine lv_tableIn (off := 757) (tgt := 790) hx hb d_law_33 (by rw [hq]; decide) (by rw [hq]; decide) (by rw [hq]; rfl) (by decide) ?_
    exact law_caseI hI S16 ok_X6_begin ok_X7_begin (by decide) 790 83 86 lT_begin lX_begin lY_begin rfl rfl hC X hw hl hi hL hcl hsl KK
  | 17, hq, _ =>
    refine lv_tableIn (off := 780) (tgt := 813) hx hb d_law_33 (by rw [hq]; decide) (by rw [hq]; decide) (by rw [hq]; rfl) (by decide) ?_
    exact law_caseI hI S17 ok_X6_take ok_X7_take (by decide) 813 87 90 lT_take lX_take lY_take rfl rfl hC X hw hl hi hL hcl hsl KK
  | 18, hq, _ =>
    refine lv_tableIn (off := 803) (tgt := 836) hx hb d_law_33 (by rw [hq]; decide) (by rw [hq]; decide) (by rw [hq]; rfl) (by decide) ?_
    exact law_caseI hI S18 ok_X6_order ok_X7_order (by decide) 836 91 94 lT_order lX_order lY_order rfl rfl hC X hw hl hi hL hcl hsl KK
  | 19, hq, _ =>
    refine lv_tableIn (off := 826) (tgt := 859) hx hb d_law_33 (by rw [hq]; decide) (by rw [hq]; decide) (by rw [hq]; rfl) (by decide) ?_
    exact law_caseI hI S19 ok_X6_invite ok_X7_invite (by decide) 859 95 98 lT_invite lX_invite lY_invite rfl rfl hC X hw hl hi hL hcl hsl KK
  | 20, hq, _ =>
    refine lv_tableIn (off := 839) (tgt := 872) hx hb d_law_33 (by rw [hq]; decide) (by rw [hq]; decide) (by rw [hq]; rfl) (by decide) ?_
    exact law_caseI hI S20 ok_X6_late ok_X7_late (by decide) 872 99 102 lT_late lX_late lY_late rfl rfl hC X hw hl hi hL hcl hsl KK
  | 21, hq, _ =>
    refine lv_tableIn (off := 872) (tgt := 905) hx hb d_law_33 (by rw [hq]; decide) (by rw [hq]; decide) (by rw [hq]; rfl) (by decide) ?_
    exact law_caseI hI S21 ok_X6_lent ok_X7_lent (by decide) 905 103 106 lT_lent lX_lent lY_lent rfl rfl hC X hw hl hi hL hcl hsl KK
  | 22, hq, _ =>
    refine lv_tableIn (off := 905) (tgt := 938) hx hb d_law_33 (by rw [hq]; decide) (by rw [hq]; decide) (by rw [hq]; rfl) (by decide) ?_
    exact law_caseI hI S22 ok_X6_move ok_X7_move (by decide) 938 107 110 lT_move lX_move lY_move rfl rfl hC X hw hl hi hL hcl hsl KK
  | 23, hq, _ =>
    refine lv_tableIn (off := 928) (tgt := 961) hx hb d_law_33 (by rw [hq]; decide) (by rw [hq]; decide) (by rw [hq]; rfl) (by decide) ?_
    exact law_caseI hI S23 ok_X6_ever ok_X7_ever (by decide) 961 111 114 lT_ever lX_ever lY_ever rfl rfl hC X hw hl hi hL hcl hsl KK
  | 24, hq, _ =>
    refine lv_tableIn (off := 971) (tgt := 1004) hx hb d_law_33 (by rw [hq]; decide) (by rw [hq]; decide) (by rw [hq]; rfl) (by decide) ?_
    exact law_caseI hI S24 ok_X6_fewest ok_X7_fewest (by decide) 1004 115 118 lT_fewest lX_fewest lY_fewest rfl rfl hC X hw hl hi hL hcl hsl KK
  | 25, hq, _ =>
    refine lv_tableIn (off := 1004) (tgt := 1037) hx hb d_law_33 (by rw [hq]; decide) (by rw [hq]; decide) (by rw [hq]; rfl) (by decide) ?_
    exact law_caseI hI S25 ok_X6_judge ok_X7_judge (by decide) 1037 119 122 lT_judge lX_judge lY_judge rfl rfl hC X hw hl hi hL hcl hsl KK
  | 26, hq, _ =>
    refine lv_tableIn (off := 1037) (tgt := 1070) hx hb d_law_33 (by rw [hq]; decide) (by rw [hq]; decide) (by rw [hq]; rfl) (by decide) ?_
    exact law_caseJ hI S26 ok_X6_were ok_X7_were (by decide) 1070 123 127 lT_were lX_were lY_were rfl rfl hC X hw hl hi hL hcl hsl KK
  | 27, hq, _ =>
    refine lv_tableIn (off := 1071) (tgt := 1104) hx hb d_law_33 (by rw [hq]; decide) (by rw [hq]; decide) (by rw [hq]; rfl) (by decide) ?_
    exact law_caseI hI S27 ok_X6_laws ok_X7_laws (by decide) 1104 128 131 lT_laws lX_laws lY_laws rfl rfl hC X hw hl hi hL hcl hsl KK
  | 28, hq, _ =>
    refine lv_tableIn (off := 1104) (tgt := 1137) hx hb d_law_33 (by rw [hq]; decide) (by rw [hq]; decide) (by rw [hq]; rfl) (by decide) ?_
    exact law_caseI hI S28 ok_X6_film ok_X7_film (by decide) 1137 132 135 lT_film lX_film lY_film rfl rfl hC X hw hl hi hL hcl hsl KK
  | 29, hq, _ =>
    refine lv_tableIn (off := 1137) (tgt := 1170) hx hb d_law_33 (by rw [hq]; decide) (by rw [hq]; decide) (by rw [hq]; rfl) (by decide) ?_
    exact law_caseI hI S29 ok_X6_drawn ok_X7_drawn (by decide) 1170 136 139 lT_drawn lX_drawn lY_drawn rfl rfl hC X hw hl hi hL hcl hsl KK
  | 30, hq, _ =>
    refine lv_tableIn (off := 1160) (tgt := 1193) hx hb d_law_33 (by rw [hq]; decide) (by rw [hq]; decide) (by rw [hq]; rfl) (by decide) ?_
    exact law_caseJ hI S30 ok_X6_odds ok_X7_odds (by decide) 1193 140 144 lT_odds lX_odds lY_odds rfl rfl hC X hw hl hi hL hcl hsl KK
  | 31, hq, _ =>
    refine lv_tableIn (off := 1214) (tgt := 1247) hx hb d_law_33 (by rw [hq]; decide) (by rw [hq]; decide) (by rw [hq]; rfl) (by decide) ?_
    exact law_caseI hI S31 ok_X6_image ok_X7_image (by decide) 1247 145 148 lT_image lX_image lY_image rfl rfl hC X hw hl hi hL hcl hsl KK
  | 32, hq, _ =>
    refine lv_tableIn (off := 1227) (tgt := 1260) hx hb d_law_33 (by rw [hq]; decide) (by rw [hq]; decide) (by rw [hq]; rfl) (by decide) ?_
    exact law_caseI hI S32 ok_X6_back ok_X7_back (by decide) 1260 149 152 lT_back lX_back lY_back rfl rfl hC X hw hl hi hL hcl hsl KK
  | 33, hq, _ =>
    refine lv_tableIn (off := 1240) (tgt := 1273) hx hb d_law_33 (by rw [hq]; decide) (by rw [hq]; decide) (by rw [hq]; rfl) (by decide) ?_
    exact law_caseI hI S33 ok_X6_sheet ok_X7_sheet (by decide) 1273 153 156 lT_sheet lX_sheet lY_sheet rfl rfl hC X hw hl hi hL hcl hsl KK
  | 34, hq, _ =>
    refine lv_tableIn (off := 1283) (tgt := 1316) hx hb d_law_33 (by rw [hq]; decide) (by rw [hq]; decide) (by rw [hq]; rfl) (by decide) ?_
    exact law_caseI hI S34 ok_X6_cell ok_X7_cell (by decide) 1316 157 160 lT_cell lX_cell lY_cell rfl rfl hC X hw hl hi hL hcl hsl KK
  | 35, hq, _ =>
    refine lv_tableIn (off := 1326) (tgt := 1359) hx hb d_law_33 (by rw [hq]; decide) (by rw [hq]; decide) (by rw [hq]; rfl) (by decide) ?_
    exact law_caseI hI S35 ok_X6_copy ok_X7_copy (by decide) 1359 161 164 lT_copy lX_copy lY_copy rfl rfl hC X hw hl hi hL hcl hsl KK
  | 36, hq, _ =>
    refine lv_tableIn (off := 1389) (tgt := 1422) hx hb d_law_33 (by rw [hq]; decide) (by rw [hq]; decide) (by rw [hq]; rfl) (by decide) ?_
    exact law_caseI hI S36 ok_X6_onesBy ok_X7_onesBy (by decide) 1422 165 169 lT_onesBy lX_onesBy lY_onesBy rfl rfl hC X hw hl hi hL hcl hsl KK
  | 37, hq, _ =>
    refine lv_tableIn (off := 1442) (tgt := 1475) hx hb d_law_33 (by rw [hq]; decide) (by rw [hq]; decide) (by rw [hq]; rfl) (by decide) ?_
    exact law_caseI hI S37 ok_X6_taken ok_X7_taken (by decide) 1475 170 173 lT_taken lX_taken lY_taken rfl rfl hC X hw hl hi hL hcl hsl KK
  | q + 38, _, h => exact absurd h (by omega)
set_option maxHeartbeats 8000000 in
set_option maxRecDepth 100000 in
theorem law_loop {INV : List va_E → Prop} (hI : INVok INV) (SS : STEPS INV) (hC : LCx p s m meth c b L xs D cy) (hL : L ≤ 448) (f : Nat) :
    ∀ (j : Nat), 65 ≤ j + f → 7 * j ≤ L → ∀ (w : List va_E) (ad : Nat → Nat) (H : Heap) (locs : List Loc) (ls : Array Slot), INV w → LX s D cy ad w H locs → lv_has ls 4 [(0, .ref b), (1, .ref (ad 0)), (2, .ref (ad 52)), (3, .int (nI (7 * j)))] → W p l e room_1 s m #[Value.ref b] below meth c H locs (200 + 4 * j) (10000 + 206 * j) (lw_Z below #[Value.ref b] s) (F0 m 18 ls []) := by
  obtain ⟨hx, hb, hr, hml, hown, hts0, hX, hbl, hlocks, hgv⟩ := hC.1
  have hbA : ¬ (fun q : Nat => s.heap.size ≤ q) b := Nat.not_le.mpr hbl
  induction f with
  | zero => intros; omega
  | succ f ih =>
    intro j hf hj w ad H locs ls hw X hl
    refine lv_iload_n hx hb d_law_18 rfl (lv_at hl 3 rfl) ?_
    refine lv_aload_n hx hb d_law_19 rfl (lv_at hl 0 rfl) ?_
    refine va_slen hx hb hX hbl hbA X.2.2.1 d_law_20 ?_
    refine lv_bipush (v := 7) hx hb d_law_21 (by decide +kernel) ?_
    refine lv_isub hx hb d_law_23 ?_
    refine lv_icmp_gt (tgt := 1514) hx hb d_law_24 (by decide) (fun _ => ?_) (fun hle => ?_)
    · refine lv_iconst (v := 1) hx hb d_law_1514 (by decide +kernel) ?_
      refine va_forget (fun q hq => X.2.2.1.2.2 q hq) ?_
      refine W.widen (k := 600000) (n := 7302250) (by omega) (by omega) ?_
      exact lw_ret hx hb hr hlocks d_law_1515
    · have hi : 7 * j + 7 ≤ L := law_le hL hj hle
      refine lv_aload_n hx hb d_law_27 rfl (lv_at hl 0 rfl) ?_
      refine lv_iload_n hx hb d_law_28 rfl (lv_at hl 3 rfl) ?_
      refine va_sld hx hb hX hbl hbA X.2.2.1 (vp_in_nI (by omega) (by omega)) d_law_29 ?_
      refine lv_bipush (v := 63) hx hb d_law_30 (by decide +kernel) ?_
      refine lv_iand hx hb d_law_32 ?_
      generalize (xs (nI (7 * j)).toNatClampNeg &&& 63) = x
      have KK : ∀ (w' : List va_E) (ad' : Nat → Nat) (H' : Heap) (locs' : List Loc), INV w' → ad' 0 = ad 0 → ad' 52 = ad 52 → LX s D cy ad' w' H' locs' → W p l e room_1 s m #[Value.ref b] below meth c H' locs' (200 + 4 * j + 4) (10000 + 206 * j + 206) (lw_Z below #[Value.ref b] s) (F0 m 1508 ls []) := by
        intro w' ad' H' locs' hw' e0 e52 X'
        refine lv_iinc (v := nI (7 * (j + 1))) (k := 3) (lv' := [(3, .int (nI (7 * (j + 1)))), (0, .ref b), (1, .ref (ad 0)), (2, .ref (ad 52))]) hx hb d_law_1508 hl rfl (nI_add (7 * j) 7) (by decide) rfl (fun ls' hl' => ?_)
        refine lv_goto (tgt := 18) hx hb d_law_1511 (by decide) ?_
        have h1 := ih (j + 1) (by omega) (by omega) w' ad' H' locs' ls' hw' X' (by rw [e0, e52]; exact lv_sub hl' [1, 2, 3, 0] rfl)
        rw [show 200 + 4 * (j + 1) = 200 + 4 * j + 4 by omega, show 10000 + 206 * (j + 1) = 10000 + 206 * j + 206 by omega] at h1
        exact h1
      by_cases hr : x.toInt < 0 ∨ 37 < x.toInt
      · refine lv_tableOut (tgt := 1508) hx hb d_law_33 hr (by decide) ?_
        refine W.widen (k := 200 + 4 * j + 4) (n := 10000 + 206 * j + 206) (by omega) (by omega) ?_
        exact KK w ad H locs hw rfl rfl X
      · have hx1 : ¬ x.toInt < 0 := fun h => hr (Or.inl h)
        have hx2 : ¬ 37 < x.toInt := fun h => hr (Or.inr h)
        exact law_switch hI SS hC hL X hw hl hi (by omega) (by omega) KK x x.toInt.toNat (by omega) (by omega)
end
