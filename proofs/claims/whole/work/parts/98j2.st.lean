set_option maxHeartbeats 2000000 in
set_option maxRecDepth 100000 in
theorem st_chair : STP Value.int INB M_X6_chair M_X7_chair 2 := by
  refine ⟨2, 2, 0, 0, by decide, by decide, by decide, by decide, ?_⟩
  intro w hw
  refine hw (STw Value.int INB M_X6_chair M_X7_chair 2 2 2 0 0) ?_
  intro fr lo fa ki mo P C k sty wset wfor pfr plo pfa pki pmo ppe pch psty pwset pwfor plaw plent bytes tcodes tends N ta0 tcn tpl tok efr elo efa eki emo epe ech esty ewset ewfor elaw elent on was sat stood rose firsts waits till sitter names satOn risen pict brs bst row brow kept asked so sz ce tx T K sy cd sr wi1 ho1 ki1 mo1 sz2 pe1 ch1 ru1 g J KF hH hN hI hS hX hL hT ho zs hz
  obtain ⟨hP, hC, hk, hmo, hwf, hki⟩ := id hH
  obtain ⟨a, b, rfl⟩ := zs2 hz
  refine ⟨_, Co.pre (rC7 pfr plo pfa pki pmo ppe pch psty pwset pwfor plaw plent bytes tcodes tends (nI N) (nI ta0) tcn tpl tok efr elo efa eki emo epe ech esty ewset ewfor elaw elent on was sat stood rose firsts waits till sitter names satOn risen row brow kept asked so sz ce tx T) (x_chair fr lo fa ki mo (nI P) sty wset wfor (nI k) (-1) pict (nI K) brs bst C hC a b) rfl (Nat.le_of_ble_eq_true rfl) (fun r w' h => by rcases h with ⟨-, -, h⟩ | ⟨-, -, h⟩ | ⟨-, -, h⟩ <;> rw [h] <;> rfl), fun r w' hq => ?_⟩
  obtain ⟨w1, hq, hw1⟩ := hq
  rcases hq with ⟨hc, hr, rfl⟩ | ⟨hc, hr, rfl⟩ | ⟨hc, hr, rfl⟩
  · have hw' : w' = wC fr lo fa ki mo (nI P) (nI C) sty wset wfor (nI k) (-1) pfr plo pfa pki pmo ppe pch psty pwset pwfor plaw plent bytes tcodes tends (nI N) (nI ta0) tcn tpl tok efr elo efa eki emo epe ech esty ewset ewfor elaw elent on was sat stood rose firsts waits till sitter names satOn risen pict (nI K) brs bst row brow kept asked so sz ce tx T := hw1
    refine ⟨_, hr, step_end (J0 := (JR P C k N K pict pe1 ch1 ru1 J)) (K0 := (KR fr lo fa ki mo sty wset wfor bytes cd sr wi1 ho1 ki1 mo1 so sz2 g KF)) (fun _ => rfl) hw' hT (Co.wd (c_X7_chair (wiF fr lo fa) ki mo (hoF sty wset wfor) cd sr (KF 32) (KF 33) (KF 34) (KF 35) (KF 36) (KF 37) (KF 38) (KF 39) (KF 40) (KF 41) (nI P) (nI k) (-1) (JR P C k N K pict pe1 ch1 ru1 J) (KR fr lo fa ki mo sty wset wfor bytes cd sr wi1 ho1 ki1 mo1 so sz2 g KF) C hC a b) V_v) (fun r0 w0 hq0 => ?_)⟩
    rcases hq0 with ⟨hd, hr0, hw0⟩ | ⟨hd, hr0, hw0⟩ | ⟨hd, hr0, hw0⟩
    · exact ⟨hr0, INB_mk hH hN hI hS hX hL hT (hw0.trans R_v) ho⟩
    · first | exact absurd hd hc | exact absurd hc hd | exact absurd hd.1 hc | exact absurd hc.1 hd | exact absurd hd.2 hc.2 | exact absurd hc.2 hd.2 | exact absurd hc.2 (Nat.ne_of_lt hd.2) | exact absurd hd.2 (Nat.ne_of_lt hc.2) | exact absurd hd.2 (Nat.not_le.mpr hc.2) | exact absurd hc.2 (Nat.not_le.mpr hd.2)
    · first | exact absurd hd hc | exact absurd hc hd | exact absurd hd.1 hc | exact absurd hc.1 hd | exact absurd hd.2 hc.2 | exact absurd hc.2 hd.2 | exact absurd hc.2 (Nat.ne_of_lt hd.2) | exact absurd hd.2 (Nat.ne_of_lt hc.2) | exact absurd hd.2 (Nat.not_le.mpr hc.2) | exact absurd hc.2 (Nat.not_le.mpr hd.2)
  · have hw' : w' = wC fr lo fa ki mo (nI P) (nI C) sty wset wfor (nI k) (-1) pfr plo pfa pki pmo ppe pch psty pwset pwfor plaw plent bytes tcodes tends (nI N) (nI ta0) tcn tpl tok efr elo efa eki emo epe ech esty ewset ewfor elaw elent on was sat stood rose firsts waits till sitter names satOn risen pict (nI K) brs bst row brow kept asked so sz ce tx T := hw1
    refine ⟨_, hr, step_end (J0 := (JR P C k N K pict pe1 ch1 ru1 J)) (K0 := (KR fr lo fa ki mo sty wset wfor bytes cd sr wi1 ho1 ki1 mo1 so sz2 g KF)) (fun _ => rfl) hw' hT (Co.wd (c_X7_chair (wiF fr lo fa) ki mo (hoF sty wset wfor) cd sr (KF 32) (KF 33) (KF 34) (KF 35) (KF 36) (KF 37) (KF 38) (KF 39) (KF 40) (KF 41) (nI P) (nI k) (-1) (JR P C k N K pict pe1 ch1 ru1 J) (KR fr lo fa ki mo sty wset wfor bytes cd sr wi1 ho1 ki1 mo1 so sz2 g KF) C hC a b) V_v) (fun r0 w0 hq0 => ?_)⟩
    rcases hq0 with ⟨hd, hr0, hw0⟩ | ⟨hd, hr0, hw0⟩ | ⟨hd, hr0, hw0⟩
    · first | exact absurd hd hc | exact absurd hc hd | exact absurd hd.1 hc | exact absurd hc.1 hd | exact absurd hd.2 hc.2 | exact absurd hc.2 hd.2 | exact absurd hc.2 (Nat.ne_of_lt hd.2) | exact absurd hd.2 (Nat.ne_of_lt hc.2) | exact absurd hd.2 (Nat.not_le.mpr hc.2) | exact absurd hc.2 (Nat.not_le.mpr hd.2)
    · exact ⟨hr0, INB_mk hH hN hI hS hX hL hT (hw0.trans R_v) ho⟩
    · first | exact absurd hd hc | exact absurd hc hd | exact absurd hd.1 hc | exact absurd hc.1 hd | exact absurd hd.2 hc.2 | exact absurd hc.2 hd.2 | exact absurd hc.2 (Nat.ne_of_lt hd.2) | exact absurd hd.2 (Nat.ne_of_lt hc.2) | exact absurd hd.2 (Nat.not_le.mpr hc.2) | exact absurd hc.2 (Nat.not_le.mpr hd.2)
  · have hw' : w' = wC fr lo fa (upd ki C a) (upd mo C b) (nI P) (nI (C + 1)) sty wset wfor (nI k) (-1) pfr plo pfa pki pmo ppe pch psty pwset pwfor plaw plent bytes tcodes tends (nI N) (nI ta0) tcn tpl tok efr elo efa eki emo epe ech esty ewset ewfor elaw elent on was sat stood rose firsts waits till sitter names satOn risen pict (nI K) brs bst row brow kept asked so sz ce tx T := hw1
    refine ⟨_, hr, step_end (J0 := (JR P C k N K pict pe1 ch1 ru1 J)) (K0 := (KR fr lo fa ki mo sty wset wfor bytes cd sr wi1 ho1 ki1 mo1 so sz2 g KF)) (fun _ => rfl) hw' hT (Co.wd (c_X7_chair (wiF fr lo fa) ki mo (hoF sty wset wfor) cd sr (KF 32) (KF 33) (KF 34) (KF 35) (KF 36) (KF 37) (KF 38) (KF 39) (KF 40) (KF 41) (nI P) (nI k) (-1) (JR P C k N K pict pe1 ch1 ru1 J) (KR fr lo fa ki mo sty wset wfor bytes cd sr wi1 ho1 ki1 mo1 so sz2 g KF) C hC a b) V_v) (fun r0 w0 hq0 => ?_)⟩
    rcases hq0 with ⟨hd, hr0, hw0⟩ | ⟨hd, hr0, hw0⟩ | ⟨hd, hr0, hw0⟩
    · first | exact absurd hd hc | exact absurd hc hd | exact absurd hd.1 hc | exact absurd hc.1 hd | exact absurd hd.2 hc.2 | exact absurd hc.2 hd.2 | exact absurd hc.2 (Nat.ne_of_lt hd.2) | exact absurd hd.2 (Nat.ne_of_lt hc.2) | exact absurd hd.2 (Nat.not_le.mpr hc.2) | exact absurd hc.2 (Nat.not_le.mpr hd.2)
    · first | exact absurd hd hc | exact absurd hc hd | exact absurd hd.1 hc | exact absurd hc.1 hd | exact absurd hd.2 hc.2 | exact absurd hc.2 hd.2 | exact absurd hc.2 (Nat.ne_of_lt hd.2) | exact absurd hd.2 (Nat.ne_of_lt hc.2) | exact absurd hd.2 (Nat.not_le.mpr hc.2) | exact absurd hc.2 (Nat.not_le.mpr hd.2)
    · exact ⟨hr0, INB_mk (HOK_so hH hc.1 hc.2) hN hI hS hX hL hT (hw0.trans R_v) ho⟩
set_option maxHeartbeats 2000000 in
set_option maxRecDepth 100000 in
theorem st_mend : STP Value.int INB M_X6_mend M_X7_mend 3 := by
  refine ⟨2, 2, 0, 0, by decide, by decide, by decide, by decide, ?_⟩
  intro w hw
  refine hw (STw Value.int INB M_X6_mend M_X7_mend 3 2 2 0 0) ?_
  intro fr lo fa ki mo P C k sty wset wfor pfr plo pfa pki pmo ppe pch psty pwset pwfor plaw plent bytes tcodes tends N ta0 tcn tpl tok efr elo efa eki emo epe ech esty ewset ewfor elaw elent on was sat stood rose firsts waits till sitter names satOn risen pict brs bst row brow kept asked so sz ce tx T K sy cd sr wi1 ho1 ki1 mo1 sz2 pe1 ch1 ru1 g J KF hH hN hI hS hX hL hT ho zs hz
  obtain ⟨hP, hC, hk, hmo, hwf, hki⟩ := id hH
  obtain ⟨cc, a, b, rfl⟩ := zs3 hz
  refine ⟨_, Co.pre (rC7 pfr plo pfa pki pmo ppe pch psty pwset pwfor plaw plent bytes tcodes tends (nI N) (nI ta0) tcn tpl tok efr elo efa eki emo epe ech esty ewset ewfor elaw elent on was sat stood rose firsts waits till sitter names satOn risen row brow kept asked so sz ce tx T) (x_mend fr lo fa ki mo (nI P) sty wset wfor (nI k) (-1) pict (nI K) brs bst C hC cc a b) rfl (Nat.le_of_ble_eq_true rfl) (fun r w' h => by rcases h with ⟨-, -, h⟩ | ⟨-, -, h⟩ | ⟨-, -, h⟩ <;> rw [h] <;> rfl), fun r w' hq => ?_⟩
  obtain ⟨w1, hq, hw1⟩ := hq
  rcases hq with ⟨hc, hr, rfl⟩ | ⟨hc, hr, rfl⟩ | ⟨hc, hr, rfl⟩
  · have hw' : w' = wC fr lo fa ki mo (nI P) (nI C) sty wset wfor (nI k) (-1) pfr plo pfa pki pmo ppe pch psty pwset pwfor plaw plent bytes tcodes tends (nI N) (nI ta0) tcn tpl tok efr elo efa eki emo epe ech esty ewset ewfor elaw elent on was sat stood rose firsts waits till sitter names satOn risen pict (nI K) brs bst row brow kept asked so sz ce tx T := hw1
    refine ⟨_, hr, step_end (J0 := (JR P C k N K pict pe1 ch1 ru1 J)) (K0 := (KR fr lo fa ki mo sty wset wfor bytes cd sr wi1 ho1 ki1 mo1 so sz2 g KF)) (fun _ => rfl) hw' hT (Co.wd (c_X7_mend (wiF fr lo fa) ki mo (hoF sty wset wfor) cd sr (KF 32) (KF 33) (KF 34) (KF 35) (KF 36) (KF 37) (KF 38) (KF 39) (KF 40) (KF 41) (nI P) (nI k) (-1) (JR P C k N K pict pe1 ch1 ru1 J) (KR fr lo fa ki mo sty wset wfor bytes cd sr wi1 ho1 ki1 mo1 so sz2 g KF) C hC cc a b) V_v) (fun r0 w0 hq0 => ?_)⟩
    rcases hq0 with ⟨hd, hr0, hw0⟩ | ⟨hd, hr0, hw0⟩ | ⟨hd, hr0, hw0⟩
    · exact ⟨hr0, INB_mk hH hN hI hS hX hL hT (hw0.trans R_v) ho⟩
    · first | exact absurd hd hc | exact absurd hc hd | exact absurd hd.1 hc | exact absurd hc.1 hd | exact absurd hd.2 hc.2 | exact absurd hc.2 hd.2 | exact absurd hc.2 (Nat.ne_of_lt hd.2) | exact absurd hd.2 (Nat.ne_of_lt hc.2) | exact absurd hd.2 (Nat.not_le.mpr hc.2) | exact absurd hc.2 (Nat.not_le.mpr hd.2)
    · first | exact absurd hd hc | exact absurd hc hd | exact absurd hd.1 hc | exact absurd hc.1 hd | exact absurd hd.2 hc.2 | exact absurd hc.2 hd.2 | exact absurd hc.2 (Nat.ne_of_lt hd.2) | exact absurd hd.2 (Nat.ne_of_lt hc.2) | exact absurd hd.2 (Nat.not_le.mpr hc.2) | exact absurd hc.2 (Nat.not_le.mpr hd.2)
  · have hw' : w' = wC fr lo fa ki mo (nI P) (nI C) sty wset wfor (nI k) (-1) pfr plo pfa pki pmo ppe pch psty pwset pwfor plaw plent bytes tcodes tends (nI N) (nI ta0) tcn tpl tok efr elo efa eki emo epe ech esty ewset ewfor elaw elent on was sat stood rose firsts waits till sitter names satOn risen pict (nI K) brs bst row brow kept asked so sz ce tx T := hw1
    refine ⟨_, hr, step_end (J0 := (JR P C k N K pict pe1 ch1 ru1 J)) (K0 := (KR fr lo fa ki mo sty wset wfor bytes cd sr wi1 ho1 ki1 mo1 so sz2 g KF)) (fun _ => rfl) hw' hT (Co.wd (c_X7_mend (wiF fr lo fa) ki mo (hoF sty wset wfor) cd sr (KF 32) (KF 33) (KF 34) (KF 35) (KF 36) (KF 37) (KF 38) (KF 39) (KF 40) (KF 41) (nI P) (nI k) (-1) (JR P C k N K pict pe1 ch1 ru1 J) (KR fr lo fa ki mo sty wset wfor bytes cd sr wi1 ho1 ki1 mo1 so sz2 g KF) C hC cc a b) V_v) (fun r0 w0 hq0 => ?_)⟩
    rcases hq0 with ⟨hd, hr0, hw0⟩ | ⟨hd, hr0, hw0⟩ | ⟨hd, hr0, hw0⟩
    · first | exact absurd hd hc | exact absurd hc hd | exact absurd hd.1 hc | exact absurd hc.1 hd | exact absurd hd.2 hc.2 | exact absurd hc.2 hd.2 | exact absurd hc.2 (Nat.ne_of_lt hd.2) | exact absurd hd.2 (Nat.ne_of_lt hc.2) | exact absurd hd.2 (Nat.not_le.mpr hc.2) | exact absurd hc.2 (Nat.not_le.mpr hd.2)
    · exact ⟨hr0, INB_mk hH hN hI hS hX hL hT (hw0.trans R_v) ho⟩
    · first | exact absurd hd hc | exact absurd hc hd | exact absurd hd.1 hc | exact absurd hc.1 hd | exact absurd hd.2 hc.2 | exact absurd hc.2 hd.2 | exact absurd hc.2 (Nat.ne_of_lt hd.2) | exact absurd hd.2 (Nat.ne_of_lt hc.2) | exact absurd hd.2 (Nat.not_le.mpr hc.2) | exact absurd hc.2 (Nat.not_le.mpr hd.2)
  · have hw' : w' = wC fr lo fa (upd ki cc.toNatClampNeg a) (upd mo cc.toNatClampNeg b) (nI P) (nI C) sty wset wfor (nI k) (-1) pfr plo pfa pki pmo ppe pch psty pwset pwfor plaw plent bytes tcodes tends (nI N) (nI ta0) tcn tpl tok efr elo efa eki emo epe ech esty ewset ewfor elaw elent on was sat stood rose firsts waits till sitter names satOn risen pict (nI K) brs bst row brow kept asked so sz ce tx T := hw1
    refine ⟨_, hr, step_end (J0 := (JR P C k N K pict pe1 ch1 ru1 J)) (K0 := (KR fr lo fa ki mo sty wset wfor bytes cd sr wi1 ho1 ki1 mo1 so sz2 g KF)) (fun _ => rfl) hw' hT (Co.wd (c_X7_mend (wiF fr lo fa) ki mo (hoF sty wset wfor) cd sr (KF 32) (KF 33) (KF 34) (KF 35) (KF 36) (KF 37) (KF 38) (KF 39) (KF 40) (KF 41) (nI P) (nI k) (-1) (JR P C k N K pict pe1 ch1 ru1 J) (KR fr lo fa ki mo sty wset wfor bytes cd sr wi1 ho1 ki1 mo1 so sz2 g KF) C hC cc a b) V_v) (fun r0 w0 hq0 => ?_)⟩
    rcases hq0 with ⟨hd, hr0, hw0⟩ | ⟨hd, hr0, hw0⟩ | ⟨hd, hr0, hw0⟩
    · first | exact absurd hd hc | exact absurd hc hd | exact absurd hd.1 hc | exact absurd hc.1 hd | exact absurd hd.2 hc.2 | exact absurd hc.2 hd.2 | exact absurd hc.2 (Nat.ne_of_lt hd.2) | exact absurd hd.2 (Nat.ne_of_lt hc.2) | exact absurd hd.2 (Nat.not_le.mpr hc.2) | exact absurd hc.2 (Nat.not_le.mpr hd.2)
    · first | exact absurd hd hc | exact absurd hc hd | exact absurd hd.1 hc | exact absurd hc.1 hd | exact absurd hd.2 hc.2 | exact absurd hc.2 hd.2 | exact absurd hc.2 (Nat.ne_of_lt hd.2) | exact absurd hd.2 (Nat.ne_of_lt hc.2) | exact absurd hd.2 (Nat.not_le.mpr hc.2) | exact absurd hc.2 (Nat.not_le.mpr hd.2)
    · exact ⟨hr0, INB_mk (HOK_so hH hc.2 hC) hN hI hS hX hL hT (hw0.trans R_v) ho⟩
set_option maxHeartbeats 2000000 in
set_option maxRecDepth 100000 in
theorem st_chairTold : STP Value.int INB M_X6_chairTold M_X7_chairTold 2 := by
  refine ⟨2, 2, 0, 0, by decide, by decide, by decide, by decide, ?_⟩
  intro w hw
  refine hw (STw Value.int INB M_X6_chairTold M_X7_chairTold 2 2 2 0 0) ?_
  intro fr lo fa ki mo P C k sty wset wfor pfr plo pfa pki pmo ppe pch psty pwset pwfor plaw plent bytes tcodes tends N ta0 tcn tpl tok efr elo efa eki emo epe ech esty ewset ewfor elaw elent on was sat stood rose firsts waits till sitter names satOn risen pict brs bst row brow kept asked so sz ce tx T K sy cd sr wi1 ho1 ki1 mo1 sz2 pe1 ch1 ru1 g J KF hH hN hI hS hX hL hT ho zs hz
  obtain ⟨hP, hC, hk, hmo, hwf, hki⟩ := id hH
  obtain ⟨cc, what, rfl⟩ := zs2 hz
  refine ⟨_, Co.pre (rC7 pfr plo pfa pki pmo ppe pch psty pwset pwfor plaw plent bytes tcodes tends (nI N) (nI ta0) tcn tpl tok efr elo efa eki emo epe ech esty ewset ewfor elaw elent on was sat stood rose firsts waits till sitter names satOn risen row brow kept asked so sz ce tx T) (x_chairTold fr lo fa ki mo (nI P) sty wset wfor (nI k) (-1) pict (nI K) brs bst C hC cc what) rfl (Nat.le_of_ble_eq_true rfl) (fun r w' h => by first | (rw [h.2]; done) | (rw [h.2]; rfl)), fun r w' hq => ?_⟩
  obtain ⟨w1, hq, hw1⟩ := hq
  obtain ⟨hr, rfl⟩ := hq
  have hw' : w' = wC fr lo fa ki mo (nI P) (nI C) sty wset wfor (nI k) (-1) pfr plo pfa pki pmo ppe pch psty pwset pwfor plaw plent bytes tcodes tends (nI N) (nI ta0) tcn tpl tok efr elo efa eki emo epe ech esty ewset ewfor elaw elent on was sat stood rose firsts waits till sitter names satOn risen pict (nI K) brs bst row brow kept asked so sz ce tx T := hw1
  refine ⟨_, hr, step_end (J0 := (JR P C k N K pict pe1 ch1 ru1 J)) (K0 := (KR fr lo fa ki mo sty wset wfor bytes cd sr wi1 ho1 ki1 mo1 so sz2 g KF)) (fun _ => rfl) hw' hT (Co.wd (c_X7_chairTold (wiF fr lo fa) ki mo (hoF sty wset wfor) cd sr (KF 32) (KF 33) (KF 34) (KF 35) (KF 36) (KF 37) (KF 38) (KF 39) (KF 40) (KF 41) (nI P) (nI k) (-1) (JR P C k N K pict pe1 ch1 ru1 J) (KR fr lo fa ki mo sty wset wfor bytes cd sr wi1 ho1 ki1 mo1 so sz2 g KF) C hC cc what) V_v) (fun r0 w0 hq0 => ?_)⟩
  obtain ⟨hr0, hw0⟩ := hq0
  exact ⟨hr0, INB_mk hH hN hI hS hX hL hT (hw0.trans R_v) ho⟩
set_option maxHeartbeats 2000000 in
set_option maxRecDepth 100000 in
theorem st_taken : STP Value.int INB M_X6_taken M_X7_taken 2 := by
  refine ⟨2, 1, 0, 0, by decide, by decide, by decide, by decide, ?_⟩
  intro w hw
  refine hw (STw Value.int INB M_X6_taken M_X7_taken 2 2 1 0 0) ?_
  intro fr lo fa ki mo P C k sty wset wfor pfr plo pfa pki pmo ppe pch psty pwset pwfor plaw plent bytes tcodes tends N ta0 tcn tpl tok efr elo efa eki emo epe ech esty ewset ewfor elaw elent on was sat stood rose firsts waits till sitter names satOn risen pict brs bst row brow kept asked so sz ce tx T K sy cd sr wi1 ho1 ki1 mo1 sz2 pe1 ch1 ru1 g J KF hH hN hI hS hX hL hT ho zs hz
  obtain ⟨hP, hC, hk, hmo, hwf, hki⟩ := id hH
  obtain ⟨ii, kk, rfl⟩ := zs2 hz
  refine ⟨_, Co.pre (rC7 pfr plo pfa pki pmo ppe pch psty pwset pwfor plaw plent bytes tcodes tends (nI N) (nI ta0) tcn tpl tok efr elo efa eki emo epe ech esty ewset ewfor elaw elent on was sat stood rose firsts waits till sitter names satOn risen row brow kept asked so sz ce tx T) (x_taken fr lo fa ki mo sty wset wfor (nI k) (-1) pict (nI K) brs bst P C hP hC hki ii kk) rfl (Nat.le_of_ble_eq_true rfl) (fun r w' h => by first | (rw [h.2]; done) | (rw [h.2]; rfl)), fun r w' hq => ?_⟩
  obtain ⟨w1, hq, hw1⟩ := hq
  obtain ⟨hr, rfl⟩ := hq
  have hw' : w' = wC fr lo fa ki mo (nI P) (nI C) sty wset wfor (nI k) (-1) pfr plo pfa pki pmo ppe pch psty pwset pwfor plaw plent bytes tcodes tends (nI N) (nI ta0) tcn tpl tok efr elo efa eki emo epe ech esty ewset ewfor elaw elent on was sat stood rose firsts waits till sitter names satOn risen pict (nI K) brs bst row brow kept asked so sz ce tx T := hw1
  refine ⟨_, hr, step_end (J0 := (JR P C k N K pict pe1 ch1 ru1 J)) (K0 := (KR fr lo fa ki mo sty wset wfor bytes cd sr wi1 ho1 ki1 mo1 so sz2 g KF)) (fun _ => rfl) hw' hT (Co.wd (m_taken ki mo (hoF sty wset wfor) cd sr (KF 32) (KF 33) (KF 34) (KF 35) (KF 36) (KF 37) (KF 38) (KF 39) (KF 40) (KF 41) (nI k) (-1) (JR P C k N K pict pe1 ch1 ru1 J) (KR fr lo fa ki mo sty wset wfor bytes cd sr wi1 ho1 ki1 mo1 so sz2 g KF) fr lo fa P hP C hC ii kk) V_v) (fun r0 w0 hq0 => ?_)⟩
  obtain ⟨hr0, hw0⟩ := hq0
  exact ⟨hr0, INB_mk hH hN hI hS hX hL hT (hw0.trans R_v) ho⟩
