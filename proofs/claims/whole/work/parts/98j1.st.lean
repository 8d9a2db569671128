set_option maxHeartbeats 2000000 in
set_option maxRecDepth 100000 in
theorem st_count : STP Value.int INB M_X6_count M_X7_count 1 := by
  refine ⟨1, 1, 0, 0, by decide, by decide, by decide, by decide, ?_⟩
  intro w hw
  refine hw (STw Value.int INB M_X6_count M_X7_count 1 1 1 0 0) ?_
  intro fr lo fa ki mo P C k sty wset wfor pfr plo pfa pki pmo ppe pch psty pwset pwfor plaw plent bytes tcodes tends N ta0 tcn tpl tok efr elo efa eki emo epe ech esty ewset ewfor elaw elent on was sat stood rose firsts waits till sitter names satOn risen pict brs bst row brow kept asked so sz ce tx T K sy cd sr wi1 ho1 ki1 mo1 sz2 pe1 ch1 ru1 g J KF hH hN hI hS hX hL hT ho zs hz
  obtain ⟨hP, hC, hk, hmo, hwf, hki⟩ := id hH
  obtain ⟨what, rfl⟩ := zs1 hz
  refine ⟨_, Co.pre (rC17 efr elo efa eki emo epe ech esty ewset ewfor elaw elent on was sat stood rose firsts waits till sitter names satOn risen row brow kept asked so sz ce tx T) (x_count fr lo fa ki mo (nI P) (nI C) sty wset wfor (nI k) (-1) pfr plo pfa pki pmo ppe pch psty pwset pwfor plaw plent bytes tcodes tends (nI N) (nI ta0) tcn tpl tok pict (nI K) brs bst what) rfl (Nat.le_of_ble_eq_true rfl) (fun r w' h => by first | (rw [h.2]; done) | (rw [h.2]; rfl)), fun r w' hq => ?_⟩
  obtain ⟨w1, hq, hw1⟩ := hq
  obtain ⟨hr, rfl⟩ := hq
  have hw' : w' = wC fr lo fa ki mo (nI P) (nI C) sty wset wfor (nI k) (-1) pfr plo pfa pki pmo ppe pch psty pwset pwfor plaw plent bytes tcodes tends (nI N) (nI ta0) tcn tpl tok efr elo efa eki emo epe ech esty ewset ewfor elaw elent on was sat stood rose firsts waits till sitter names satOn risen pict (nI K) brs bst row brow kept asked so sz ce tx T := hw1
  refine ⟨_, hr, step_end (J0 := (JR P C k N K pict pe1 ch1 ru1 J)) (K0 := (KR fr lo fa ki mo sty wset wfor bytes cd sr wi1 ho1 ki1 mo1 so sz2 g KF)) (fun _ => rfl) hw' hT (Co.wd (m_count (wiF fr lo fa) ki mo cd sr (KF 32) (KF 33) (KF 34) (KF 35) (KF 36) (KF 37) (KF 38) (KF 39) (KF 40) (KF 41) (nI P) (nI C) (nI k) (-1) (JR P C k N K pict pe1 ch1 ru1 J) (KR fr lo fa ki mo sty wset wfor bytes cd sr wi1 ho1 ki1 mo1 so sz2 g KF) sty wset wfor what) V_v) (fun r0 w0 hq0 => ?_)⟩
  obtain ⟨hr0, hw0⟩ := hq0
  exact ⟨hr0, INB_mk hH hN hI hS hX hL hT (hw0.trans R_v) ho⟩
set_option maxHeartbeats 2000000 in
set_option maxRecDepth 100000 in
theorem st_feed : STP Value.int INB M_X6_feed M_X7_feed 6 := by
  refine ⟨2, 2, 0, 0, by decide, by decide, by decide, by decide, ?_⟩
  intro w hw
  refine hw (STw Value.int INB M_X6_feed M_X7_feed 6 2 2 0 0) ?_
  intro fr lo fa ki mo P C k sty wset wfor pfr plo pfa pki pmo ppe pch psty pwset pwfor plaw plent bytes tcodes tends N ta0 tcn tpl tok efr elo efa eki emo epe ech esty ewset ewfor elaw elent on was sat stood rose firsts waits till sitter names satOn risen pict brs bst row brow kept asked so sz ce tx T K sy cd sr wi1 ho1 ki1 mo1 sz2 pe1 ch1 ru1 g J KF hH hN hI hS hX hL hT ho zs hz
  obtain ⟨hP, hC, hk, hmo, hwf, hki⟩ := id hH
  obtain ⟨n, a, b, c, d0, e, rfl⟩ := zs6 hz
  refine ⟨_, Co.pre (rC17 efr elo efa eki emo epe ech esty ewset ewfor elaw elent on was sat stood rose firsts waits till sitter names satOn risen row brow kept asked so sz ce tx T) (x_feed fr lo fa ki mo (nI P) (nI C) sty wset wfor (nI k) (-1) pfr plo pfa pki pmo ppe pch psty pwset pwfor plaw plent bytes tcodes tends (nI ta0) tcn tpl tok pict (nI K) brs bst N hN n a b c d0 e) rfl (Nat.le_of_ble_eq_true rfl) (fun r w' h => by rcases h with ⟨-, -, h⟩ | ⟨-, -, h⟩ | ⟨-, -, h⟩ <;> rw [h] <;> rfl), fun r w' hq => ?_⟩
  obtain ⟨w1, hq, hw1⟩ := hq
  rcases hq with ⟨hc, hr, rfl⟩ | ⟨hc, hr, rfl⟩ | ⟨hc, hr, rfl⟩
  · have hw' : w' = wC fr lo fa ki mo (nI P) (nI C) sty wset wfor (nI k) (-1) pfr plo pfa pki pmo ppe pch psty pwset pwfor plaw plent bytes tcodes tends (nI N) (nI ta0) tcn tpl tok efr elo efa eki emo epe ech esty ewset ewfor elaw elent on was sat stood rose firsts waits till sitter names satOn risen pict (nI K) brs bst row brow kept asked so sz ce tx T := hw1
    refine ⟨_, hr, step_end (J0 := (JR P C k N K pict pe1 ch1 ru1 J)) (K0 := (KR fr lo fa ki mo sty wset wfor bytes cd sr wi1 ho1 ki1 mo1 so sz2 g KF)) (fun _ => rfl) hw' hT (Co.wd (m_feed bytes (JR P C k N K pict pe1 ch1 ru1 J) (KR fr lo fa ki mo sty wset wfor bytes cd sr wi1 ho1 ki1 mo1 so sz2 g KF) N hN n a b c d0 e) V_t) (fun r0 w0 hq0 => ?_)⟩
    rcases hq0 with ⟨hd, hr0, hw0⟩ | ⟨hd, hr0, hw0⟩ | ⟨hd, hr0, hw0⟩
    · exact ⟨hr0, INB_mk hH hN hI hS hX hL hT (hw0.trans R_t) ho⟩
    · first | exact absurd hd hc | exact absurd hc hd | exact absurd hd.1 hc | exact absurd hc.1 hd | exact absurd hd.2 hc.2 | exact absurd hc.2 hd.2 | exact absurd hc.2 (Nat.ne_of_lt hd.2) | exact absurd hd.2 (Nat.ne_of_lt hc.2) | exact absurd hd.2 (Nat.not_le.mpr hc.2) | exact absurd hc.2 (Nat.not_le.mpr hd.2)
    · first | exact absurd hd hc | exact absurd hc hd | exact absurd hd.1 hc | exact absurd hc.1 hd | exact absurd hd.2 hc.2 | exact absurd hc.2 hd.2 | exact absurd hc.2 (Nat.ne_of_lt hd.2) | exact absurd hd.2 (Nat.ne_of_lt hc.2) | exact absurd hd.2 (Nat.not_le.mpr hc.2) | exact absurd hc.2 (Nat.not_le.mpr hd.2)
  · have hw' : w' = wC fr lo fa ki mo (nI P) (nI C) sty wset wfor (nI k) (-1) pfr plo pfa pki pmo ppe pch psty pwset pwfor plaw plent bytes tcodes tends (nI N) (nI ta0) tcn tpl tok efr elo efa eki emo epe ech esty ewset ewfor elaw elent on was sat stood rose firsts waits till sitter names satOn risen pict (nI K) brs bst row brow kept asked so sz ce tx T := hw1
    refine ⟨_, hr, step_end (J0 := (JR P C k N K pict pe1 ch1 ru1 J)) (K0 := (KR fr lo fa ki mo sty wset wfor bytes cd sr wi1 ho1 ki1 mo1 so sz2 g KF)) (fun _ => rfl) hw' hT (Co.wd (m_feed bytes (JR P C k N K pict pe1 ch1 ru1 J) (KR fr lo fa ki mo sty wset wfor bytes cd sr wi1 ho1 ki1 mo1 so sz2 g KF) N hN n a b c d0 e) V_t) (fun r0 w0 hq0 => ?_)⟩
    rcases hq0 with ⟨hd, hr0, hw0⟩ | ⟨hd, hr0, hw0⟩ | ⟨hd, hr0, hw0⟩
    · first | exact absurd hd hc | exact absurd hc hd | exact absurd hd.1 hc | exact absurd hc.1 hd | exact absurd hd.2 hc.2 | exact absurd hc.2 hd.2 | exact absurd hc.2 (Nat.ne_of_lt hd.2) | exact absurd hd.2 (Nat.ne_of_lt hc.2) | exact absurd hd.2 (Nat.not_le.mpr hc.2) | exact absurd hc.2 (Nat.not_le.mpr hd.2)
    · exact ⟨hr0, INB_mk hH hN hI hS hX hL hT (hw0.trans R_t) ho⟩
    · first | exact absurd hd hc | exact absurd hc hd | exact absurd hd.1 hc | exact absurd hc.1 hd | exact absurd hd.2 hc.2 | exact absurd hc.2 hd.2 | exact absurd hc.2 (Nat.ne_of_lt hd.2) | exact absurd hd.2 (Nat.ne_of_lt hc.2) | exact absurd hd.2 (Nat.not_le.mpr hc.2) | exact absurd hc.2 (Nat.not_le.mpr hd.2)
  · have hw' : w' = wC fr lo fa ki mo (nI P) (nI C) sty wset wfor (nI k) (-1) pfr plo pfa pki pmo ppe pch psty pwset pwfor plaw plent (fdT bytes N (fdS a b c d0 e) n.toNatClampNeg) tcodes tends (nI (N + n.toNatClampNeg)) (nI ta0) tcn tpl tok efr elo efa eki emo epe ech esty ewset ewfor elaw elent on was sat stood rose firsts waits till sitter names satOn risen pict (nI K) brs bst row brow kept asked so sz ce tx T := hw1
    refine ⟨_, hr, step_end (J0 := (JR P C k N K pict pe1 ch1 ru1 J)) (K0 := (KR fr lo fa ki mo sty wset wfor bytes cd sr wi1 ho1 ki1 mo1 so sz2 g KF)) (fun _ => rfl) hw' hT (Co.wd (m_feed bytes (JR P C k N K pict pe1 ch1 ru1 J) (KR fr lo fa ki mo sty wset wfor bytes cd sr wi1 ho1 ki1 mo1 so sz2 g KF) N hN n a b c d0 e) V_t) (fun r0 w0 hq0 => ?_)⟩
    rcases hq0 with ⟨hd, hr0, hw0⟩ | ⟨hd, hr0, hw0⟩ | ⟨hd, hr0, hw0⟩
    · first | exact absurd hd hc | exact absurd hc hd | exact absurd hd.1 hc | exact absurd hc.1 hd | exact absurd hd.2 hc.2 | exact absurd hc.2 hd.2 | exact absurd hc.2 (Nat.ne_of_lt hd.2) | exact absurd hd.2 (Nat.ne_of_lt hc.2) | exact absurd hd.2 (Nat.not_le.mpr hc.2) | exact absurd hc.2 (Nat.not_le.mpr hd.2)
    · first | exact absurd hd hc | exact absurd hc hd | exact absurd hd.1 hc | exact absurd hc.1 hd | exact absurd hd.2 hc.2 | exact absurd hc.2 hd.2 | exact absurd hc.2 (Nat.ne_of_lt hd.2) | exact absurd hd.2 (Nat.ne_of_lt hc.2) | exact absurd hd.2 (Nat.not_le.mpr hc.2) | exact absurd hc.2 (Nat.not_le.mpr hd.2)
    · exact ⟨hr0, INB_mk hH hc.2 hI hS hX hL hT (hw0.trans R_t) ho⟩
set_option maxHeartbeats 2000000 in
set_option maxRecDepth 100000 in
theorem st_force : STP Value.int INB M_X6_force M_X7_force 1 := by
  refine ⟨1, 1, 0, 0, by decide, by decide, by decide, by decide, ?_⟩
  intro w hw
  refine hw (STw Value.int INB M_X6_force M_X7_force 1 1 1 0 0) ?_
  intro fr lo fa ki mo P C k sty wset wfor pfr plo pfa pki pmo ppe pch psty pwset pwfor plaw plent bytes tcodes tends N ta0 tcn tpl tok efr elo efa eki emo epe ech esty ewset ewfor elaw elent on was sat stood rose firsts waits till sitter names satOn risen pict brs bst row brow kept asked so sz ce tx T K sy cd sr wi1 ho1 ki1 mo1 sz2 pe1 ch1 ru1 g J KF hH hN hI hS hX hL hT ho zs hz
  obtain ⟨hP, hC, hk, hmo, hwf, hki⟩ := id hH
  obtain ⟨t, rfl⟩ := zs1 hz
  refine ⟨_, Co.pre (rC7 pfr plo pfa pki pmo ppe pch psty pwset pwfor plaw plent bytes tcodes tends (nI N) (nI ta0) tcn tpl tok efr elo efa eki emo epe ech esty ewset ewfor elaw elent on was sat stood rose firsts waits till sitter names satOn risen row brow kept asked so sz ce tx T) (x_force fr lo fa ki mo (nI P) (nI C) sty wset wfor (nI k) (-1) pict (nI K) brs bst t) rfl (Nat.le_of_ble_eq_true rfl) (fun r w' h => by rcases h with ⟨-, -, h⟩ | ⟨-, -, h⟩ <;> rw [h] <;> rfl), fun r w' hq => ?_⟩
  obtain ⟨w1, hq, hw1⟩ := hq
  rcases hq with ⟨hc, hr, rfl⟩ | ⟨hc, hr, rfl⟩
  · have hw' : w' = wC fr lo fa ki mo (nI P) (nI C) sty wset wfor (nI k) (-1) pfr plo pfa pki pmo ppe pch psty pwset pwfor plaw plent bytes tcodes tends (nI N) (nI ta0) tcn tpl tok efr elo efa eki emo epe ech esty ewset ewfor elaw elent on was sat stood rose firsts waits till sitter names satOn risen pict (nI K) brs bst row brow kept asked so sz ce tx T := hw1
    refine ⟨_, hr, step_end (J0 := (JR P C k N K pict pe1 ch1 ru1 J)) (K0 := (KR fr lo fa ki mo sty wset wfor bytes cd sr wi1 ho1 ki1 mo1 so sz2 g KF)) (fun _ => rfl) hw' hT (Co.wd (m_force (wiF fr lo fa) ki mo (hoF sty wset wfor) cd sr (KF 32) (KF 33) (KF 34) (KF 35) (KF 36) (KF 37) (KF 38) (KF 39) (KF 40) (KF 41) (nI P) (nI C) (nI k) (-1) (JR P C k N K pict pe1 ch1 ru1 J) (KR fr lo fa ki mo sty wset wfor bytes cd sr wi1 ho1 ki1 mo1 so sz2 g KF) t) V_v) (fun r0 w0 hq0 => ?_)⟩
    rcases hq0 with ⟨hd, hr0, hw0⟩ | ⟨hd, hr0, hw0⟩
    · exact ⟨hr0, INB_mk hH hN hI hS hX hL hT (hw0.trans R_v) ho⟩
    · first | exact absurd hd hc | exact absurd hc hd | exact absurd hd.1 hc | exact absurd hc.1 hd | exact absurd hd.2 hc.2 | exact absurd hc.2 hd.2 | exact absurd hc.2 (Nat.ne_of_lt hd.2) | exact absurd hd.2 (Nat.ne_of_lt hc.2) | exact absurd hd.2 (Nat.not_le.mpr hc.2) | exact absurd hc.2 (Nat.not_le.mpr hd.2)
  · obtain ⟨k', hk', e⟩ := force_k (by omega) hT.1.1 hc
    subst e
    have hw' : w' = wC fr lo fa ki mo (nI P) (nI C) sty wset wfor (nI k') (-1) pfr plo pfa pki pmo ppe pch psty pwset pwfor plaw plent bytes tcodes tends (nI N) (nI ta0) tcn tpl tok efr elo efa eki emo epe ech esty ewset ewfor elaw elent on was sat stood rose firsts waits till sitter names satOn risen pict (nI K) brs bst row brow kept asked so sz ce tx T := hw1
    refine ⟨_, hr, step_end (J0 := (JR P C k N K pict pe1 ch1 ru1 J)) (K0 := (KR fr lo fa ki mo sty wset wfor bytes cd sr wi1 ho1 ki1 mo1 so sz2 g KF)) (fun _ => rfl) hw' hT (Co.wd (m_force (wiF fr lo fa) ki mo (hoF sty wset wfor) cd sr (KF 32) (KF 33) (KF 34) (KF 35) (KF 36) (KF 37) (KF 38) (KF 39) (KF 40) (KF 41) (nI P) (nI C) (nI k) (-1) (JR P C k N K pict pe1 ch1 ru1 J) (KR fr lo fa ki mo sty wset wfor bytes cd sr wi1 ho1 ki1 mo1 so sz2 g KF) (nI k')) V_v) (fun r0 w0 hq0 => ?_)⟩
    rcases hq0 with ⟨hd, hr0, hw0⟩ | ⟨hd, hr0, hw0⟩
    · first | exact absurd hd hc | exact absurd hc hd | exact absurd hd.1 hc | exact absurd hc.1 hd | exact absurd hd.2 hc.2 | exact absurd hc.2 hd.2 | exact absurd hc.2 (Nat.ne_of_lt hd.2) | exact absurd hd.2 (Nat.ne_of_lt hc.2) | exact absurd hd.2 (Nat.not_le.mpr hc.2) | exact absurd hc.2 (Nat.not_le.mpr hd.2)
    · exact ⟨hr0, INB_mk (HOK_k hH hk') hN hI hS hX hL hT (hw0.trans R_v) ho⟩
set_option maxHeartbeats 2000000 in
set_option maxRecDepth 100000 in
theorem st_asks : STP Value.int INB M_X6_asks M_X7_asks 5 := by
  refine ⟨3, 3, 0, 0, by decide, by decide, by decide, by decide, ?_⟩
  intro w hw
  refine hw (STw Value.int INB M_X6_asks M_X7_asks 5 3 3 0 0) ?_
  intro fr lo fa ki mo P C k sty wset wfor pfr plo pfa pki pmo ppe pch psty pwset pwfor plaw plent bytes tcodes tends N ta0 tcn tpl tok efr elo efa eki emo epe ech esty ewset ewfor elaw elent on was sat stood rose firsts waits till sitter names satOn risen pict brs bst row brow kept asked so sz ce tx T K sy cd sr wi1 ho1 ki1 mo1 sz2 pe1 ch1 ru1 g J KF hH hN hI hS hX hL hT ho zs hz
  obtain ⟨hP, hC, hk, hmo, hwf, hki⟩ := id hH
  obtain ⟨part, fm, ss, mi, nu, rfl⟩ := zs5 hz
  refine ⟨_, x_asks fr lo fa ki mo sty wset wfor pfr plo pfa pki pmo ppe pch psty pwset pwfor plaw plent bytes tcodes tends (nI N) (nI ta0) tcn tpl tok efr elo efa eki emo epe ech esty ewset ewfor elaw elent on was sat stood rose firsts waits till sitter names satOn risen pict brs bst row brow kept asked so sz ce tx T P C k K hP hC hk ⟨hT, rfl⟩ hX.1 part fm ss mi nu, fun r w' hq => ?_⟩
  rcases hq with ⟨hc, hr, hw'⟩ | ⟨hc, hr, y, ⟨hT1, hL1⟩, hw'⟩
  · have hw' : w' = wC fr lo fa ki mo (nI P) (nI C) sty wset wfor (nI k) (-1) pfr plo pfa pki pmo ppe pch psty pwset pwfor plaw plent bytes tcodes tends (nI N) (nI ta0) tcn tpl tok efr elo efa eki emo epe ech esty ewset ewfor elaw elent on was sat stood rose firsts waits till sitter names satOn risen pict (nI K) brs bst row brow kept asked so sz ce tx T := hw'
    refine ⟨_, hr, step_end (J0 := (JR P C k N K pict pe1 ch1 ru1 J)) (K0 := (KR fr lo fa ki mo sty wset wfor bytes cd sr wi1 ho1 ki1 mo1 so sz2 g KF)) (fun _ => rfl) hw' hT (Co.wd (m_asks (wiF fr lo fa) ki mo (hoF sty wset wfor) cd sr (KF 32) (KF 33) (KF 34) (KF 35) (KF 36) (KF 37) (KF 38) (KF 39) (KF 40) (KF 41) (nI P) (nI C) (-1) (JR P C k N K pict pe1 ch1 ru1 J) (KR fr lo fa ki mo sty wset wfor bytes cd sr wi1 ho1 ki1 mo1 so sz2 g KF) sy K k hk hL part fm ss mi nu) V_v) (fun r0 w0 hq0 => ?_)⟩
    rcases hq0 with ⟨hd, hr0, hw0⟩ | ⟨hd, hr0, n1, s1, hw0⟩
    · exact ⟨hr0, INB_mk hH hN hI hS hX hL hT (hw0.trans R_v) ho⟩
    · first | exact absurd hd hc | exact absurd hc hd | exact absurd hd.1 hc | exact absurd hc.1 hd | exact absurd hd.2 hc.2 | exact absurd hc.2 hd.2 | exact absurd hc.2 (Nat.ne_of_lt hd.2) | exact absurd hd.2 (Nat.ne_of_lt hc.2) | exact absurd hd.2 (Nat.not_le.mpr hc.2) | exact absurd hc.2 (Nat.not_le.mpr hd.2)
  · refine ⟨_, hr, step_end (J0 := (JR P C k N K pict pe1 ch1 ru1 J)) (K0 := (KR fr lo fa ki mo sty wset wfor bytes cd sr wi1 ho1 ki1 mo1 so sz2 g KF)) (fun _ => rfl) hw' hT1 (Co.wd (m_asks (wiF fr lo fa) ki mo (hoF sty wset wfor) cd sr (KF 32) (KF 33) (KF 34) (KF 35) (KF 36) (KF 37) (KF 38) (KF 39) (KF 40) (KF 41) (nI P) (nI C) (-1) (JR P C k N K pict pe1 ch1 ru1 J) (KR fr lo fa ki mo sty wset wfor bytes cd sr wi1 ho1 ki1 mo1 so sz2 g KF) sy K k hk hL part fm ss mi nu) V_v) (fun r0 w0 hq0 => ?_)⟩
    rcases hq0 with ⟨hd, hr0, hw0⟩ | ⟨hd, hr0, n1, s1, hw0⟩
    · first | exact absurd hd hc | exact absurd hc hd | exact absurd hd.1 hc | exact absurd hc.1 hd | exact absurd hd.2 hc.2 | exact absurd hc.2 hd.2 | exact absurd hc.2 (Nat.ne_of_lt hd.2) | exact absurd hd.2 (Nat.ne_of_lt hc.2) | exact absurd hd.2 (Nat.not_le.mpr hc.2) | exact absurd hc.2 (Nat.not_le.mpr hd.2)
    · exact ⟨hr0, INB_mk hH hN hI hS ⟨hX.1, by rw [hL1]; exact hX.2⟩ hL hT1 (hw0.trans R_v) ho⟩
