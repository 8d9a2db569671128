set_option maxHeartbeats 2000000 in
set_option maxRecDepth 100000 in
theorem st_image : STP Value.int INB M_X6_image M_X7_image 0 := by
  refine ⟨2, 0, 0, 0, by decide, by decide, by decide, by decide, ?_⟩
  intro w hw
  refine hw (STw Value.int INB M_X6_image M_X7_image 0 2 0 0 0) ?_
  intro fr lo fa ki mo P C k sty wset wfor pfr plo pfa pki pmo ppe pch psty pwset pwfor plaw plent bytes tcodes tends N ta0 tcn tpl tok efr elo efa eki emo epe ech esty ewset ewfor elaw elent on was sat stood rose firsts waits till sitter names satOn risen pict brs bst row brow kept asked so sz ce tx T K sy cd sr wi1 ho1 ki1 mo1 sz2 pe1 ch1 ru1 g J KF hH hN hI hS hX hL hT ho zs hz
  obtain ⟨hP, hC, hk, hmo, hwf, hki⟩ := id hH
  obtain rfl := zs0 hz
  refine ⟨_, Co.pre (rC13 bytes tcodes tends (nI N) (nI ta0) tcn tpl tok efr elo efa eki emo epe ech esty ewset ewfor elaw elent on was sat stood rose firsts waits till sitter names satOn risen row brow kept asked so sz ce tx T) (x_image fr lo fa ki mo (nI P) (nI C) sty wset wfor (nI k) (-1) pfr plo pfa pki pmo ppe pch psty pwset pwfor plaw plent pict (nI K) brs bst) rfl (Nat.le_of_ble_eq_true rfl) (fun r w' h => by first | (rw [h.2]; done) | (rw [h.2]; rfl)), fun r w' hq => ?_⟩
  obtain ⟨w1, hq, hw1⟩ := hq
  obtain ⟨hr, rfl⟩ := hq
  have hw' : w' = wC fr lo fa ki mo (nI P) (nI C) sty wset wfor (nI k) (-1) fr lo fa ki mo (nI P) (nI C) sty wset wfor (nI k) (-1) bytes tcodes tends (nI N) (nI ta0) tcn tpl tok efr elo efa eki emo epe ech esty ewset ewfor elaw elent on was sat stood rose firsts waits till sitter names satOn risen 1 (nI K) brs bst row brow kept asked so sz ce tx T := hw1
  refine ⟨_, hr, step_end (J0 := (JR P C k N K pict pe1 ch1 ru1 J)) (K0 := (KR fr lo fa ki mo sty wset wfor bytes cd sr wi1 ho1 ki1 mo1 so sz2 g KF)) (fun _ => rfl) hw' hT (Co.wd (m_image (wiF fr lo fa) ki mo (hoF sty wset wfor) wi1 ho1 (kmF ki1 mo1) (nI P) (nI C) (nI k) pict pe1 ch1 ru1 (JR P C k N K pict pe1 ch1 ru1 J) (KR fr lo fa ki mo sty wset wfor bytes cd sr wi1 ho1 ki1 mo1 so sz2 g KF)) V_i) (fun r0 w0 hq0 => ?_)⟩
  obtain ⟨hr0, hw0⟩ := hq0
  exact ⟨hr0, INB_mk hH hN (Or.inr ⟨P, C, k, ⟨rfl, rfl, rfl, rfl⟩, ⟨rfl, rfl, rfl⟩, ⟨rfl, rfl, rfl, rfl⟩, hH⟩) hS hX hL hT (hw0.trans R_i) ho⟩
set_option maxHeartbeats 2000000 in
set_option maxRecDepth 100000 in
theorem st_back : STP Value.int INB M_X6_back M_X7_back 0 := by
  refine ⟨2, 0, 0, 0, by decide, by decide, by decide, by decide, ?_⟩
  intro w hw
  refine hw (STw Value.int INB M_X6_back M_X7_back 0 2 0 0 0) ?_
  intro fr lo fa ki mo P C k sty wset wfor pfr plo pfa pki pmo ppe pch psty pwset pwfor plaw plent bytes tcodes tends N ta0 tcn tpl tok efr elo efa eki emo epe ech esty ewset ewfor elaw elent on was sat stood rose firsts waits till sitter names satOn risen pict brs bst row brow kept asked so sz ce tx T K sy cd sr wi1 ho1 ki1 mo1 sz2 pe1 ch1 ru1 g J KF hH hN hI hS hX hL hT ho zs hz
  obtain ⟨hP, hC, hk, hmo, hwf, hki⟩ := id hH
  obtain rfl := zs0 hz
  refine ⟨_, Co.pre (rC13 bytes tcodes tends (nI N) (nI ta0) tcn tpl tok efr elo efa eki emo epe ech esty ewset ewfor elaw elent on was sat stood rose firsts waits till sitter names satOn risen row brow kept asked so sz ce tx T) (x_back fr lo fa ki mo (nI P) (nI C) sty wset wfor (nI k) (-1) pfr plo pfa pki pmo ppe pch psty pwset pwfor plaw plent pict (nI K) brs bst) rfl (Nat.le_of_ble_eq_true rfl) (fun r w' h => by rcases h with ⟨-, -, h⟩ | ⟨-, -, h⟩ <;> rw [h] <;> rfl), fun r w' hq => ?_⟩
  obtain ⟨w1, hq, hw1⟩ := hq
  rcases hq with ⟨hc, hr, rfl⟩ | ⟨hc, hr, rfl⟩
  · have hw' : w' = wC fr lo fa ki mo (nI P) (nI C) sty wset wfor (nI k) (-1) pfr plo pfa pki pmo ppe pch psty pwset pwfor plaw plent bytes tcodes tends (nI N) (nI ta0) tcn tpl tok efr elo efa eki emo epe ech esty ewset ewfor elaw elent on was sat stood rose firsts waits till sitter names satOn risen pict (nI K) brs bst row brow kept asked so sz ce tx T := hw1
    refine ⟨_, hr, step_end (J0 := (JR P C k N K pict pe1 ch1 ru1 J)) (K0 := (KR fr lo fa ki mo sty wset wfor bytes cd sr wi1 ho1 ki1 mo1 so sz2 g KF)) (fun _ => rfl) hw' hT (Co.wd (m_back (wiF fr lo fa) ki mo (hoF sty wset wfor) wi1 ho1 (nI P) (nI C) (nI k) pict pe1 ch1 ru1 (JR P C k N K pict pe1 ch1 ru1 J) (KR fr lo fa ki mo sty wset wfor bytes cd sr wi1 ho1 ki1 mo1 so sz2 g KF) ki1 mo1) V_i) (fun r0 w0 hq0 => ?_)⟩
    rcases hq0 with ⟨hd, hr0, hw0⟩ | ⟨hd, hr0, hw0⟩
    · exact ⟨hr0, INB_mk hH hN hI hS hX hL hT (hw0.trans R_i) ho⟩
    · first | exact absurd hd hc | exact absurd hc hd | exact absurd hd.1 hc | exact absurd hc.1 hd | exact absurd hd.2 hc.2 | exact absurd hc.2 hd.2 | exact absurd hc.2 (Nat.ne_of_lt hd.2) | exact absurd hd.2 (Nat.ne_of_lt hc.2) | exact absurd hd.2 (Nat.not_le.mpr hc.2) | exact absurd hc.2 (Nat.not_le.mpr hd.2)
  · rcases hI with hI | ⟨P1, C1, k1, ⟨e1, e2, e3, e4⟩, ⟨f1, f2, f3⟩, ⟨g1, g2, g3, g4⟩, hH1⟩
    · exact absurd hI hc
    subst e1 e2 e3 e4 f1 f2 f3 g1 g2 g3 g4
    have hw' : w' = wC pfr plo pfa pki pmo (nI P1) (nI C1) psty pwset pwfor (nI k1) (-1) pfr plo pfa pki pmo (nI P1) (nI C1) psty pwset pwfor (nI k1) (-1) bytes tcodes tends (nI N) (nI ta0) tcn tpl tok efr elo efa eki emo epe ech esty ewset ewfor elaw elent on was sat stood rose firsts waits till sitter names satOn risen pict (nI K) brs bst row brow kept asked so sz ce tx T := hw1
    refine ⟨_, hr, step_end (J0 := (JR P C k N K pict (nI P1) (nI C1) (nI k1) J)) (K0 := (KR fr lo fa ki mo sty wset wfor bytes cd sr (wiF pfr plo pfa) (hoF psty pwset pwfor) pki pmo so sz2 g KF)) (fun _ => rfl) hw' hT (Co.wd (m_back (wiF fr lo fa) ki mo (hoF sty wset wfor) (wiF pfr plo pfa) (hoF psty pwset pwfor) (nI P) (nI C) (nI k) pict (nI P1) (nI C1) (nI k1) (JR P C k N K pict (nI P1) (nI C1) (nI k1) J) (KR fr lo fa ki mo sty wset wfor bytes cd sr (wiF pfr plo pfa) (hoF psty pwset pwfor) pki pmo so sz2 g KF) pki pmo) V_i) (fun r0 w0 hq0 => ?_)⟩
    rcases hq0 with ⟨hd, hr0, hw0⟩ | ⟨hd, hr0, hw0⟩
    · first | exact absurd hd hc | exact absurd hc hd | exact absurd hd.1 hc | exact absurd hc.1 hd | exact absurd hd.2 hc.2 | exact absurd hc.2 hd.2 | exact absurd hc.2 (Nat.ne_of_lt hd.2) | exact absurd hd.2 (Nat.ne_of_lt hc.2) | exact absurd hd.2 (Nat.not_le.mpr hc.2) | exact absurd hc.2 (Nat.not_le.mpr hd.2)
    · exact ⟨hr0, INB_mk hH1 hN (Or.inr ⟨P1, C1, k1, ⟨rfl, rfl, rfl, rfl⟩, ⟨rfl, rfl, rfl⟩, ⟨rfl, rfl, rfl, rfl⟩, hH1⟩) hS hX hL hT (hw0.trans R_i) ho⟩
