set_option maxHeartbeats 2000000 in
set_option maxRecDepth 100000 in
theorem st_cell : STP Value.int INB M_X6_cell M_X7_cell 3 := by
  refine ⟨2, 1, 0, 0, by decide, by decide, by decide, by decide, ?_⟩
  intro w hw
  refine hw (STw Value.int INB M_X6_cell M_X7_cell 3 2 1 0 0) ?_
  intro fr lo fa ki mo P C k sty wset wfor pfr plo pfa pki pmo ppe pch psty pwset pwfor plaw plent bytes tcodes tends N ta0 tcn tpl tok efr elo efa eki emo epe ech esty ewset ewfor elaw elent on was sat stood rose firsts waits till sitter names satOn risen pict brs bst row brow kept asked so sz ce tx T K sy cd sr wi1 ho1 ki1 mo1 sz2 pe1 ch1 ru1 g J KF hH hN hI hS hX hL hT ho zs hz
  obtain ⟨hP, hC, hk, hmo, hwf, hki⟩ := id hH
  obtain ⟨ss, ii, v, rfl⟩ := zs3 hz
  refine ⟨_, x_cell (L := 0) fr lo fa ki mo (nI P) (nI C) sty wset wfor (nI k) (-1) pfr plo pfa pki pmo ppe pch psty pwset pwfor plaw plent bytes tcodes tends (nI N) (nI ta0) tcn tpl tok efr elo efa eki emo epe ech esty ewset ewfor elaw elent on was sat stood rose firsts waits till sitter names satOn risen pict (nI K) brs bst row brow kept asked so sz ce tx T hS.1 ss ii v, fun r w' hq => ?_⟩
  rcases hq with ⟨hc, hr, hw'⟩ | ⟨hc, hr, hw'⟩ | ⟨hc, hr, hw'⟩ | ⟨hc, hr, hw'⟩
  · have hw' : w' = wC fr lo fa ki mo (nI P) (nI C) sty wset wfor (nI k) (-1) pfr plo pfa pki pmo ppe pch psty pwset pwfor plaw plent bytes tcodes tends (nI N) (nI ta0) tcn tpl tok efr elo efa eki emo epe ech esty ewset ewfor elaw elent on was sat stood rose firsts waits till sitter names satOn risen pict (nI K) brs bst row brow kept asked so sz ce tx T := hw'
    refine ⟨_, hr, step_end (J0 := (JR P C k N K pict pe1 ch1 ru1 J)) (K0 := (KR fr lo fa ki mo sty wset wfor bytes cd sr wi1 ho1 ki1 mo1 so sz2 g KF)) (fun _ => rfl) hw' hT (Co.wd (m_cell so sz2 (JR P C k N K pict pe1 ch1 ru1 J) (KR fr lo fa ki mo sty wset wfor bytes cd sr wi1 ho1 ki1 mo1 so sz2 g KF) g hS.2.1 ss ii v) V_s) (fun r0 w0 hq0 => ?_)⟩
    rcases hq0 with ⟨hd, hr0, hw0⟩ | ⟨hd, hr0, hw0⟩ | ⟨hd, hr0, hw0⟩ | ⟨hd, hr0, hw0⟩
    · exact ⟨hr0, INB_mk hH hN hI hS hX hL hT (hw0.trans R_s) ho⟩
    · exact absurd hd.1 hc
    · exact absurd hd.1 hc
    · exact absurd hd.1 hc
  · have hw' : w' = wC fr lo fa ki mo (nI P) (nI C) sty wset wfor (nI k) (-1) pfr plo pfa pki pmo ppe pch psty pwset pwfor plaw plent bytes tcodes tends (nI N) (nI ta0) tcn tpl tok efr elo efa eki emo epe ech esty ewset ewfor elaw elent on was sat stood rose firsts waits till sitter names satOn risen pict (nI K) brs bst row brow kept asked so sz ce tx T := hw'
    refine ⟨_, hr, step_end (J0 := (JR P C k N K pict pe1 ch1 ru1 J)) (K0 := (KR fr lo fa ki mo sty wset wfor bytes cd sr wi1 ho1 ki1 mo1 so sz2 g KF)) (fun _ => rfl) hw' hT (Co.wd (m_cell so sz2 (JR P C k N K pict pe1 ch1 ru1 J) (KR fr lo fa ki mo sty wset wfor bytes cd sr wi1 ho1 ki1 mo1 so sz2 g KF) g hS.2.1 ss ii v) V_s) (fun r0 w0 hq0 => ?_)⟩
    rcases hq0 with ⟨hd, hr0, hw0⟩ | ⟨hd, hr0, hw0⟩ | ⟨hd, hr0, hw0⟩ | ⟨hd, hr0, hw0⟩
    · exact absurd hc.1 hd
    · exact ⟨hr0, INB_mk hH hN hI hS hX hL hT (hw0.trans R_s) ho⟩
    · exact absurd hc.2 hd.2.1
    · exact absurd hc.2 hd.2.1
  · have hw' : w' = wC fr lo fa ki mo (nI P) (nI C) sty wset wfor (nI k) (-1) pfr plo pfa pki pmo ppe pch psty pwset pwfor plaw plent bytes tcodes tends (nI N) (nI ta0) tcn tpl tok efr elo efa eki emo epe ech esty ewset ewfor elaw elent on was sat stood rose firsts waits till sitter names satOn risen pict (nI K) brs bst row brow kept asked so sz ce tx T := hw'
    refine ⟨_, hr, step_end (J0 := (JR P C k N K pict pe1 ch1 ru1 J)) (K0 := (KR fr lo fa ki mo sty wset wfor bytes cd sr wi1 ho1 ki1 mo1 so sz2 g KF)) (fun _ => rfl) hw' hT (Co.wd (m_cell so sz2 (JR P C k N K pict pe1 ch1 ru1 J) (KR fr lo fa ki mo sty wset wfor bytes cd sr wi1 ho1 ki1 mo1 so sz2 g KF) g hS.2.1 ss ii v) V_s) (fun r0 w0 hq0 => ?_)⟩
    rcases hq0 with ⟨hd, hr0, hw0⟩ | ⟨hd, hr0, hw0⟩ | ⟨hd, hr0, hw0⟩ | ⟨hd, hr0, hw0⟩
    · exact absurd hc.1 hd
    · exact absurd hd.2 hc.2.1
    · exact ⟨hr0, INB_mk hH hN hI hS hX hL hT (hw0.trans R_s) ho⟩
    · exact absurd ((has1_iff (hS.1 _ (mIn3 hc.1))).mpr (by rw [← (hS.2.2 _ (mIn3 hc.1) hc.2.1).1]; exact hd.2.2)) hc.2.2
  · have hw' : w' = wC fr lo fa ki mo (nI P) (nI C) sty wset wfor (nI k) (-1) pfr plo pfa pki pmo ppe pch psty pwset pwfor plaw plent bytes tcodes tends (nI N) (nI ta0) tcn tpl tok efr elo efa eki emo epe ech esty ewset ewfor elaw elent on was sat stood rose firsts waits till sitter names satOn risen pict (nI K) brs bst row brow kept asked so sz (va_up ce ss.toNatClampNeg (upd (ce ss.toNatClampNeg) ii.toNatClampNeg (shCut (so ss.toNatClampNeg) v))) tx T := hw'
    refine ⟨_, hr, step_end (J0 := (JR P C k N K pict pe1 ch1 ru1 J)) (K0 := (KR fr lo fa ki mo sty wset wfor bytes cd sr wi1 ho1 ki1 mo1 so sz2 g KF)) (fun _ => rfl) hw' hT (Co.wd (m_cell so sz2 (JR P C k N K pict pe1 ch1 ru1 J) (KR fr lo fa ki mo sty wset wfor bytes cd sr wi1 ho1 ki1 mo1 so sz2 g KF) g hS.2.1 ss ii v) V_s) (fun r0 w0 hq0 => ?_)⟩
    rcases hq0 with ⟨hd, hr0, hw0⟩ | ⟨hd, hr0, hw0⟩ | ⟨hd, hr0, hw0⟩ | ⟨hd, hr0, hw0⟩
    · exact absurd hc.1 hd
    · exact absurd hd.2 hc.2.1
    · exact absurd (by rw [(hS.2.2 _ (mIn3 hc.1) hc.2.1).1]; exact (has1_iff (hS.1 _ (mIn3 hc.1))).mp hc.2.2) hd.2.2
    · exact ⟨hr0, INB_mk hH hN hI (SHR_cell hS (fun h4 hn j hj => upd_c ((hS.2.2 _ h4 hn).2 j hj) rfl)) hX hL hT (hw0.trans R_s) ho⟩
set_option maxHeartbeats 2000000 in
set_option maxRecDepth 100000 in
theorem st_copy : STP Value.int INB M_X6_copy M_X7_copy 5 := by
  refine ⟨2, 1, 0, 0, by decide, by decide, by decide, by decide, ?_⟩
  intro w hw
  refine hw (STw Value.int INB M_X6_copy M_X7_copy 5 2 1 0 0) ?_
  intro fr lo fa ki mo P C k sty wset wfor pfr plo pfa pki pmo ppe pch psty pwset pwfor plaw plent bytes tcodes tends N ta0 tcn tpl tok efr elo efa eki emo epe ech esty ewset ewfor elaw elent on was sat stood rose firsts waits till sitter names satOn risen pict brs bst row brow kept asked so sz ce tx T K sy cd sr wi1 ho1 ki1 mo1 sz2 pe1 ch1 ru1 g J KF hH hN hI hS hX hL hT ho zs hz
  obtain ⟨hP, hC, hk, hmo, hwf, hki⟩ := id hH
  obtain ⟨ss, ii, oo, jj, nn, rfl⟩ := zs5 hz
  refine ⟨_, x_copy (L := 0) fr lo fa ki mo (nI P) (nI C) sty wset wfor (nI k) (-1) pfr plo pfa pki pmo ppe pch psty pwset pwfor plaw plent bytes tcodes tends (nI N) (nI ta0) tcn tpl tok efr elo efa eki emo epe ech esty ewset ewfor elaw elent on was sat stood rose firsts waits till sitter names satOn risen pict (nI K) brs bst row brow kept asked so sz ce tx T hS.1 ss ii oo jj nn, fun r w' hq => ?_⟩
  rcases hq with ⟨hc, hr, hw'⟩ | ⟨hc, hr, hw'⟩ | ⟨hc, hr, hw'⟩ | ⟨hc, hr, hw'⟩ | ⟨hc, hr, hw'⟩
  · have hw' : w' = wC fr lo fa ki mo (nI P) (nI C) sty wset wfor (nI k) (-1) pfr plo pfa pki pmo ppe pch psty pwset pwfor plaw plent bytes tcodes tends (nI N) (nI ta0) tcn tpl tok efr elo efa eki emo epe ech esty ewset ewfor elaw elent on was sat stood rose firsts waits till sitter names satOn risen pict (nI K) brs bst row brow kept asked so sz ce tx T := hw'
    refine ⟨_, hr, step_end (J0 := (JR P C k N K pict pe1 ch1 ru1 J)) (K0 := (KR fr lo fa ki mo sty wset wfor bytes cd sr wi1 ho1 ki1 mo1 so sz2 g KF)) (fun _ => rfl) hw' hT (Co.wd (m_copy so sz2 (JR P C k N K pict pe1 ch1 ru1 J) (KR fr lo fa ki mo sty wset wfor bytes cd sr wi1 ho1 ki1 mo1 so sz2 g KF) g hS.2.1 ss ii oo jj nn) V_s) (fun r0 w0 hq0 => ?_)⟩
    rcases hq0 with ⟨hd, hr0, hw0⟩ | ⟨hd, hr0, hw0⟩ | ⟨hd, hr0, hw0⟩ | ⟨hd, hr0, hw0⟩ | ⟨hd, hr0, hw0⟩
    · exact ⟨hr0, INB_mk hH hN hI hS hX hL hT (hw0.trans R_s) ho⟩
    · exact absurd hd.1 hc
    · exact absurd hd.1 hc
    · exact absurd hd.1 hc
    · exact absurd hd.1 hc
  · have hw' : w' = wC fr lo fa ki mo (nI P) (nI C) sty wset wfor (nI k) (-1) pfr plo pfa pki pmo ppe pch psty pwset pwfor plaw plent bytes tcodes tends (nI N) (nI ta0) tcn tpl tok efr elo efa eki emo epe ech esty ewset ewfor elaw elent on was sat stood rose firsts waits till sitter names satOn risen pict (nI K) brs bst row brow kept asked so sz ce tx T := hw'
    refine ⟨_, hr, step_end (J0 := (JR P C k N K pict pe1 ch1 ru1 J)) (K0 := (KR fr lo fa ki mo sty wset wfor bytes cd sr wi1 ho1 ki1 mo1 so sz2 g KF)) (fun _ => rfl) hw' hT (Co.wd (m_copy so sz2 (JR P C k N K pict pe1 ch1 ru1 J) (KR fr lo fa ki mo sty wset wfor bytes cd sr wi1 ho1 ki1 mo1 so sz2 g KF) g hS.2.1 ss ii oo jj nn) V_s) (fun r0 w0 hq0 => ?_)⟩
    rcases hq0 with ⟨hd, hr0, hw0⟩ | ⟨hd, hr0, hw0⟩ | ⟨hd, hr0, hw0⟩ | ⟨hd, hr0, hw0⟩ | ⟨hd, hr0, hw0⟩
    · exact absurd hc.1 hd
    · exact ⟨hr0, INB_mk hH hN hI hS hX hL hT (hw0.trans R_s) ho⟩
    · exact absurd hc.2 hd.2.1
    · exact absurd hc.2 hd.2.1
    · exact absurd hc.2 hd.2.1
  · have hw' : w' = wC fr lo fa ki mo (nI P) (nI C) sty wset wfor (nI k) (-1) pfr plo pfa pki pmo ppe pch psty pwset pwfor plaw plent bytes tcodes tends (nI N) (nI ta0) tcn tpl tok efr elo efa eki emo epe ech esty ewset ewfor elaw elent on was sat stood rose firsts waits till sitter names satOn risen pict (nI K) brs bst row brow kept asked so sz ce tx T := hw'
    refine ⟨_, hr, step_end (J0 := (JR P C k N K pict pe1 ch1 ru1 J)) (K0 := (KR fr lo fa ki mo sty wset wfor bytes cd sr wi1 ho1 ki1 mo1 so sz2 g KF)) (fun _ => rfl) hw' hT (Co.wd (m_copy so sz2 (JR P C k N K pict pe1 ch1 ru1 J) (KR fr lo fa ki mo sty wset wfor bytes cd sr wi1 ho1 ki1 mo1 so sz2 g KF) g hS.2.1 ss ii oo jj nn) V_s) (fun r0 w0 hq0 => ?_)⟩
    rcases hq0 with ⟨hd, hr0, hw0⟩ | ⟨hd, hr0, hw0⟩ | ⟨hd, hr0, hw0⟩ | ⟨hd, hr0, hw0⟩ | ⟨hd, hr0, hw0⟩
    · exact absurd hc.1 hd
    · exact absurd hd.2 hc.2.1
    · exact ⟨hr0, INB_mk hH hN hI hS hX hL hT (hw0.trans R_s) ho⟩
    · exact absurd hd.2.2.1 hc.2.2
    · exact absurd hd.2.2.1 hc.2.2
  · have hw' : w' = wC fr lo fa ki mo (nI P) (nI C) sty wset wfor (nI k) (-1) pfr plo pfa pki pmo ppe pch psty pwset pwfor plaw plent bytes tcodes tends (nI N) (nI ta0) tcn tpl tok efr elo efa eki emo epe ech esty ewset ewfor elaw elent on was sat stood rose firsts waits till sitter names satOn risen pict (nI K) brs bst row brow kept asked so sz ce tx T := hw'
    refine ⟨_, hr, step_end (J0 := (JR P C k N K pict pe1 ch1 ru1 J)) (K0 := (KR fr lo fa ki mo sty wset wfor bytes cd sr wi1 ho1 ki1 mo1 so sz2 g KF)) (fun _ => rfl) hw' hT (Co.wd (m_copy so sz2 (JR P C k N K pict pe1 ch1 ru1 J) (KR fr lo fa ki mo sty wset wfor bytes cd sr wi1 ho1 ki1 mo1 so sz2 g KF) g hS.2.1 ss ii oo jj nn) V_s) (fun r0 w0 hq0 => ?_)⟩
    rcases hq0 with ⟨hd, hr0, hw0⟩ | ⟨hd, hr0, hw0⟩ | ⟨hd, hr0, hw0⟩ | ⟨hd, hr0, hw0⟩ | ⟨hd, hr0, hw0⟩
    · exact absurd hc.1 hd
    · exact absurd hd.2 hc.2.1
    · exact absurd hc.2.2.1 hd.2.2
    · exact ⟨hr0, INB_mk hH hN hI hS hX hL hT (hw0.trans R_s) ho⟩
    · exact absurd (cp_iff.mpr (by rw [← (hS.2.2 _ (mIn3 hc.1.1) (fun e => hc.2.1 (Or.inl e))).1, ← (hS.2.2 _ (mIn3 hc.1.2) (fun e => hc.2.1 (Or.inr e))).1]; exact hd.2.2.2)) hc.2.2.2
  · have hw' : w' = wC fr lo fa ki mo (nI P) (nI C) sty wset wfor (nI k) (-1) pfr plo pfa pki pmo ppe pch psty pwset pwfor plaw plent bytes tcodes tends (nI N) (nI ta0) tcn tpl tok efr elo efa eki emo epe ech esty ewset ewfor elaw elent on was sat stood rose firsts waits till sitter names satOn risen pict (nI K) brs bst row brow kept asked so sz (va_up ce oo.toNatClampNeg (va_cpy (ce ss.toNatClampNeg) (ce oo.toNatClampNeg) ii.toNatClampNeg jj.toNatClampNeg nn.toNatClampNeg)) tx T := hw'
    refine ⟨_, hr, step_end (J0 := (JR P C k N K pict pe1 ch1 ru1 J)) (K0 := (KR fr lo fa ki mo sty wset wfor bytes cd sr wi1 ho1 ki1 mo1 so sz2 g KF)) (fun _ => rfl) hw' hT (Co.wd (m_copy so sz2 (JR P C k N K pict pe1 ch1 ru1 J) (KR fr lo fa ki mo sty wset wfor bytes cd sr wi1 ho1 ki1 mo1 so sz2 g KF) g hS.2.1 ss ii oo jj nn) V_s) (fun r0 w0 hq0 => ?_)⟩
    rcases hq0 with ⟨hd, hr0, hw0⟩ | ⟨hd, hr0, hw0⟩ | ⟨hd, hr0, hw0⟩ | ⟨hd, hr0, hw0⟩ | ⟨hd, hr0, hw0⟩
    · exact absurd hc.1 hd
    · exact absurd hd.2 hc.2.1
    · exact absurd hc.2.2.1 hd.2.2
    · exact absurd (by rw [(hS.2.2 _ (mIn3 hc.1.1) (fun e => hc.2.1 (Or.inl e))).1, (hS.2.2 _ (mIn3 hc.1.2) (fun e => hc.2.1 (Or.inr e))).1]; exact cp_iff.mp hc.2.2.2) hd.2.2.2
    · exact ⟨hr0, INB_mk hH hN hI (SHR_cell hS (fun _ _ => cpy_cg (hS.2.2 _ (mIn3 hc.1.1) (fun e => hc.2.1 (Or.inl e))).2 (hS.2.2 _ (mIn3 hc.1.2) (fun e => hc.2.1 (Or.inr e))).2 (has_bd (hS.1 _ (mIn3 hc.1.1)) hc.2.2.2.1))) hX hL hT (hw0.trans R_s) ho⟩
set_option maxHeartbeats 2000000 in
set_option maxRecDepth 100000 in
theorem st_onesBy : STP Value.int INB M_X6_onesBy M_X7_onesBy 4 := by
  refine ⟨4, 3, 0, 0, by decide, by decide, by decide, by decide, ?_⟩
  intro w hw
  refine hw (STw Value.int INB M_X6_onesBy M_X7_onesBy 4 4 3 0 0) ?_
  intro fr lo fa ki mo P C k sty wset wfor pfr plo pfa pki pmo ppe pch psty pwset pwfor plaw plent bytes tcodes tends N ta0 tcn tpl tok efr elo efa eki emo epe ech esty ewset ewfor elaw elent on was sat stood rose firsts waits till sitter names satOn risen pict brs bst row brow kept asked so sz ce tx T K sy cd sr wi1 ho1 ki1 mo1 sz2 pe1 ch1 ru1 g J KF hH hN hI hS hX hL hT ho zs hz
  obtain ⟨hP, hC, hk, hmo, hwf, hki⟩ := id hH
  obtain ⟨ss, sort, fm, nn, rfl⟩ := zs4 hz
  refine ⟨_, x_onesBy (L := 0) fr lo fa ki mo (nI C) sty wset wfor (nI k) (-1) pfr plo pfa pki pmo ppe pch psty pwset pwfor plaw plent bytes tcodes tends (nI N) (nI ta0) tcn tpl tok efr elo efa eki emo epe ech esty ewset ewfor elaw elent on was sat stood rose firsts waits till sitter names satOn risen pict (nI K) brs bst row brow kept asked so sz ce tx T P hP hS.1 ss sort fm nn, fun r w' hq => ?_⟩
  rcases hq with ⟨hc, hr, hw'⟩ | ⟨hc, hr, hw'⟩ | ⟨hc, hr, hw'⟩ | ⟨hc, hr, hw'⟩
  · have hw' : w' = wC fr lo fa ki mo (nI P) (nI C) sty wset wfor (nI k) (-1) pfr plo pfa pki pmo ppe pch psty pwset pwfor plaw plent bytes tcodes tends (nI N) (nI ta0) tcn tpl tok efr elo efa eki emo epe ech esty ewset ewfor elaw elent on was sat stood rose firsts waits till sitter names satOn risen pict (nI K) brs bst row brow kept asked so sz ce tx T := hw'
    refine ⟨_, hr, step_end (J0 := (JR P C k N K pict pe1 ch1 ru1 J)) (K0 := (KR fr lo fa ki mo sty wset wfor bytes cd sr wi1 ho1 ki1 mo1 so sz2 g KF)) (fun _ => rfl) hw' hT (Co.wd (m_onesBy ki mo (hoF sty wset wfor) cd sr so sz2 (KF 32) (KF 33) (KF 34) (KF 35) (KF 36) (KF 37) (KF 38) (KF 39) (KF 40) (KF 41) (nI C) (nI k) (-1) (JR P C k N K pict pe1 ch1 ru1 J) (KR fr lo fa ki mo sty wset wfor bytes cd sr wi1 ho1 ki1 mo1 so sz2 g KF) g fr lo fa P hP hS.2.1 ss sort fm nn) V_f) (fun r0 w0 hq0 => ?_)⟩
    rcases hq0 with ⟨hd, hr0, hw0⟩ | ⟨hd, hr0, hw0⟩ | ⟨hd, hr0, hw0⟩ | ⟨hd, hr0, hw0⟩
    · exact ⟨hr0, INB_mk hH hN hI hS hX hL hT (hw0.trans R_f) ho⟩
    · exact absurd hd.1 hc
    · exact absurd hd.1 hc
    · exact absurd hd.1 hc
  · have hw' : w' = wC fr lo fa ki mo (nI P) (nI C) sty wset wfor (nI k) (-1) pfr plo pfa pki pmo ppe pch psty pwset pwfor plaw plent bytes tcodes tends (nI N) (nI ta0) tcn tpl tok efr elo efa eki emo epe ech esty ewset ewfor elaw elent on was sat stood rose firsts waits till sitter names satOn risen pict (nI K) brs bst row brow kept asked so sz ce tx T := hw'
    refine ⟨_, hr, step_end (J0 := (JR P C k N K pict pe1 ch1 ru1 J)) (K0 := (KR fr lo fa ki mo sty wset wfor bytes cd sr wi1 ho1 ki1 mo1 so sz2 g KF)) (fun _ => rfl) hw' hT (Co.wd (m_onesBy ki mo (hoF sty wset wfor) cd sr so sz2 (KF 32) (KF 33) (KF 34) (KF 35) (KF 36) (KF 37) (KF 38) (KF 39) (KF 40) (KF 41) (nI C) (nI k) (-1) (JR P C k N K pict pe1 ch1 ru1 J) (KR fr lo fa ki mo sty wset wfor bytes cd sr wi1 ho1 ki1 mo1 so sz2 g KF) g fr lo fa P hP hS.2.1 ss sort fm nn) V_f) (fun r0 w0 hq0 => ?_)⟩
    rcases hq0 with ⟨hd, hr0, hw0⟩ | ⟨hd, hr0, hw0⟩ | ⟨hd, hr0, hw0⟩ | ⟨hd, hr0, hw0⟩
    · exact absurd hc.1 hd
    · exact ⟨hr0, INB_mk hH hN hI hS hX hL hT (hw0.trans R_f) ho⟩
    · exact absurd hc.2 hd.2.1
    · exact absurd hc.2 hd.2.1
  · have hw' : w' = wC fr lo fa ki mo (nI P) (nI C) sty wset wfor (nI k) (-1) pfr plo pfa pki pmo ppe pch psty pwset pwfor plaw plent bytes tcodes tends (nI N) (nI ta0) tcn tpl tok efr elo efa eki emo epe ech esty ewset ewfor elaw elent on was sat stood rose firsts waits till sitter names satOn risen pict (nI K) brs bst row brow kept asked so sz ce tx T := hw'
    refine ⟨_, hr, step_end (J0 := (JR P C k N K pict pe1 ch1 ru1 J)) (K0 := (KR fr lo fa ki mo sty wset wfor bytes cd sr wi1 ho1 ki1 mo1 so sz2 g KF)) (fun _ => rfl) hw' hT (Co.wd (m_onesBy ki mo (hoF sty wset wfor) cd sr so sz2 (KF 32) (KF 33) (KF 34) (KF 35) (KF 36) (KF 37) (KF 38) (KF 39) (KF 40) (KF 41) (nI C) (nI k) (-1) (JR P C k N K pict pe1 ch1 ru1 J) (KR fr lo fa ki mo sty wset wfor bytes cd sr wi1 ho1 ki1 mo1 so sz2 g KF) g fr lo fa P hP hS.2.1 ss sort fm nn) V_f) (fun r0 w0 hq0 => ?_)⟩
    rcases hq0 with ⟨hd, hr0, hw0⟩ | ⟨hd, hr0, hw0⟩ | ⟨hd, hr0, hw0⟩ | ⟨hd, hr0, hw0⟩
    · exact absurd hc.1 hd
    · exact absurd hd.2 hc.2.1
    · exact ⟨hr0, INB_mk hH hN hI hS hX hL hT (hw0.trans R_f) ho⟩
    · exact absurd hd.2.2 hc.2.2
  · have hw' : w' = wC ((obR (ce ss.toNatClampNeg) (sz ss.toNatClampNeg) fm nn.toNatClampNeg 0 (fr, lo, fa, P) 0).2.1) ((obR (ce ss.toNatClampNeg) (sz ss.toNatClampNeg) fm nn.toNatClampNeg 0 (fr, lo, fa, P) 0).2.2.1) ((obR (ce ss.toNatClampNeg) (sz ss.toNatClampNeg) fm nn.toNatClampNeg 0 (fr, lo, fa, P) 0).2.2.2.1) ki mo (nI (obR (ce ss.toNatClampNeg) (sz ss.toNatClampNeg) fm nn.toNatClampNeg 0 (fr, lo, fa, P) 0).2.2.2.2) (nI C) sty wset wfor (nI k) (-1) pfr plo pfa pki pmo ppe pch psty pwset pwfor plaw plent bytes tcodes tends (nI N) (nI ta0) tcn tpl tok efr elo efa eki emo epe ech esty ewset ewfor elaw elent on was sat stood rose firsts waits till sitter names satOn risen pict (nI K) brs bst row brow kept asked so sz ce tx T := hw'
    refine ⟨_, hr, step_end (J0 := (JR P C k N K pict pe1 ch1 ru1 J)) (K0 := (KR fr lo fa ki mo sty wset wfor bytes cd sr wi1 ho1 ki1 mo1 so sz2 g KF)) (fun _ => rfl) hw' hT (Co.wd (m_onesBy ki mo (hoF sty wset wfor) cd sr so sz2 (KF 32) (KF 33) (KF 34) (KF 35) (KF 36) (KF 37) (KF 38) (KF 39) (KF 40) (KF 41) (nI C) (nI k) (-1) (JR P C k N K pict pe1 ch1 ru1 J) (KR fr lo fa ki mo sty wset wfor bytes cd sr wi1 ho1 ki1 mo1 so sz2 g KF) g fr lo fa P hP hS.2.1 ss sort fm nn) V_f) (fun r0 w0 hq0 => ?_)⟩
    rcases hq0 with ⟨hd, hr0, hw0⟩ | ⟨hd, hr0, hw0⟩ | ⟨hd, hr0, hw0⟩ | ⟨hd, hr0, hw0⟩
    · exact absurd hc.1 hd
    · exact absurd hd.2 hc.2.1
    · exact absurd hc.2.2 hd.2.2
    · have e : obR (g ss.toNatClampNeg) (sz2 ss.toNatClampNeg) fm nn.toNatClampNeg 0 (fr, lo, fa, P) 0 = obR (ce ss.toNatClampNeg) (sz ss.toNatClampNeg) fm nn.toNatClampNeg 0 (fr, lo, fa, P) 0 := by rw [(hS.2.2 _ (mIn3 hc.1.1) hc.2.1).1]; exact obR_cg (hS.1 _ (mIn3 hc.1.1)) (hS.2.2 _ (mIn3 hc.1.1) hc.2.1).2 _ _ _ _
      rw [e] at hr0 hw0
      exact ⟨hr0, INB_mk (HOK_P hH (obR_5 _ _ _ _ _ _ _ hP)) hN hI hS hX hL hT (hw0.trans R_f) ho⟩
