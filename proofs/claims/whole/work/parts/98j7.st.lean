set_option maxHeartbeats 2000000 in
set_option maxRecDepth 100000 in
theorem st_were : STP Value.long INB M_X6_were M_X7_were 2 := by
  refine ⟨8, 9, 0, 0, by decide, by decide, by decide, by decide, ?_⟩
  intro w hw
  refine hw (STw Value.long INB M_X6_were M_X7_were 2 8 9 0 0) ?_
  intro fr lo fa ki mo P C k sty wset wfor pfr plo pfa pki pmo ppe pch psty pwset pwfor plaw plent bytes tcodes tends N ta0 tcn tpl tok efr elo efa eki emo epe ech esty ewset ewfor elaw elent on was sat stood rose firsts waits till sitter names satOn risen pict brs bst row brow kept asked so sz ce tx T K sy cd sr wi1 ho1 ki1 mo1 sz2 pe1 ch1 ru1 g J KF hH hN hI hS hX hL hT ho zs hz
  obtain ⟨hP, hC, hk, hmo, hwf, hki⟩ := id hH
  obtain ⟨ss, nn, rfl⟩ := zs2 hz
  refine ⟨_, x_were fr lo fa ki mo sty wset wfor pfr plo pfa pki pmo ppe pch psty pwset pwfor plaw plent bytes tcodes tends (nI N) (nI ta0) tcn tpl tok efr elo efa eki emo epe ech esty ewset ewfor elaw elent on was sat stood rose firsts waits till sitter names satOn risen pict brs bst row brow kept asked so sz ce tx T P C k K hP hC hk ⟨hT, rfl⟩ hX.1 ss nn, fun r w' hq => ?_⟩
  obtain ⟨hr, y, ⟨hT1, hL1⟩, hw'⟩ := hq
  refine ⟨_, hr, step_end (J0 := (JR P C k N K pict pe1 ch1 ru1 J)) (K0 := (KR fr lo fa ki mo sty wset wfor bytes cd sr wi1 ho1 ki1 mo1 so sz2 g KF)) (fun _ => rfl) hw' hT1 (Co.wd (m_were ki mo cd sr (-1) (JR P C k N K pict pe1 ch1 ru1 J) (KR fr lo fa ki mo sty wset wfor bytes cd sr wi1 ho1 ki1 mo1 so sz2 g KF) fr lo fa sty wset wfor (KF 36, KF 37, KF 38, KF 39, KF 40, KF 34, KF 35) (KF 33, KF 32, KF 41) sy K P C k hP hC hk hL hmo ss nn) V_v) (fun r0 w0 hq0 => ?_)⟩
  obtain ⟨hr0, x, z, hw0⟩ := hq0
  exact ⟨hr0.trans (congrArg (fun v => some (Value.long v)) (jd_J (fun s h1 h2 => (hS.2.2 s h1 h2).1) (fun h => congrArg (fun F => orL F (2 ^ C)) (funext fun q => congrArg (fun v => decide (v = (-1 : Int32))) (fT_cg hS hP h _))))), INB_mk hH hN hI hS ⟨hX.1, by rw [hL1]; exact hX.2⟩ hL hT1 (hw0.trans R_v) ho⟩
set_option maxHeartbeats 2000000 in
set_option maxRecDepth 100000 in
theorem st_laws : STP Value.int INB M_X6_laws M_X7_laws 2 := by
  refine ⟨8, 9, 0, 0, by decide, by decide, by decide, by decide, ?_⟩
  intro w hw
  refine hw (STw Value.int INB M_X6_laws M_X7_laws 2 8 9 0 0) ?_
  intro fr lo fa ki mo P C k sty wset wfor pfr plo pfa pki pmo ppe pch psty pwset pwfor plaw plent bytes tcodes tends N ta0 tcn tpl tok efr elo efa eki emo epe ech esty ewset ewfor elaw elent on was sat stood rose firsts waits till sitter names satOn risen pict brs bst row brow kept asked so sz ce tx T K sy cd sr wi1 ho1 ki1 mo1 sz2 pe1 ch1 ru1 g J KF hH hN hI hS hX hL hT ho zs hz
  obtain ⟨hP, hC, hk, hmo, hwf, hki⟩ := id hH
  obtain ⟨ss, nn, rfl⟩ := zs2 hz
  refine ⟨_, x_laws fr lo fa ki mo sty wset wfor pfr plo pfa pki pmo ppe pch psty pwset pwfor plaw plent bytes tcodes tends (nI N) (nI ta0) tcn tpl tok efr elo efa eki emo epe ech esty ewset ewfor elaw elent on was sat stood rose firsts waits till sitter names satOn risen pict brs bst row brow kept asked so sz ce tx T P C k K hP hC hk ⟨hT, rfl⟩ hX.1 ss nn, fun r w' hq => ?_⟩
  obtain ⟨hr, y, ⟨hT1, hL1⟩, hw'⟩ := hq
  refine ⟨_, hr, step_end (J0 := (JR P C k N K pict pe1 ch1 ru1 J)) (K0 := (KR fr lo fa ki mo sty wset wfor bytes cd sr wi1 ho1 ki1 mo1 so sz2 g KF)) (fun _ => rfl) hw' hT1 (Co.wd (m_laws ki mo cd sr (-1) (JR P C k N K pict pe1 ch1 ru1 J) (KR fr lo fa ki mo sty wset wfor bytes cd sr wi1 ho1 ki1 mo1 so sz2 g KF) fr lo fa sty wset wfor (KF 36, KF 37, KF 38, KF 39, KF 40, KF 34, KF 35) (KF 33, KF 32, KF 41) sy K P C k hP hC hk hL hmo rfl ss nn) V_v) (fun r0 w0 hq0 => ?_)⟩
  obtain ⟨hr0, x, z, hw0⟩ := hq0
  exact ⟨hr0.trans (congrArg (fun v => some (Value.int v)) (jd_I (fun s h1 h2 => (hS.2.2 s h1 h2).1) (fun h => congrArg (fun F => setOf F K) (funext fun q => congrArg (fun v => decide (v = (-1 : Int32))) (fT_cg hS hP h _))))), INB_mk hH hN hI hS ⟨hX.1, by rw [hL1]; exact hX.2⟩ hL hT1 (hw0.trans R_v) ho⟩
set_option maxHeartbeats 2000000 in
set_option maxRecDepth 100000 in
theorem st_film : STP Value.int INB M_X6_film M_X7_film 2 := by
  refine ⟨8, 8, 0, 0, by decide, by decide, by decide, by decide, ?_⟩
  intro w hw
  refine hw (STw Value.int INB M_X6_film M_X7_film 2 8 8 0 0) ?_
  intro fr lo fa ki mo P C k sty wset wfor pfr plo pfa pki pmo ppe pch psty pwset pwfor plaw plent bytes tcodes tends N ta0 tcn tpl tok efr elo efa eki emo epe ech esty ewset ewfor elaw elent on was sat stood rose firsts waits till sitter names satOn risen pict brs bst row brow kept asked so sz ce tx T K sy cd sr wi1 ho1 ki1 mo1 sz2 pe1 ch1 ru1 g J KF hH hN hI hS hX hL hT ho zs hz
  obtain ⟨hP, hC, hk, hmo, hwf, hki⟩ := id hH
  obtain ⟨ss, nn, rfl⟩ := zs2 hz
  refine ⟨_, x_film fr lo fa ki mo sty wset wfor pfr plo pfa pki pmo ppe pch psty pwset pwfor plaw plent bytes tcodes tends (nI N) (nI ta0) tcn tpl tok efr elo efa eki emo epe ech esty ewset ewfor elaw elent on was sat stood rose firsts waits till sitter names satOn risen pict brs bst row brow kept asked so sz ce tx T P C k K hP hC hk ⟨hT, rfl⟩ hX.1 ss nn, fun r w' hq => ?_⟩
  rcases hq with ⟨hc, hr, hw'⟩ | ⟨hc1, hc, hr, hw'⟩ | ⟨hc1, hc, hr, y, ⟨hT1, hL1⟩, hw'⟩
  · have hw' : w' = wC fr lo fa ki mo (nI P) (nI C) sty wset wfor (nI k) (-1) pfr plo pfa pki pmo ppe pch psty pwset pwfor plaw plent bytes tcodes tends (nI N) (nI ta0) tcn tpl tok efr elo efa eki emo epe ech esty ewset ewfor elaw elent on was sat stood rose firsts waits till sitter names satOn risen pict (nI K) brs bst row brow kept asked so sz ce tx T := hw'
    refine ⟨_, hr, step_end (J0 := (JR P C k N K pict pe1 ch1 ru1 J)) (K0 := (KR fr lo fa ki mo sty wset wfor bytes cd sr wi1 ho1 ki1 mo1 so sz2 g KF)) (fun _ => rfl) hw' hT (Co.wd (m_film ki mo cd sr so sz2 (-1) (JR P C k N K pict pe1 ch1 ru1 J) (KR fr lo fa ki mo sty wset wfor bytes cd sr wi1 ho1 ki1 mo1 so sz2 g KF) g fr lo fa sty wset wfor (KF 36, KF 37, KF 38, KF 39, KF 40, KF 34, KF 35) (KF 33, KF 32, KF 41) sy K P C k hP hC hk hL hmo ss nn) V_f) (fun r0 w0 hq0 => ?_)⟩
    rcases hq0 with ⟨hd, hr0, hw0⟩ | ⟨hd1, hd, hr0, hw0⟩ | ⟨hd1, hd, hr0, x, z, hw0⟩
    · exact ⟨hr0, INB_mk hH hN hI hS hX hL hT (hw0.trans R_f) ho⟩
    · exact absurd hd1 hc
    · exact absurd hd1 hc
  · have hw' : w' = wC fr lo fa ki mo (nI P) (nI C) sty wset wfor (nI k) (-1) pfr plo pfa pki pmo ppe pch psty pwset pwfor plaw plent bytes tcodes tends (nI N) (nI ta0) tcn tpl tok efr elo efa eki emo epe ech esty ewset ewfor elaw elent on was sat stood rose firsts waits till sitter names satOn risen pict (nI K) brs bst row brow kept asked so sz ce tx T := hw'
    refine ⟨_, hr, step_end (J0 := (JR P C k N K pict pe1 ch1 ru1 J)) (K0 := (KR fr lo fa ki mo sty wset wfor bytes cd sr wi1 ho1 ki1 mo1 so sz2 g KF)) (fun _ => rfl) hw' hT (Co.wd (m_film ki mo cd sr so sz2 (-1) (JR P C k N K pict pe1 ch1 ru1 J) (KR fr lo fa ki mo sty wset wfor bytes cd sr wi1 ho1 ki1 mo1 so sz2 g KF) g fr lo fa sty wset wfor (KF 36, KF 37, KF 38, KF 39, KF 40, KF 34, KF 35) (KF 33, KF 32, KF 41) sy K P C k hP hC hk hL hmo ss nn) V_f) (fun r0 w0 hq0 => ?_)⟩
    rcases hq0 with ⟨hd, hr0, hw0⟩ | ⟨hd1, hd, hr0, hw0⟩ | ⟨hd1, hd, hr0, x, z, hw0⟩
    · exact absurd hc1 hd
    · exact ⟨hr0, INB_mk hH hN hI hS hX hL hT (hw0.trans R_f) ho⟩
    · exact absurd hd hc
  · refine ⟨_, hr, step_end (J0 := (JR P C k N K pict pe1 ch1 ru1 J)) (K0 := (KR fr lo fa ki mo sty wset wfor bytes cd sr wi1 ho1 ki1 mo1 so sz2 g KF)) (fun _ => rfl) hw' hT1 (Co.wd (m_film ki mo cd sr so sz2 (-1) (JR P C k N K pict pe1 ch1 ru1 J) (KR fr lo fa ki mo sty wset wfor bytes cd sr wi1 ho1 ki1 mo1 so sz2 g KF) g fr lo fa sty wset wfor (KF 36, KF 37, KF 38, KF 39, KF 40, KF 34, KF 35) (KF 33, KF 32, KF 41) sy K P C k hP hC hk hL hmo ss nn) V_f) (fun r0 w0 hq0 => ?_)⟩
    rcases hq0 with ⟨hd, hr0, hw0⟩ | ⟨hd1, hd, hr0, hw0⟩ | ⟨hd1, hd, hr0, x, z, hw0⟩
    · exact absurd hc1 hd
    · exact absurd hc hd
    · exact ⟨hr0, INB_mk hH hN hI (SHR_film hS hP) ⟨hX.1, by rw [hL1]; exact hX.2⟩ hL hT1 (hw0.trans R_f) ho⟩
set_option maxHeartbeats 2000000 in
set_option maxRecDepth 100000 in
theorem st_sheet : STP Value.int INB M_X6_sheet M_X7_sheet 3 := by
  refine ⟨2, 1, 0, 0, by decide, by decide, by decide, by decide, ?_⟩
  intro w hw
  refine hw (STw Value.int INB M_X6_sheet M_X7_sheet 3 2 1 0 0) ?_
  intro fr lo fa ki mo P C k sty wset wfor pfr plo pfa pki pmo ppe pch psty pwset pwfor plaw plent bytes tcodes tends N ta0 tcn tpl tok efr elo efa eki emo epe ech esty ewset ewfor elaw elent on was sat stood rose firsts waits till sitter names satOn risen pict brs bst row brow kept asked so sz ce tx T K sy cd sr wi1 ho1 ki1 mo1 sz2 pe1 ch1 ru1 g J KF hH hN hI hS hX hL hT ho zs hz
  obtain ⟨hP, hC, hk, hmo, hwf, hki⟩ := id hH
  obtain ⟨ss, sort, n0, rfl⟩ := zs3 hz
  refine ⟨_, x_sheet (L := 0) fr lo fa ki mo (nI P) (nI C) sty wset wfor (nI k) (-1) pfr plo pfa pki pmo ppe pch psty pwset pwfor plaw plent bytes tcodes tends (nI N) (nI ta0) tcn tpl tok efr elo efa eki emo epe ech esty ewset ewfor elaw elent on was sat stood rose firsts waits till sitter names satOn risen pict (nI K) brs bst row brow kept asked so sz ce tx T ss sort n0, fun r w' hq => ?_⟩
  rcases hq with ⟨hc, hr, hw'⟩ | ⟨hc, hr, hw'⟩ | ⟨hc, hr, hw'⟩ | ⟨hc, hr, hw'⟩
  · have hw' : w' = wC fr lo fa ki mo (nI P) (nI C) sty wset wfor (nI k) (-1) pfr plo pfa pki pmo ppe pch psty pwset pwfor plaw plent bytes tcodes tends (nI N) (nI ta0) tcn tpl tok efr elo efa eki emo epe ech esty ewset ewfor elaw elent on was sat stood rose firsts waits till sitter names satOn risen pict (nI K) brs bst row brow kept asked so sz ce tx T := hw'
    refine ⟨_, hr, step_end (J0 := (JR P C k N K pict pe1 ch1 ru1 J)) (K0 := (KR fr lo fa ki mo sty wset wfor bytes cd sr wi1 ho1 ki1 mo1 so sz2 g KF)) (fun _ => rfl) hw' hT (Co.wd (m_sheet so sz2 (JR P C k N K pict pe1 ch1 ru1 J) (KR fr lo fa ki mo sty wset wfor bytes cd sr wi1 ho1 ki1 mo1 so sz2 g KF) g ss sort n0) V_s) (fun r0 w0 hq0 => ?_)⟩
    rcases hq0 with ⟨hd, hr0, hw0⟩ | ⟨hd, hr0, hw0⟩ | ⟨hd, hr0, hw0⟩
    · exact ⟨hr0, INB_mk hH hN hI hS hX hL hT (hw0.trans R_s) ho⟩
    · exact absurd ⟨hd.1, hd.2.1, Or.inr hd.2.2.2.1⟩ hc
    · exact absurd ⟨hd.1, hd.2.1, hd.2.2.imp id (fun q => q.2)⟩ hc
  · have hw' : w' = wC fr lo fa ki mo (nI P) (nI C) sty wset wfor (nI k) (-1) pfr plo pfa pki pmo ppe pch psty pwset pwfor plaw plent bytes tcodes tends (nI N) (nI ta0) tcn tpl tok efr elo efa eki emo epe ech esty ewset ewfor elaw elent on was sat stood rose firsts waits till sitter names satOn risen pict (nI K) brs bst row brow kept asked so sz ce tx T := hw'
    refine ⟨_, hr, step_end (J0 := (JR P C k N K pict pe1 ch1 ru1 J)) (K0 := (KR fr lo fa ki mo sty wset wfor bytes cd sr wi1 ho1 ki1 mo1 so sz2 g KF)) (fun _ => rfl) hw' hT (Co.wd (m_sheet so sz2 (JR P C k N K pict pe1 ch1 ru1 J) (KR fr lo fa ki mo sty wset wfor bytes cd sr wi1 ho1 ki1 mo1 so sz2 g KF) g ss sort n0) V_s) (fun r0 w0 hq0 => ?_)⟩
    rcases hq0 with ⟨hd, hr0, hw0⟩ | ⟨hd, hr0, hw0⟩ | ⟨hd, hr0, hw0⟩
    · exact absurd ⟨hc.1, hc.2.1, Or.inr hc.2.2.2.1⟩ hd
    · exact ⟨hr0, INB_mk hH hN hI hS hX hL hT (hw0.trans R_s) ho⟩
    · exact (hd.2.2.elim (fun q => hc.2.2.1 q) (fun q => Int32.not_lt.mpr q.1 hc.2.2.2.2)).elim
  · obtain ⟨hc1, hc2, hc3⟩ := hc
    subst hc3
    have hc := And.intro hc1 (And.intro hc2 trivial)
    have hw' : w' = wC fr lo fa ki mo (nI P) (nI C) sty wset wfor (nI k) (-1) pfr plo pfa pki pmo ppe pch psty pwset pwfor plaw plent bytes tcodes tends (nI N) (nI ta0) tcn tpl tok efr elo efa eki emo epe ech esty ewset ewfor elaw elent on was sat stood rose firsts waits till sitter names satOn risen pict (nI K) brs bst row brow kept asked (upd so ss.toNatClampNeg (-1)) sz ce tx T := hw'
    refine ⟨_, hr, step_end (J0 := (JR P C k N K pict pe1 ch1 ru1 J)) (K0 := (KR fr lo fa ki mo sty wset wfor bytes cd sr wi1 ho1 ki1 mo1 so sz2 g KF)) (fun _ => rfl) hw' hT (Co.wd (m_sheet so sz2 (JR P C k N K pict pe1 ch1 ru1 J) (KR fr lo fa ki mo sty wset wfor bytes cd sr wi1 ho1 ki1 mo1 so sz2 g KF) g ss (-1) n0) V_s) (fun r0 w0 hq0 => ?_)⟩
    rcases hq0 with ⟨hd, hr0, hw0⟩ | ⟨hd, hr0, hw0⟩ | ⟨hd, hr0, hw0⟩
    · exact absurd ⟨hc.1, hc.2.1, Or.inl rfl⟩ hd
    · exact absurd rfl hd.2.2.1
    · exact ⟨hr0, INB_mk hH hN hI (SHR_gone hS (by rw [if_pos rfl]; exact sm_0 40)) hX hL hT (hw0.trans R_s) ho⟩
  · have hw' : w' = wC fr lo fa ki mo (nI P) (nI C) sty wset wfor (nI k) (-1) pfr plo pfa pki pmo ppe pch psty pwset pwfor plaw plent bytes tcodes tends (nI N) (nI ta0) tcn tpl tok efr elo efa eki emo epe ech esty ewset ewfor elaw elent on was sat stood rose firsts waits till sitter names satOn risen pict (nI K) brs bst row brow kept asked (upd so ss.toNatClampNeg sort) (upd sz ss.toNatClampNeg n0) (va_up ce ss.toNatClampNeg (fun _ => 0)) tx T := hw'
    refine ⟨_, hr, step_end (J0 := (JR P C k N K pict pe1 ch1 ru1 J)) (K0 := (KR fr lo fa ki mo sty wset wfor bytes cd sr wi1 ho1 ki1 mo1 so sz2 g KF)) (fun _ => rfl) hw' hT (Co.wd (m_sheet so sz2 (JR P C k N K pict pe1 ch1 ru1 J) (KR fr lo fa ki mo sty wset wfor bytes cd sr wi1 ho1 ki1 mo1 so sz2 g KF) g ss sort n0) V_s) (fun r0 w0 hq0 => ?_)⟩
    rcases hq0 with ⟨hd, hr0, hw0⟩ | ⟨hd, hr0, hw0⟩ | ⟨hd, hr0, hw0⟩
    · exact absurd ⟨hc.1, hc.2.1, Or.inr hc.2.2.2.2⟩ hd
    · exact absurd hd.2.2.2.2 (Int32.not_lt.mpr hc.2.2.2.1)
    · exact ⟨hr0, INB_mk hH hN hI (SHR_new hS (sm_of (by decide) hc.2.2.2.1 hc.2.2.2.2) (by rw [if_neg hc.2.2.1]; exact sm_of (by decide) hc.2.2.2.1 hc.2.2.2.2) (fun _ => ⟨if_neg hc.2.2.1, fun j hj => by unfold mixF; rw [if_pos hj]⟩)) hX hL hT (hw0.trans R_s) ho⟩
