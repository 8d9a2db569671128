set_option maxHeartbeats 2000000 in
set_option maxRecDepth 100000 in
theorem st_invite : STP Value.int INB M_X6_invite M_X7_invite 0 := by
  refine ⟨8, 15, 0, 0, by decide, by decide, by decide, by decide, ?_⟩
  intro w hw
  refine hw (STw Value.int INB M_X6_invite M_X7_invite 0 8 15 0 0) ?_
  intro fr lo fa ki mo P C k sty wset wfor pfr plo pfa pki pmo ppe pch psty pwset pwfor plaw plent bytes tcodes tends N ta0 tcn tpl tok efr elo efa eki emo epe ech esty ewset ewfor elaw elent on was sat stood rose firsts waits till sitter names satOn risen pict brs bst row brow kept asked so sz ce tx T K sy cd sr wi1 ho1 ki1 mo1 sz2 pe1 ch1 ru1 g J KF hH hN hI hS hX hL hT ho zs hz
  obtain ⟨hP, hC, hk, hmo, hwf, hki⟩ := id hH
  obtain rfl := zs0 hz
  refine ⟨_, x_invite fr lo fa ki mo sty wset wfor pfr plo pfa pki pmo ppe pch psty pwset pwfor plaw plent bytes tcodes tends (nI N) (nI ta0) tcn tpl tok efr elo efa eki emo epe ech esty ewset ewfor elaw elent on was sat stood rose firsts waits till sitter names satOn risen pict brs bst row brow kept asked so sz ce tx T P C k K hP hC hk ⟨hT, rfl⟩ hX.1 hmo hwf, fun r w' hq => ?_⟩
  obtain ⟨hr, y, ⟨hT1, hL1⟩, hw'⟩ := hq
  refine ⟨_, hr, step_end (J0 := (JR P C k N K pict pe1 ch1 ru1 J)) (K0 := (KR fr lo fa ki mo sty wset wfor bytes cd sr wi1 ho1 ki1 mo1 so sz2 g KF)) (fun _ => rfl) hw' hT1 (Co.wd (m_invite ki mo cd sr (KF 43) (-1) (J 44) (J 45) (JR P C k N K pict pe1 ch1 ru1 J) (KR fr lo fa ki mo sty wset wfor bytes cd sr wi1 ho1 ki1 mo1 so sz2 g KF) fr lo fa sty wset wfor (KF 36, KF 37, KF 38, KF 39, KF 40, KF 34, KF 35) (KF 33, KF 32, KF 41) sy K P C k hP hC hk hL hmo hwf) V_o) (fun r0 w0 hq0 => ?_)⟩
  obtain ⟨hr0, x, z, kf, bw1, bw, hw0⟩ := hq0
  exact ⟨hr0, INB_mk hH hN hI hS ⟨hX.1, by rw [hL1]; exact hX.2⟩ hL hT1 (hw0.trans R_o) ho⟩
set_option maxHeartbeats 2000000 in
set_option maxRecDepth 100000 in
theorem st_ever : STP Value.int INB M_X6_ever M_X7_ever 3 := by
  refine ⟨1, 2, 0, 0, by decide, by decide, by decide, by decide, ?_⟩
  intro w hw
  refine hw (STw Value.int INB M_X6_ever M_X7_ever 3 1 2 0 0) ?_
  intro fr lo fa ki mo P C k sty wset wfor pfr plo pfa pki pmo ppe pch psty pwset pwfor plaw plent bytes tcodes tends N ta0 tcn tpl tok efr elo efa eki emo epe ech esty ewset ewfor elaw elent on was sat stood rose firsts waits till sitter names satOn risen pict brs bst row brow kept asked so sz ce tx T K sy cd sr wi1 ho1 ki1 mo1 sz2 pe1 ch1 ru1 g J KF hH hN hI hS hX hL hT ho zs hz
  obtain ⟨hP, hC, hk, hmo, hwf, hki⟩ := id hH
  obtain ⟨aa, bb, cc, rfl⟩ := zs3 hz
  refine ⟨_, x_ever (L := 0) fr lo fa ki mo (nI P) (nI C) sty wset wfor (nI k) (-1) pfr plo pfa pki pmo ppe pch psty pwset pwfor plaw plent bytes tcodes tends (nI N) (nI ta0) tcn tpl tok efr elo efa eki emo epe ech esty ewset ewfor elaw elent on was sat stood rose firsts waits till sitter names satOn risen pict (nI K) brs bst row brow kept asked so sz ce tx T aa bb cc, fun r w' hq => ?_⟩
  obtain ⟨hr, kept', hw'⟩ := hq
  refine ⟨_, hr, step_end (J0 := (JR P C k N K pict pe1 ch1 ru1 J)) (K0 := (KR fr lo fa ki mo sty wset wfor bytes cd sr wi1 ho1 ki1 mo1 so sz2 g KF)) (fun _ => rfl) hw' hT (Co.wd (m_ever (KF 46) (JR P C k N K pict pe1 ch1 ru1 J) (KR fr lo fa ki mo sty wset wfor bytes cd sr wi1 ho1 ki1 mo1 so sz2 g KF) aa bb cc) V_k) (fun r0 w0 hq0 => ?_)⟩
  obtain ⟨hr0, kp', hw0⟩ := hq0
  exact ⟨hr0, INB_mk hH hN hI hS hX hL hT (hw0.trans R_k) ho⟩
set_option maxHeartbeats 2000000 in
set_option maxRecDepth 100000 in
theorem st_fewest : STP Value.int INB M_X6_fewest M_X7_fewest 2 := by
  refine ⟨2, 3, 0, 0, by decide, by decide, by decide, by decide, ?_⟩
  intro w hw
  refine hw (STw Value.int INB M_X6_fewest M_X7_fewest 2 2 3 0 0) ?_
  intro fr lo fa ki mo P C k sty wset wfor pfr plo pfa pki pmo ppe pch psty pwset pwfor plaw plent bytes tcodes tends N ta0 tcn tpl tok efr elo efa eki emo epe ech esty ewset ewfor elaw elent on was sat stood rose firsts waits till sitter names satOn risen pict brs bst row brow kept asked so sz ce tx T K sy cd sr wi1 ho1 ki1 mo1 sz2 pe1 ch1 ru1 g J KF hH hN hI hS hX hL hT ho zs hz
  obtain ⟨hP, hC, hk, hmo, hwf, hki⟩ := id hH
  obtain ⟨aa, cc, rfl⟩ := zs2 hz
  refine ⟨_, x_fewest (L := 0) fr lo fa ki mo (nI P) (nI C) sty wset wfor (nI k) (-1) pfr plo pfa pki pmo ppe pch psty pwset pwfor plaw plent bytes tcodes tends (nI N) (nI ta0) tcn tpl tok efr elo efa eki emo epe ech esty ewset ewfor elaw elent on was sat stood rose firsts waits till sitter names satOn risen pict (nI K) brs bst row brow kept asked so sz ce tx T aa cc, fun r w' hq => ?_⟩
  obtain ⟨hr, kept', hw'⟩ := hq
  refine ⟨_, hr, step_end (J0 := (JR P C k N K pict pe1 ch1 ru1 J)) (K0 := (KR fr lo fa ki mo sty wset wfor bytes cd sr wi1 ho1 ki1 mo1 so sz2 g KF)) (fun _ => rfl) hw' hT (Co.wd (m_fewest (KF 46) (JR P C k N K pict pe1 ch1 ru1 J) (KR fr lo fa ki mo sty wset wfor bytes cd sr wi1 ho1 ki1 mo1 so sz2 g KF) aa cc) V_k) (fun r0 w0 hq0 => ?_)⟩
  obtain ⟨hr0, kp', hw0⟩ := hq0
  exact ⟨hr0, INB_mk hH hN hI hS hX hL hT (hw0.trans R_k) ho⟩
set_option maxHeartbeats 2000000 in
set_option maxRecDepth 100000 in
theorem st_judge : STP Value.int INB M_X6_judge M_X7_judge 2 := by
  refine ⟨7, 9, 0, 0, by decide, by decide, by decide, by decide, ?_⟩
  intro w hw
  refine hw (STw Value.int INB M_X6_judge M_X7_judge 2 7 9 0 0) ?_
  intro fr lo fa ki mo P C k sty wset wfor pfr plo pfa pki pmo ppe pch psty pwset pwfor plaw plent bytes tcodes tends N ta0 tcn tpl tok efr elo efa eki emo epe ech esty ewset ewfor elaw elent on was sat stood rose firsts waits till sitter names satOn risen pict brs bst row brow kept asked so sz ce tx T K sy cd sr wi1 ho1 ki1 mo1 sz2 pe1 ch1 ru1 g J KF hH hN hI hS hX hL hT ho zs hz
  obtain ⟨hP, hC, hk, hmo, hwf, hki⟩ := id hH
  obtain ⟨ss, nn, rfl⟩ := zs2 hz
  refine ⟨_, x_judge fr lo fa ki mo sty wset wfor pfr plo pfa pki pmo ppe pch psty pwset pwfor plaw plent bytes tcodes tends (nI N) (nI ta0) tcn tpl tok efr elo efa eki emo epe ech esty ewset ewfor elaw elent on was sat stood rose firsts waits till sitter names satOn risen pict brs bst row brow kept asked so sz ce tx T P C k K hP hC hk ⟨hT, rfl⟩ hX.1 ss nn, fun r w' hq => ?_⟩
  obtain ⟨hr, y, ⟨hT1, hL1⟩, hw'⟩ := hq
  refine ⟨_, hr, step_end (J0 := (JR P C k N K pict pe1 ch1 ru1 J)) (K0 := (KR fr lo fa ki mo sty wset wfor bytes cd sr wi1 ho1 ki1 mo1 so sz2 g KF)) (fun _ => rfl) hw' hT1 (Co.wd (m_judge ki mo cd sr (-1) (JR P C k N K pict pe1 ch1 ru1 J) (KR fr lo fa ki mo sty wset wfor bytes cd sr wi1 ho1 ki1 mo1 so sz2 g KF) fr lo fa sty wset wfor (KF 36, KF 37, KF 38, KF 39, KF 40, KF 34, KF 35) (KF 33, KF 32, KF 41) sy K P C k hP hC hk hL hmo ss nn) V_v) (fun r0 w0 hq0 => ?_)⟩
  obtain ⟨hr0, x, z, hw0⟩ := hq0
  exact ⟨hr0.trans (congrArg (fun v => some (Value.int v)) (jd_I (fun s h1 h2 => (hS.2.2 s h1 h2).1) (fun h => fT_cg hS hP h _))), INB_mk hH hN hI hS ⟨hX.1, by rw [hL1]; exact hX.2⟩ hL hT1 (hw0.trans R_v) ho⟩
