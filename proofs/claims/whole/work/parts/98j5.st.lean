set_option maxHeartbeats 2000000 in
set_option maxRecDepth 100000 in
theorem st_move : STP Value.int INB M_X6_move M_X7_move 1 := by
  refine ⟨7, 9, 0, 0, by decide, by decide, by decide, by decide, ?_⟩
  intro w hw
  refine hw (STw Value.int INB M_X6_move M_X7_move 1 7 9 0 0) ?_
  intro fr lo fa ki mo P C k sty wset wfor pfr plo pfa pki pmo ppe pch psty pwset pwfor plaw plent bytes tcodes tends N ta0 tcn tpl tok efr elo efa eki emo epe ech esty ewset ewfor elaw elent on was sat stood rose firsts waits till sitter names satOn risen pict brs bst row brow kept asked so sz ce tx T K sy cd sr wi1 ho1 ki1 mo1 sz2 pe1 ch1 ru1 g J KF hH hN hI hS hX hL hT ho zs hz
  obtain ⟨hP, hC, hk, hmo, hwf, hki⟩ := id hH
  obtain ⟨what, rfl⟩ := zs1 hz
  refine ⟨_, x_move fr lo fa ki mo sty wset wfor pfr plo pfa pki pmo ppe pch psty pwset pwfor plaw plent bytes tcodes tends (nI N) (nI ta0) tcn tpl tok efr elo efa eki emo epe ech esty ewset ewfor elaw elent on was sat stood rose firsts waits till sitter names satOn risen pict brs bst row brow kept asked so sz ce tx T P C k K hP hC hk ⟨hT, rfl⟩ hX.1 what hmo hwf, fun r w' hq => ?_⟩
  obtain ⟨hr, y, ⟨hT1, hL1⟩, hw'⟩ := hq
  refine ⟨_, hr, step_end (J0 := (JR P C k N K pict pe1 ch1 ru1 J)) (K0 := (KR fr lo fa ki mo sty wset wfor bytes cd sr wi1 ho1 ki1 mo1 so sz2 g KF)) (fun _ => rfl) hw' hT1 (Co.wd (m_move ki mo cd sr (-1) (JR P C k N K pict pe1 ch1 ru1 J) (KR fr lo fa ki mo sty wset wfor bytes cd sr wi1 ho1 ki1 mo1 so sz2 g KF) fr lo fa sty wset wfor (KF 36, KF 37, KF 38, KF 39, KF 40, KF 34, KF 35) (KF 33, KF 32, KF 41) sy K P C k hP hC hk hL hmo what hwf) V_v) (fun r0 w0 hq0 => ?_)⟩
  obtain ⟨hr0, x, z, hw0⟩ := hq0
  exact ⟨hr0, INB_mk hH hN hI hS ⟨hX.1, by rw [hL1]; exact hX.2⟩ hL hT1 (hw0.trans R_v) ho⟩
set_option maxHeartbeats 2000000 in
set_option maxRecDepth 100000 in
theorem st_drawn : STP Value.int INB M_X6_drawn M_X7_drawn 1 := by
  refine ⟨7, 9, 0, 0, by decide, by decide, by decide, by decide, ?_⟩
  intro w hw
  refine hw (STw Value.int INB M_X6_drawn M_X7_drawn 1 7 9 0 0) ?_
  intro fr lo fa ki mo P C k sty wset wfor pfr plo pfa pki pmo ppe pch psty pwset pwfor plaw plent bytes tcodes tends N ta0 tcn tpl tok efr elo efa eki emo epe ech esty ewset ewfor elaw elent on was sat stood rose firsts waits till sitter names satOn risen pict brs bst row brow kept asked so sz ce tx T K sy cd sr wi1 ho1 ki1 mo1 sz2 pe1 ch1 ru1 g J KF hH hN hI hS hX hL hT ho zs hz
  obtain ⟨hP, hC, hk, hmo, hwf, hki⟩ := id hH
  obtain ⟨xx, rfl⟩ := zs1 hz
  refine ⟨_, x_drawn fr lo fa ki mo sty wset wfor pfr plo pfa pki pmo ppe pch psty pwset pwfor plaw plent bytes tcodes tends (nI N) (nI ta0) tcn tpl tok efr elo efa eki emo epe ech esty ewset ewfor elaw elent on was sat stood rose firsts waits till sitter names satOn risen pict brs bst row brow kept asked so sz ce tx T P C k K hP hC hk ⟨hT, rfl⟩ hX.1 xx, fun r w' hq => ?_⟩
  obtain ⟨hr, y, ⟨hT1, hL1⟩, hw'⟩ := hq
  refine ⟨_, hr, step_end (J0 := (JR P C k N K pict pe1 ch1 ru1 J)) (K0 := (KR fr lo fa ki mo sty wset wfor bytes cd sr wi1 ho1 ki1 mo1 so sz2 g KF)) (fun _ => rfl) hw' hT1 (Co.wd (m_drawn ki mo cd sr (-1) (JR P C k N K pict pe1 ch1 ru1 J) (KR fr lo fa ki mo sty wset wfor bytes cd sr wi1 ho1 ki1 mo1 so sz2 g KF) fr lo fa sty wset wfor (KF 36, KF 37, KF 38, KF 39, KF 40, KF 34, KF 35) (KF 33, KF 32, KF 41) sy K P C k hP hC hk hL hmo xx) V_v) (fun r0 w0 hq0 => ?_)⟩
  obtain ⟨hr0, x, z, hw0⟩ := hq0
  exact ⟨hr0, INB_mk hH hN hI hS ⟨hX.1, by rw [hL1]; exact hX.2⟩ hL hT1 (hw0.trans R_v) ho⟩
set_option maxHeartbeats 2000000 in
set_option maxRecDepth 100000 in
theorem st_odds : STP Value.long INB M_X6_odds M_X7_odds 4 := by
  refine ⟨8, 10, 0, 0, by decide, by decide, by decide, by decide, ?_⟩
  intro w hw
  refine hw (STw Value.long INB M_X6_odds M_X7_odds 4 8 10 0 0) ?_
  intro fr lo fa ki mo P C k sty wset wfor pfr plo pfa pki pmo ppe pch psty pwset pwfor plaw plent bytes tcodes tends N ta0 tcn tpl tok efr elo efa eki emo epe ech esty ewset ewfor elaw elent on was sat stood rose firsts waits till sitter names satOn risen pict brs bst row brow kept asked so sz ce tx T K sy cd sr wi1 ho1 ki1 mo1 sz2 pe1 ch1 ru1 g J KF hH hN hI hS hX hL hT ho zs hz
  obtain ⟨hP, hC, hk, hmo, hwf, hki⟩ := id hH
  obtain ⟨xx, sd, nn, part, rfl⟩ := zs4 hz
  refine ⟨_, x_odds fr lo fa ki mo sty wset wfor pfr plo pfa pki pmo ppe pch psty pwset pwfor plaw plent bytes tcodes tends (nI N) (nI ta0) tcn tpl tok efr elo efa eki emo epe ech esty ewset ewfor elaw elent on was sat stood rose firsts waits till sitter names satOn risen pict brs bst row brow kept asked so sz ce tx T P C k K hP hC hk ⟨hT, rfl⟩ hX.1 xx sd nn part, fun r w' hq => ?_⟩
  obtain ⟨hr, y, ⟨hT1, hL1⟩, hw'⟩ := hq
  refine ⟨_, hr, step_end (J0 := (JR P C k N K pict pe1 ch1 ru1 J)) (K0 := (KR fr lo fa ki mo sty wset wfor bytes cd sr wi1 ho1 ki1 mo1 so sz2 g KF)) (fun _ => rfl) hw' hT1 (Co.wd (m_odds ki mo cd sr (-1) (JR P C k N K pict pe1 ch1 ru1 J) (KR fr lo fa ki mo sty wset wfor bytes cd sr wi1 ho1 ki1 mo1 so sz2 g KF) fr lo fa sty wset wfor (KF 36, KF 37, KF 38, KF 39, KF 40, KF 34, KF 35) (KF 33, KF 32, KF 41) sy K P C k hP hC hk hL hmo xx sd nn part) V_v) (fun r0 w0 hq0 => ?_)⟩
  obtain ⟨hr0, x, z, hw0⟩ := hq0
  exact ⟨hr0, INB_mk hH hN hI hS ⟨hX.1, by rw [hL1]; exact hX.2⟩ hL hT1 (hw0.trans R_v) ho⟩
set_option maxHeartbeats 2000000 in
set_option maxRecDepth 100000 in
theorem st_order : STP Value.int INB M_X6_order M_X7_order 1 := by
  refine ⟨8, 15, 0, 0, by decide, by decide, by decide, by decide, ?_⟩
  intro w hw
  refine hw (STw Value.int INB M_X6_order M_X7_order 1 8 15 0 0) ?_
  intro fr lo fa ki mo P C k sty wset wfor pfr plo pfa pki pmo ppe pch psty pwset pwfor plaw plent bytes tcodes tends N ta0 tcn tpl tok efr elo efa eki emo epe ech esty ewset ewfor elaw elent on was sat stood rose firsts waits till sitter names satOn risen pict brs bst row brow kept asked so sz ce tx T K sy cd sr wi1 ho1 ki1 mo1 sz2 pe1 ch1 ru1 g J KF hH hN hI hS hX hL hT ho zs hz
  obtain ⟨hP, hC, hk, hmo, hwf, hki⟩ := id hH
  obtain ⟨what, rfl⟩ := zs1 hz
  refine ⟨_, x_order fr lo fa ki mo sty wset wfor pfr plo pfa pki pmo ppe pch psty pwset pwfor plaw plent bytes tcodes tends (nI N) (nI ta0) tcn tpl tok efr elo efa eki emo epe ech esty ewset ewfor elaw elent on was sat stood rose firsts waits till sitter names satOn risen pict brs bst row brow kept asked so sz ce tx T P C k K hP hC hk ⟨hT, rfl⟩ hX.1 what hmo hwf, fun r w' hq => ?_⟩
  obtain ⟨hr, y, ⟨hT1, hL1⟩, hw'⟩ := hq
  refine ⟨_, hr, step_end (J0 := (JR P C k N K pict pe1 ch1 ru1 J)) (K0 := (KR fr lo fa ki mo sty wset wfor bytes cd sr wi1 ho1 ki1 mo1 so sz2 g KF)) (fun _ => rfl) hw' hT1 (Co.wd (m_order ki mo cd sr (KF 43) (-1) (J 44) (J 45) (JR P C k N K pict pe1 ch1 ru1 J) (KR fr lo fa ki mo sty wset wfor bytes cd sr wi1 ho1 ki1 mo1 so sz2 g KF) fr lo fa sty wset wfor (KF 36, KF 37, KF 38, KF 39, KF 40, KF 34, KF 35) (KF 33, KF 32, KF 41) sy K P C k hP hC hk hL hmo hwf what) V_o) (fun r0 w0 hq0 => ?_)⟩
  obtain ⟨hr0, x, z, kf, bw1, bw, hw0⟩ := hq0
  exact ⟨hr0, INB_mk hH hN hI hS ⟨hX.1, by rw [hL1]; exact hX.2⟩ hL hT1 (hw0.trans R_o) ho⟩
