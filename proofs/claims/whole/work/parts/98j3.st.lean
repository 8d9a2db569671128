set_option maxHeartbeats 2000000 in
set_option maxRecDepth 100000 in
theorem st_of : STP Value.int INB M_X6_of M_X7_of 3 := by
  refine ⟨7, 7, 0, 0, by decide, by decide, by decide, by decide, ?_⟩
  intro w hw
  refine hw (STw Value.int INB M_X6_of M_X7_of 3 7 7 0 0) ?_
  intro fr lo fa ki mo P C k sty wset wfor pfr plo pfa pki pmo ppe pch psty pwset pwfor plaw plent bytes tcodes tends N ta0 tcn tpl tok efr elo efa eki emo epe ech esty ewset ewfor elaw elent on was sat stood rose firsts waits till sitter names satOn risen pict brs bst row brow kept asked so sz ce tx T K sy cd sr wi1 ho1 ki1 mo1 sz2 pe1 ch1 ru1 g J KF hH hN hI hS hX hL hT ho zs hz
  obtain ⟨hP, hC, hk, hmo, hwf, hki⟩ := id hH
  obtain ⟨nn, pp, what, rfl⟩ := zs3 hz
  refine ⟨_, x_of fr lo fa ki mo sty wset wfor pfr plo pfa pki pmo ppe pch psty pwset pwfor plaw plent bytes tcodes tends (nI N) (nI ta0) tcn tpl tok efr elo efa eki emo epe ech esty ewset ewfor elaw elent on was sat stood rose firsts waits till sitter names satOn risen pict brs bst row brow kept asked so sz ce tx T P C k K hP hC hk ⟨hT, rfl⟩ hX.1 nn pp what, fun r w' hq => ?_⟩
  obtain ⟨hr, y, ⟨hT1, hL1⟩, hw'⟩ := hq
  refine ⟨_, hr, step_end (J0 := (JR P C k N K pict pe1 ch1 ru1 J)) (K0 := (KR fr lo fa ki mo sty wset wfor bytes cd sr wi1 ho1 ki1 mo1 so sz2 g KF)) (fun _ => rfl) hw' hT1 (Co.wd (m_of ki mo cd sr (-1) (JR P C k N K pict pe1 ch1 ru1 J) (KR fr lo fa ki mo sty wset wfor bytes cd sr wi1 ho1 ki1 mo1 so sz2 g KF) fr lo fa sty wset wfor (KF 36, KF 37, KF 38, KF 39, KF 40, KF 34, KF 35) (KF 33, KF 32, KF 41) sy K P C k hP hC hk hL hmo nn pp what) V_v) (fun r0 w0 hq0 => ?_)⟩
  obtain ⟨hr0, x, z, hw0⟩ := hq0
  exact ⟨hr0, INB_mk hH hN hI hS ⟨hX.1, by rw [hL1]; exact hX.2⟩ hL hT1 (hw0.trans R_v) ho⟩
set_option maxHeartbeats 2000000 in
set_option maxRecDepth 100000 in
theorem st_chairOf : STP Value.int INB M_X6_chairOf M_X7_chairOf 3 := by
  refine ⟨7, 7, 0, 0, by decide, by decide, by decide, by decide, ?_⟩
  intro w hw
  refine hw (STw Value.int INB M_X6_chairOf M_X7_chairOf 3 7 7 0 0) ?_
  intro fr lo fa ki mo P C k sty wset wfor pfr plo pfa pki pmo ppe pch psty pwset pwfor plaw plent bytes tcodes tends N ta0 tcn tpl tok efr elo efa eki emo epe ech esty ewset ewfor elaw elent on was sat stood rose firsts waits till sitter names satOn risen pict brs bst row brow kept asked so sz ce tx T K sy cd sr wi1 ho1 ki1 mo1 sz2 pe1 ch1 ru1 g J KF hH hN hI hS hX hL hT ho zs hz
  obtain ⟨hP, hC, hk, hmo, hwf, hki⟩ := id hH
  obtain ⟨nn, cc, what, rfl⟩ := zs3 hz
  refine ⟨_, x_chairOf fr lo fa ki mo sty wset wfor pfr plo pfa pki pmo ppe pch psty pwset pwfor plaw plent bytes tcodes tends (nI N) (nI ta0) tcn tpl tok efr elo efa eki emo epe ech esty ewset ewfor elaw elent on was sat stood rose firsts waits till sitter names satOn risen pict brs bst row brow kept asked so sz ce tx T P C k K hP hC hk ⟨hT, rfl⟩ hX.1 nn cc what hmo hwf, fun r w' hq => ?_⟩
  obtain ⟨hr, y, ⟨hT1, hL1⟩, hw'⟩ := hq
  refine ⟨_, hr, step_end (J0 := (JR P C k N K pict pe1 ch1 ru1 J)) (K0 := (KR fr lo fa ki mo sty wset wfor bytes cd sr wi1 ho1 ki1 mo1 so sz2 g KF)) (fun _ => rfl) hw' hT1 (Co.wd (m_chairOf ki mo cd sr (-1) (JR P C k N K pict pe1 ch1 ru1 J) (KR fr lo fa ki mo sty wset wfor bytes cd sr wi1 ho1 ki1 mo1 so sz2 g KF) fr lo fa sty wset wfor (KF 36, KF 37, KF 38, KF 39, KF 40, KF 34, KF 35) (KF 33, KF 32, KF 41) sy K P C k hP hC hk hL hmo nn cc what) V_v) (fun r0 w0 hq0 => ?_)⟩
  obtain ⟨hr0, x, z, hw0⟩ := hq0
  exact ⟨hr0, INB_mk hH hN hI hS ⟨hX.1, by rw [hL1]; exact hX.2⟩ hL hT1 (hw0.trans R_v) ho⟩
set_option maxHeartbeats 2000000 in
set_option maxRecDepth 100000 in
theorem st_all : STP Value.int INB M_X6_all M_X7_all 2 := by
  refine ⟨7, 7, 0, 0, by decide, by decide, by decide, by decide, ?_⟩
  intro w hw
  refine hw (STw Value.int INB M_X6_all M_X7_all 2 7 7 0 0) ?_
  intro fr lo fa ki mo P C k sty wset wfor pfr plo pfa pki pmo ppe pch psty pwset pwfor plaw plent bytes tcodes tends N ta0 tcn tpl tok efr elo efa eki emo epe ech esty ewset ewfor elaw elent on was sat stood rose firsts waits till sitter names satOn risen pict brs bst row brow kept asked so sz ce tx T K sy cd sr wi1 ho1 ki1 mo1 sz2 pe1 ch1 ru1 g J KF hH hN hI hS hX hL hT ho zs hz
  obtain ⟨hP, hC, hk, hmo, hwf, hki⟩ := id hH
  obtain ⟨nn, what, rfl⟩ := zs2 hz
  refine ⟨_, x_all fr lo fa ki mo sty wset wfor pfr plo pfa pki pmo ppe pch psty pwset pwfor plaw plent bytes tcodes tends (nI N) (nI ta0) tcn tpl tok efr elo efa eki emo epe ech esty ewset ewfor elaw elent on was sat stood rose firsts waits till sitter names satOn risen pict brs bst row brow kept asked so sz ce tx T P C k K hP hC hk ⟨hT, rfl⟩ hX.1 nn what hmo hwf, fun r w' hq => ?_⟩
  obtain ⟨hr, y, ⟨hT1, hL1⟩, hw'⟩ := hq
  refine ⟨_, hr, step_end (J0 := (JR P C k N K pict pe1 ch1 ru1 J)) (K0 := (KR fr lo fa ki mo sty wset wfor bytes cd sr wi1 ho1 ki1 mo1 so sz2 g KF)) (fun _ => rfl) hw' hT1 (Co.wd (m_all ki mo cd sr (-1) (JR P C k N K pict pe1 ch1 ru1 J) (KR fr lo fa ki mo sty wset wfor bytes cd sr wi1 ho1 ki1 mo1 so sz2 g KF) fr lo fa sty wset wfor (KF 36, KF 37, KF 38, KF 39, KF 40, KF 34, KF 35) (KF 33, KF 32, KF 41) sy K P C k hP hC hk hL hmo nn what) V_v) (fun r0 w0 hq0 => ?_)⟩
  obtain ⟨hr0, x, z, hw0⟩ := hq0
  exact ⟨hr0.trans (congrArg (fun v => some (Value.int v)) (all_eq (fun h => alS_7 h))), INB_mk hH hN hI hS ⟨hX.1, by rw [hL1]; exact hX.2⟩ hL hT1 (hw0.trans R_v) ho⟩
set_option maxHeartbeats 2000000 in
set_option maxRecDepth 100000 in
theorem st_cold : STP Value.int INB M_X6_cold M_X7_cold 0 := by
  refine ⟨7, 7, 0, 0, by decide, by decide, by decide, by decide, ?_⟩
  intro w hw
  refine hw (STw Value.int INB M_X6_cold M_X7_cold 0 7 7 0 0) ?_
  intro fr lo fa ki mo P C k sty wset wfor pfr plo pfa pki pmo ppe pch psty pwset pwfor plaw plent bytes tcodes tends N ta0 tcn tpl tok efr elo efa eki emo epe ech esty ewset ewfor elaw elent on was sat stood rose firsts waits till sitter names satOn risen pict brs bst row brow kept asked so sz ce tx T K sy cd sr wi1 ho1 ki1 mo1 sz2 pe1 ch1 ru1 g J KF hH hN hI hS hX hL hT ho zs hz
  obtain ⟨hP, hC, hk, hmo, hwf, hki⟩ := id hH
  obtain rfl := zs0 hz
  refine ⟨_, x_cold fr lo fa ki mo sty wset wfor pfr plo pfa pki pmo ppe pch psty pwset pwfor plaw plent bytes tcodes tends (nI N) (nI ta0) tcn tpl tok efr elo efa eki emo epe ech esty ewset ewfor elaw elent on was sat stood rose firsts waits till sitter names satOn risen pict brs bst row brow kept asked so sz ce tx T P C k K hP hC hk ⟨hT, rfl⟩ hX.1, fun r w' hq => ?_⟩
  obtain ⟨hr, y, ⟨hT1, hL1⟩, hw'⟩ := hq
  refine ⟨_, hr, step_end (J0 := (JR P C k N K pict pe1 ch1 ru1 J)) (K0 := (KR fr lo fa ki mo sty wset wfor bytes cd sr wi1 ho1 ki1 mo1 so sz2 g KF)) (fun _ => rfl) hw' hT1 (Co.wd (m_cold ki mo cd sr (-1) (JR P C k N K pict pe1 ch1 ru1 J) (KR fr lo fa ki mo sty wset wfor bytes cd sr wi1 ho1 ki1 mo1 so sz2 g KF) fr lo fa sty wset wfor (KF 36, KF 37, KF 38, KF 39, KF 40, KF 34, KF 35) (KF 33, KF 32, KF 41) sy K P C k hP hC hk hL hmo) V_v) (fun r0 w0 hq0 => ?_)⟩
  obtain ⟨hr0, x, z, hw0⟩ := hq0
  exact ⟨hr0, INB_mk hH hN hI hS ⟨hX.1, by rw [hL1]; exact hX.2⟩ hL hT1 (hw0.trans R_v) ho⟩
