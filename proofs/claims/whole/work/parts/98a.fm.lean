abbrev wM (J : Nat → Int32) (K : Nat → Nat → Int32) : List va_E :=
  [.inr (6, [.int (J 0), .ref 1, .int (J 2), .ref 2, .ref 3, .ref 4, .ref 5, .int (J 7), .ref 6, .ref 7, .int (J 10), .int (J 11), .int (J 12), .int (J 13), .int (J 14), .int (J 15), .ref 8, .ref 9, .ref 10, .ref 11, .ref 12, .ref 13, .ref 14, .int (J 23), .int (J 24), .int (J 25), .int (J 26), .ref 15, .ref 16, .int (J 29), .int (J 30), .int (J 31), .ref 17, .ref 18, .ref 19, .ref 20, .ref 21, .ref 22, .ref 23, .ref 24, .ref 25, .ref 26, .int (J 42), .ref 27, .int (J 44), .int (J 45), .ref 28]),
   iA 15 (K 1),
   iA 6 (K 3),
   iA 6 (K 4),
   iA 3 (K 5),
   iA 160 (K 6),
   iA 1200 (K 8),
   iA 24 (K 9),
   iA 15 (K 16),
   iA 3 (K 17),
   iA 12 (K 18),
   iA 4 (K 19),
   iA 4 (K 20),
   iA 160 (K 21),
   iA 50 (K 22),
   iA 96 (K 27),
   iA 200 (K 28),
   iA 200 (K 32),
   iA 6 (K 33),
   iA 6 (K 34),
   iA 6 (K 35),
   iA 5 (K 36),
   iA 5 (K 37),
   iA 5 (K 38),
   iA 5 (K 39),
   iA 5 (K 40),
   iA 5 (K 41),
   iA 5 (K 43),
   iA 20 (K 46)]
set_option maxHeartbeats 8000000 in
set_option maxRecDepth 100000 in
theorem hsM (fr lo fa ki mo : Nat → Int32) (pe ch sty wset wfor law lent : Int32) (pfr plo pfa pki pmo : Nat → Int32) (ppe pch psty pwset pwfor plaw plent : Int32) (bytes tcodes tends : Nat → Int32) (tsize tat tcn tpl tok : Int32) (efr elo efa eki emo : Nat → Int32) (epe ech esty ewset ewfor elaw elent : Int32) (on was sat stood rose firsts waits till sitter names : Nat → Int32) (satOn risen pict tn brs bst : Int32) (row brow kept asked so sz : Nat → Int32) (ce : Nat → Nat → Int32) (tx : Nat → Option Nat) (T : List va_E) {wsub : List va_E} {K : Nat} {sy : SY} {md : Nat → Option va_E} (hT : TI T K sy md) (hm : ∀ j, j < 29 → md j = mdOf wsub j) (h29 : wsub.length = 29) : rhM.map (fun i => (wC fr lo fa ki mo pe ch sty wset wfor law lent pfr plo pfa pki pmo ppe pch psty pwset pwfor plaw plent bytes tcodes tends tsize tat tcn tpl tok efr elo efa eki emo epe ech esty ewset ewfor elaw elent on was sat stood rose firsts waits till sitter names satOn risen pict tn brs bst row brow kept asked so sz ce tx T)[i]?) = wsub.map (fun e => some (xe (fun k => k) (xr rhM) e)) := by
  have h1 : rhM.map (fun i => (wC fr lo fa ki mo pe ch sty wset wfor law lent pfr plo pfa pki pmo ppe pch psty pwset pwfor plaw plent bytes tcodes tends tsize tat tcn tpl tok efr elo efa eki emo epe ech esty ewset ewfor elaw elent on was sat stood rose firsts waits till sitter names satOn risen pict tn brs bst row brow kept asked so sz ce tx T)[i]?) = (List.range 29).map (fun j => T[j + 4]?) := rfl
  rw [h1]
  apply List.ext_getElem?
  intro j
  rw [List.getElem?_map, List.getElem?_map]
  by_cases hj : j < 29
  · rw [List.getElem?_range hj]
    show some (T[j + 4]?) = _
    rw [hT.2.2.1 j hj, hm j hj]
    unfold mdOf
    rw [List.getElem?_eq_getElem (show j < wsub.length by omega)]
    rfl
  · rw [List.getElem?_eq_none (by simp; omega), List.getElem?_eq_none (by omega)]
    rfl
set_option maxHeartbeats 8000000 in
set_option maxRecDepth 100000 in
/-- the reference's contracts beside the component -/
theorem Co.frM (fr lo fa ki mo : Nat → Int32) (pe ch sty wset wfor law lent : Int32) (pfr plo pfa pki pmo : Nat → Int32) (ppe pch psty pwset pwfor plaw plent : Int32) (bytes tcodes tends : Nat → Int32) (tsize tat tcn tpl tok : Int32) (efr elo efa eki emo : Nat → Int32) (epe ech esty ewset ewfor elaw elent : Int32) (on was sat stood rose firsts waits till sitter names : Nat → Int32) (satOn risen pict tn brs bst : Int32) (row brow kept asked so sz : Nat → Int32) (ce : Nat → Nat → Int32) (tx : Nat → Option Nat) (T : List va_E) {M : XM} {d : Nat} {av : List Value} {Q : Option Value → List va_E → Prop} {wsub : List va_E} {K : Nat} {sy : SY} {md : Nat → Option va_E} (hT : TI T K sy md) (hm : ∀ j, j < 29 → md j = mdOf wsub j) (h29 : wsub.length = 29) (h : Co M d 0 0 av wsub Q) :
    Co M d 0 0 (av.map (xt (xr rhM))) (wC fr lo fa ki mo pe ch sty wset wfor law lent pfr plo pfa pki pmo ppe pch psty pwset pwfor plaw plent bytes tcodes tends tsize tat tcn tpl tok efr elo efa eki emo epe ech esty ewset ewfor elaw elent on was sat stood rose firsts waits till sitter names satOn risen pict tn brs bst row brow kept asked so sz ce tx T) (fun r w' => ∃ (r0 : Option Value) (w0 : List va_E), Q r0 w0 ∧ r = r0.map (xt (xr rhM)) ∧ w' = wC fr lo fa ki mo pe ch sty wset wfor law lent pfr plo pfa pki pmo ppe pch psty pwset pwfor plaw plent bytes tcodes tends tsize tat tcn tpl tok efr elo efa eki emo epe ech esty ewset ewfor elaw elent on was sat stood rose firsts waits till sitter names satOn risen pict tn brs bst row brow kept asked so sz ce tx (ovT T w0)) := by
  refine (Co.frame rhM h (hsM fr lo fa ki mo pe ch sty wset wfor law lent pfr plo pfa pki pmo ppe pch psty pwset pwfor plaw plent bytes tcodes tends tsize tat tcn tpl tok efr elo efa eki emo epe ech esty ewset ewfor elaw elent on was sat stood rose firsts waits till sitter names satOn risen pict tn brs bst row brow kept asked so sz ce tx T hT hm h29) (by decide)).imp (fun r w' hq => ?_)
  obtain ⟨r0, w0, q1, q2, q3⟩ := hq
  refine ⟨r0, w0, q1, q2, q3.trans ?_⟩
  exact xgr_app (xr rhM) (wC fr lo fa ki mo pe ch sty wset wfor law lent pfr plo pfa pki pmo ppe pch psty pwset pwfor plaw plent bytes tcodes tends tsize tat tcn tpl tok efr elo efa eki emo epe ech esty ewset ewfor elaw elent on was sat stood rose firsts waits till sitter names satOn risen pict tn brs bst row brow kept asked so sz ce tx []) rhT T w0
theorem wM_len (J : Nat → Int32) (K : Nat → Nat → Int32) : (wM J K).length = 29 := rfl
