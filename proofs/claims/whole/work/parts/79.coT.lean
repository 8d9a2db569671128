set_option maxHeartbeats 4000000 in
set_option maxRecDepth 100000 in
theorem x_ever (fr lo fa ki mo : Nat → Int32) (pe ch sty wset wfor law lent : Int32) (pfr plo pfa pki pmo : Nat → Int32) (ppe pch psty pwset pwfor plaw plent : Int32) (bytes tcodes tends : Nat → Int32) (tsize tat tcn tpl tok : Int32) (efr elo efa eki emo : Nat → Int32) (epe ech esty ewset ewfor elaw elent : Int32) (on was sat stood rose firsts waits till sitter names : Nat → Int32) (satOn risen pict tn brs bst : Int32) (row brow kept asked so sz : Nat → Int32) (ce : Nat → Nat → Int32) (tx : Nat → Option Nat) (T : List va_E) {L : Nat}  (aa bb cc : Int32) : Co M_X6_ever 1 0 0 [.ref 0, .int aa, .int bb, .int cc] (wC fr lo fa ki mo pe ch sty wset wfor law lent pfr plo pfa pki pmo ppe pch psty pwset pwfor plaw plent bytes tcodes tends tsize tat tcn tpl tok efr elo efa eki emo epe ech esty ewset ewfor elaw elent on was sat stood rose firsts waits till sitter names satOn risen pict tn brs bst row brow kept asked so sz ce tx T) (fun r w' => r = some (.int (if mIn aa 1 20 ∧ mIn bb 0 20 ∧ mIn cc 0 20 then kpC aa.toNatClampNeg bb.toNatClampNeg cc else -2)) ∧ ∃ kept', w' = wC fr lo fa ki mo pe ch sty wset wfor law lent pfr plo pfa pki pmo ppe pch psty pwset pwfor plaw plent bytes tcodes tends tsize tat tcn tpl tok efr elo efa eki emo epe ech esty ewset ewfor elaw elent on was sat stood rose firsts waits till sitter names satOn risen pict tn brs bst row brow kept' asked so sz ce tx T) := by
  refine Co.of ok_X6_ever rfl ?_
  refine ww_run 0 3 (pc' := 4) (lv' := [(0, .ref 0), (1, .int aa), (2, .int bb), (3, .int cc)]) (st' := [.int 20, .int 1, .int aa]) (w' := wC fr lo fa ki mo pe ch sty wset wfor law lent pfr plo pfa pki pmo ppe pch psty pwset pwfor plaw plent bytes tcodes tends tsize tat tcn tpl tok efr elo efa eki emo epe ech esty ewset ewfor elaw elent on was sat stood rose firsts waits till sitter names satOn risen pict tn brs bst row brow kept asked so sz ce tx T) (Ps := []) rfl trivial ?_
  refine ww_cSi 3 ok_X6_within (Co.fr0 (c_X6_within aa 1 20) rfl) lk_X6_124 rfl (by omega) (rest := []) rfl (Nat.le_of_ble_eq_true rfl) rfl ?_
  refine ww_if_eq 4 rfl (tgt := 30) rfl (fun c1 => ?_) (fun c1 => ?_)
  · rw [b2i_eq0] at c1
    refine ww_run 15 1 (pc' := 32) (lv' := [(0, .ref 0), (1, .int aa), (2, .int bb), (3, .int cc)]) (st' := [.int (-2)]) (w' := wC fr lo fa ki mo pe ch sty wset wfor law lent pfr plo pfa pki pmo ppe pch psty pwset pwfor plaw plent bytes tcodes tends tsize tat tcn tpl tok efr elo efa eki emo epe ech esty ewset ewfor elaw elent on was sat stood rose firsts waits till sitter names satOn risen pict tn brs bst row brow kept asked so sz ce tx T) (Ps := []) rfl trivial ?_
    refine ww_iret 16 rfl rfl ?_
    exact ⟨by rw [if_neg (by grind)], kept, rfl⟩
  · rw [b2i_ne0] at c1
    refine ww_run 5 3 (pc' := 14) (lv' := [(0, .ref 0), (1, .int aa), (2, .int bb), (3, .int cc)]) (st' := [.int 20, .int 0, .int bb]) (w' := wC fr lo fa ki mo pe ch sty wset wfor law lent pfr plo pfa pki pmo ppe pch psty pwset pwfor plaw plent bytes tcodes tends tsize tat tcn tpl tok efr elo efa eki emo epe ech esty ewset ewfor elaw elent on was sat stood rose firsts waits till sitter names satOn risen pict tn brs bst row brow kept asked so sz ce tx T) (Ps := []) rfl trivial ?_
    refine ww_cSi 8 ok_X6_within (Co.fr0 (c_X6_within bb 0 20) rfl) lk_X6_124 rfl (by omega) (rest := []) rfl (Nat.le_of_ble_eq_true rfl) rfl ?_
    refine ww_if_eq 9 rfl (tgt := 30) rfl (fun c2 => ?_) (fun c2 => ?_)
    · rw [b2i_eq0] at c2
      refine ww_run 15 1 (pc' := 32) (lv' := [(0, .ref 0), (1, .int aa), (2, .int bb), (3, .int cc)]) (st' := [.int (-2)]) (w' := wC fr lo fa ki mo pe ch sty wset wfor law lent pfr plo pfa pki pmo ppe pch psty pwset pwfor plaw plent bytes tcodes tends tsize tat tcn tpl tok efr elo efa eki emo epe ech esty ewset ewfor elaw elent on was sat stood rose firsts waits till sitter names satOn risen pict tn brs bst row brow kept asked so sz ce tx T) (Ps := []) rfl trivial ?_
      refine ww_iret 16 rfl rfl ?_
      exact ⟨by rw [if_neg (by grind)], kept, rfl⟩
    · rw [b2i_ne0] at c2
      refine ww_run 10 3 (pc' := 24) (lv' := [(0, .ref 0), (1, .int aa), (2, .int bb), (3, .int cc)]) (st' := [.int 20, .int 0, .int cc]) (w' := wC fr lo fa ki mo pe ch sty wset wfor law lent pfr plo pfa pki pmo ppe pch psty pwset pwfor plaw plent bytes tcodes tends tsize tat tcn tpl tok efr elo efa eki emo epe ech esty ewset ewfor elaw elent on was sat stood rose firsts waits till sitter names satOn risen pict tn brs bst row brow kept asked so sz ce tx T) (Ps := []) rfl trivial ?_
      refine ww_cSi 13 ok_X6_within (Co.fr0 (c_X6_within cc 0 20) rfl) lk_X6_124 rfl (by omega) (rest := []) rfl (Nat.le_of_ble_eq_true rfl) rfl ?_
      refine ww_if_ne 14 rfl (tgt := 33) rfl (fun c3 => ?_) (fun c3 => ?_)
      · rw [b2i_ne0] at c3
        obtain ⟨M, hM, rfl⟩ := k20 (by decide) c1
        obtain ⟨G, hG, rfl⟩ := k20 (by decide) c2
        obtain ⟨w, hw, rfl⟩ := k20 (by decide) c3
        have h1 := k1 hM c1.1
        refine ww_run 17 4 (pc' := 37) (lv' := [(0, .ref 0), (1, .int (nI M)), (2, .int (nI G)), (3, .int (nI w))]) (st' := [.int (nI w), .int (nI G), .int (nI M), .ref 0]) (w' := wC fr lo fa ki mo pe ch sty wset wfor law lent pfr plo pfa pki pmo ppe pch psty pwset pwfor plaw plent bytes tcodes tends tsize tat tcn tpl tok efr elo efa eki emo epe ech esty ewset ewfor elaw elent on was sat stood rose firsts waits till sitter names satOn risen pict tn brs bst row brow kept asked so sz ce tx T) (Ps := []) rfl trivial ?_
        refine ww_cV 21 ok_X6_coldMinute (x_coldMinute (L := 0) fr lo fa ki mo pe ch sty wset wfor law lent pfr plo pfa pki pmo ppe pch psty pwset pwfor plaw plent bytes tcodes tends tsize tat tcn tpl tok efr elo efa eki emo epe ech esty ewset ewfor elaw elent on was sat stood rose firsts waits till sitter names satOn risen pict tn brs bst row brow kept asked so sz ce tx T M G (nI w) (by omega) (by omega) (by omega)) lk_X6_269 rfl (by omega) (rest := []) rfl (Nat.le_of_ble_eq_true rfl) rfl rfl rfl rfl (fun r w' hq => ?_)
        rw [ring_eq (many := M) (G := G) (w := w) (f := kept) (by omega) (by omega)] at hq
        obtain ⟨rfl, kept1, rfl⟩ := hq
        refine ww_iret 22 rfl rfl ?_
        exact ⟨by simp only [nI_clamp (n := M) (by omega), nI_clamp (n := G) (by omega)]; rw [if_pos ⟨c1, c2, c3⟩], kept1, rfl⟩
      · rw [b2i_eq0] at c3
        refine ww_run 15 1 (pc' := 32) (lv' := [(0, .ref 0), (1, .int aa), (2, .int bb), (3, .int cc)]) (st' := [.int (-2)]) (w' := wC fr lo fa ki mo pe ch sty wset wfor law lent pfr plo pfa pki pmo ppe pch psty pwset pwfor plaw plent bytes tcodes tends tsize tat tcn tpl tok efr elo efa eki emo epe ech esty ewset ewfor elaw elent on was sat stood rose firsts waits till sitter names satOn risen pict tn brs bst row brow kept asked so sz ce tx T) (Ps := []) rfl trivial ?_
        refine ww_iret 16 rfl rfl ?_
        exact ⟨by rw [if_neg (by grind)], kept, rfl⟩
set_option maxHeartbeats 4000000 in
set_option maxRecDepth 100000 in
theorem ly_few_25 {Q : Option Value → List va_E → Prop} {d : Nat} (hd : 1 ≤ d) (fr lo fa ki mo : Nat → Int32) (pe ch sty wset wfor law lent : Int32) (pfr plo pfa pki pmo : Nat → Int32) (ppe pch psty pwset pwfor plaw plent : Int32) (bytes tcodes tends : Nat → Int32) (tsize tat tcn tpl tok : Int32) (efr elo efa eki emo : Nat → Int32) (epe ech esty ewset ewfor elaw elent : Int32) (on was sat stood rose firsts waits till sitter names : Nat → Int32) (satOn risen pict tn brs bst : Int32) (row brow asked so sz : Nat → Int32) (ce : Nat → Nat → Int32) (tx : Nat → Option Nat) (T : List va_E)  (M w : Nat) (hM : M ≤ 20) (h1 : 0 < M) (hw : w ≤ 20) (hQ : ∀ kept, Q (some (.int (firstT (fun q => decide (kpC M q (nI w) = -1)) 21))) (wC fr lo fa ki mo pe ch sty wset wfor law lent pfr plo pfa pki pmo ppe pch psty pwset pwfor plaw plent bytes tcodes tends tsize tat tcn tpl tok efr elo efa eki emo epe ech esty ewset ewfor elaw elent on was sat stood rose firsts waits till sitter names satOn risen pict tn brs bst row brow kept asked so sz ce tx T)) :
    ∀ (n i : Nat) (kept : Nat → Int32), i ≤ 21 → 21 + 1 ≤ i + n → firstT (fun q => decide (kpC M q (nI w) = -1)) i = -1 → WW M_X6_fewest d Q xz 25 [(0, .ref 0), (1, .int (nI M)), (2, .int (nI w)), (3, .int (nI i))] [] (wC fr lo fa ki mo pe ch sty wset wfor law lent pfr plo pfa pki pmo ppe pch psty pwset pwfor plaw plent bytes tcodes tends tsize tat tcn tpl tok efr elo efa eki emo epe ech esty ewset ewfor elaw elent on was sat stood rose firsts waits till sitter names satOn risen pict tn brs bst row brow kept asked so sz ce tx T) := by
  intro n
  induction n with
  | zero => intro i; intros; omega
  | succ n ih =>
    intro i kept hi hn hf
    refine ww_run 14 2 (pc' := 28) (lv' := [(0, .ref 0), (1, .int (nI M)), (2, .int (nI w)), (3, .int (nI i))]) (st' := [.int 20, .int (nI i)]) (w' := wC fr lo fa ki mo pe ch sty wset wfor law lent pfr plo pfa pki pmo ppe pch psty pwset pwfor plaw plent bytes tcodes tends tsize tat tcn tpl tok efr elo efa eki emo epe ech esty ewset ewfor elaw elent on was sat stood rose firsts waits till sitter names satOn risen pict tn brs bst row brow kept asked so sz ce tx T) (Ps := []) rfl trivial ?_
    refine ww_icmp_gt 16 rfl (tgt := 50) rfl (fun c1 => ?_) (fun c1 => ?_)
    · have c1 : 20 < i := (nI_ltI (a := 20) (b := i) (by omega) (by omega)).mp c1
      refine ww_run 28 1 (pc' := 51) (lv' := [(0, .ref 0), (1, .int (nI M)), (2, .int (nI w)), (3, .int (nI i))]) (st' := [.int (-1)]) (w' := wC fr lo fa ki mo pe ch sty wset wfor law lent pfr plo pfa pki pmo ppe pch psty pwset pwfor plaw plent bytes tcodes tends tsize tat tcn tpl tok efr elo efa eki emo epe ech esty ewset ewfor elaw elent on was sat stood rose firsts waits till sitter names satOn risen pict tn brs bst row brow kept asked so sz ce tx T) (Ps := []) rfl trivial ?_
      refine ww_iret 29 rfl rfl ?_
      obtain rfl : i = 21 := by omega
      have hh := hQ kept
      rw [hf] at hh
      exact hh
    · have c1 : ¬ 20 < i := fun q => c1 ((nI_ltI (a := 20) (b := i) (by omega) (by omega)).mpr q)
      refine ww_run 17 4 (pc' := 35) (lv' := [(0, .ref 0), (1, .int (nI M)), (2, .int (nI w)), (3, .int (nI i))]) (st' := [.int (nI w), .int (nI i), .int (nI M), .ref 0]) (w' := wC fr lo fa ki mo pe ch sty wset wfor law lent pfr plo pfa pki pmo ppe pch psty pwset pwfor plaw plent bytes tcodes tends tsize tat tcn tpl tok efr elo efa eki emo epe ech esty ewset ewfor elaw elent on was sat stood rose firsts waits till sitter names satOn risen pict tn brs bst row brow kept asked so sz ce tx T) (Ps := []) rfl trivial ?_
      refine ww_cV 21 ok_X6_coldMinute (x_coldMinute (L := 0) fr lo fa ki mo pe ch sty wset wfor law lent pfr plo pfa pki pmo ppe pch psty pwset pwfor plaw plent bytes tcodes tends tsize tat tcn tpl tok efr elo efa eki emo epe ech esty ewset ewfor elaw elent on was sat stood rose firsts waits till sitter names satOn risen pict tn brs bst row brow kept asked so sz ce tx T M i (nI w) (by omega) (by omega) (by omega)) lk_X6_269 rfl (by omega) (rest := []) rfl (Nat.le_of_ble_eq_true rfl) rfl rfl rfl rfl (fun r w' hq => ?_)
      rw [ring_eq (many := M) (G := i) (w := w) (f := kept) (by omega) (by omega)] at hq
      obtain ⟨rfl, kept1, rfl⟩ := hq
      refine ww_run 22 1 (pc' := 39) (lv' := [(0, .ref 0), (1, .int (nI M)), (2, .int (nI w)), (3, .int (nI i))]) (st' := [.int (-1), .int (kpC M i (nI w))]) (w' := wC fr lo fa ki mo pe ch sty wset wfor law lent pfr plo pfa pki pmo ppe pch psty pwset pwfor plaw plent bytes tcodes tends tsize tat tcn tpl tok efr elo efa eki emo epe ech esty ewset ewfor elaw elent on was sat stood rose firsts waits till sitter names satOn risen pict tn brs bst row brow kept1 asked so sz ce tx T) (Ps := []) rfl trivial ?_
      refine ww_icmp_ne 23 rfl (tgt := 44) rfl (fun c2 => ?_) (fun c2 => ?_)
      · refine ww_run 26 2 (pc' := 25) (lv' := [(3, .int ((nI i) + 1)), (0, .ref 0), (1, .int (nI M)), (2, .int (nI w))]) (st' := []) (w' := wC fr lo fa ki mo pe ch sty wset wfor law lent pfr plo pfa pki pmo ppe pch psty pwset pwfor plaw plent bytes tcodes tends tsize tat tcn tpl tok efr elo efa eki emo epe ech esty ewset ewfor elaw elent on was sat stood rose firsts waits till sitter names satOn risen pict tn brs bst row brow kept1 asked so sz ce tx T) (Ps := []) rfl trivial ?_
        rw [nI_1 i]
        refine ww_lv [1, 2, 3, 0] (lv' := [(0, .ref 0), (1, .int (nI M)), (2, .int (nI w)), (3, .int (nI (i + 1)))]) rfl ?_
        exact ih (i + 1) kept1 (by omega) (by omega) (firstT_no hf (decide_eq_false c2))
      · refine ww_run 24 1 (pc' := 43) (lv' := [(0, .ref 0), (1, .int (nI M)), (2, .int (nI w)), (3, .int (nI i))]) (st' := [.int (nI i)]) (w' := wC fr lo fa ki mo pe ch sty wset wfor law lent pfr plo pfa pki pmo ppe pch psty pwset pwfor plaw plent bytes tcodes tends tsize tat tcn tpl tok efr elo efa eki emo epe ech esty ewset ewfor elaw elent on was sat stood rose firsts waits till sitter names satOn risen pict tn brs bst row brow kept1 asked so sz ce tx T) (Ps := []) rfl trivial ?_
        refine ww_iret 25 rfl rfl ?_
        have hh := hQ kept1
        rw [firstT_stay hf (decide_eq_true c2) (by omega) (by omega)] at hh
        exact hh
set_option maxHeartbeats 4000000 in
set_option maxRecDepth 100000 in
theorem x_fewest (fr lo fa ki mo : Nat → Int32) (pe ch sty wset wfor law lent : Int32) (pfr plo pfa pki pmo : Nat → Int32) (ppe pch psty pwset pwfor plaw plent : Int32) (bytes tcodes tends : Nat → Int32) (tsize tat tcn tpl tok : Int32) (efr elo efa eki emo : Nat → Int32) (epe ech esty ewset ewfor elaw elent : Int32) (on was sat stood rose firsts waits till sitter names : Nat → Int32) (satOn risen pict tn brs bst : Int32) (row brow kept asked so sz : Nat → Int32) (ce : Nat → Nat → Int32) (tx : Nat → Option Nat) (T : List va_E) {L : Nat}  (aa cc : Int32) : Co M_X6_fewest 2 0 0 [.ref 0, .int aa, .int cc] (wC fr lo fa ki mo pe ch sty wset wfor law lent pfr plo pfa pki pmo ppe pch psty pwset pwfor plaw plent bytes tcodes tends tsize tat tcn tpl tok efr elo efa eki emo epe ech esty ewset ewfor elaw elent on was sat stood rose firsts waits till sitter names satOn risen pict tn brs bst row brow kept asked so sz ce tx T) (fun r w' => r = some (.int (if mIn aa 1 20 ∧ mIn cc 0 20 then firstT (fun q => decide (kpC aa.toNatClampNeg q cc = -1)) 21 else -2)) ∧ ∃ kept', w' = wC fr lo fa ki mo pe ch sty wset wfor law lent pfr plo pfa pki pmo ppe pch psty pwset pwfor plaw plent bytes tcodes tends tsize tat tcn tpl tok efr elo efa eki emo epe ech esty ewset ewfor elaw elent on was sat stood rose firsts waits till sitter names satOn risen pict tn brs bst row brow kept' asked so sz ce tx T) := by
  refine Co.of ok_X6_fewest rfl ?_
  refine ww_run 0 3 (pc' := 4) (lv' := [(0, .ref 0), (1, .int aa), (2, .int cc)]) (st' := [.int 20, .int 1, .int aa]) (w' := wC fr lo fa ki mo pe ch sty wset wfor law lent pfr plo pfa pki pmo ppe pch psty pwset pwfor plaw plent bytes tcodes tends tsize tat tcn tpl tok efr elo efa eki emo epe ech esty ewset ewfor elaw elent on was sat stood rose firsts waits till sitter names satOn risen pict tn brs bst row brow kept asked so sz ce tx T) (Ps := []) rfl trivial ?_
  refine ww_cSi 3 ok_X6_within (Co.fr0 (c_X6_within aa 1 20) rfl) lk_X6_124 rfl (by omega) (rest := []) rfl (Nat.le_of_ble_eq_true rfl) rfl ?_
  refine ww_if_eq 4 rfl (tgt := 20) rfl (fun c1 => ?_) (fun c1 => ?_)
  · rw [b2i_eq0] at c1
    refine ww_run 10 1 (pc' := 22) (lv' := [(0, .ref 0), (1, .int aa), (2, .int cc)]) (st' := [.int (-2)]) (w' := wC fr lo fa ki mo pe ch sty wset wfor law lent pfr plo pfa pki pmo ppe pch psty pwset pwfor plaw plent bytes tcodes tends tsize tat tcn tpl tok efr elo efa eki emo epe ech esty ewset ewfor elaw elent on was sat stood rose firsts waits till sitter names satOn risen pict tn brs bst row brow kept asked so sz ce tx T) (Ps := []) rfl trivial ?_
    refine ww_iret 11 rfl rfl ?_
    exact ⟨by rw [if_neg (by grind)], kept, rfl⟩
  · rw [b2i_ne0] at c1
    refine ww_run 5 3 (pc' := 14) (lv' := [(0, .ref 0), (1, .int aa), (2, .int cc)]) (st' := [.int 20, .int 0, .int cc]) (w' := wC fr lo fa ki mo pe ch sty wset wfor law lent pfr plo pfa pki pmo ppe pch psty pwset pwfor plaw plent bytes tcodes tends tsize tat tcn tpl tok efr elo efa eki emo epe ech esty ewset ewfor elaw elent on was sat stood rose firsts waits till sitter names satOn risen pict tn brs bst row brow kept asked so sz ce tx T) (Ps := []) rfl trivial ?_
    refine ww_cSi 8 ok_X6_within (Co.fr0 (c_X6_within cc 0 20) rfl) lk_X6_124 rfl (by omega) (rest := []) rfl (Nat.le_of_ble_eq_true rfl) rfl ?_
    refine ww_if_ne 9 rfl (tgt := 23) rfl (fun c2 => ?_) (fun c2 => ?_)
    · rw [b2i_ne0] at c2
      obtain ⟨M, hM, rfl⟩ := k20 (by decide) c1
      obtain ⟨w, hw, rfl⟩ := k20 (by decide) c2
      have h1 := k1 hM c1.1
      refine ww_run 12 2 (pc' := 25) (lv' := [(3, .int 0), (0, .ref 0), (1, .int (nI M)), (2, .int (nI w))]) (st' := []) (w' := wC fr lo fa ki mo pe ch sty wset wfor law lent pfr plo pfa pki pmo ppe pch psty pwset pwfor plaw plent bytes tcodes tends tsize tat tcn tpl tok efr elo efa eki emo epe ech esty ewset ewfor elaw elent on was sat stood rose firsts waits till sitter names satOn risen pict tn brs bst row brow kept asked so sz ce tx T) (Ps := []) rfl trivial ?_
      refine ww_lv [1, 2, 3, 0] (lv' := [(0, .ref 0), (1, .int (nI M)), (2, .int (nI w)), (3, .int 0)]) rfl ?_
      exact ly_few_25 (by omega) fr lo fa ki mo pe ch sty wset wfor law lent pfr plo pfa pki pmo ppe pch psty pwset pwfor plaw plent bytes tcodes tends tsize tat tcn tpl tok efr elo efa eki emo epe ech esty ewset ewfor elaw elent on was sat stood rose firsts waits till sitter names satOn risen pict tn brs bst row brow asked so sz ce tx T M w hM h1 hw (fun kept => ⟨by simp only [nI_clamp (n := M) (by omega)]; rw [if_pos ⟨c1, c2⟩], kept, rfl⟩) 22 0 kept (by omega) (by omega) rfl
    · rw [b2i_eq0] at c2
      refine ww_run 10 1 (pc' := 22) (lv' := [(0, .ref 0), (1, .int aa), (2, .int cc)]) (st' := [.int (-2)]) (w' := wC fr lo fa ki mo pe ch sty wset wfor law lent pfr plo pfa pki pmo ppe pch psty pwset pwfor plaw plent bytes tcodes tends tsize tat tcn tpl tok efr elo efa eki emo epe ech esty ewset ewfor elaw elent on was sat stood rose firsts waits till sitter names satOn risen pict tn brs bst row brow kept asked so sz ce tx T) (Ps := []) rfl trivial ?_
      refine ww_iret 11 rfl rfl ?_
      exact ⟨by rw [if_neg (by grind)], kept, rfl⟩
