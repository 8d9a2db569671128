theorem in_nI {k K : Nat} (h : k < K) (hK : K ≤ 1000) : mIn (nI k) 0 (nI K - 1) := by
  refine ⟨nI_pos' (by omega), ?_⟩
  rw [Int32.le_iff_toInt_le, nI_toInt (by omega), show nI K - (1 : Int32) = nI K - nI 1 from rfl, pk_sub_toInt (by omega) (by omega)]
  omega
/-- what a call may leave as it likes: the house and the rows of the evening that was tried, the tail -/
abbrev CY : Type := ((Nat → Int32) × (Nat → Int32) × (Nat → Int32) × (Nat → Int32) × (Nat → Int32) × Int32 × Int32 × Int32 × Int32 × Int32 × Int32 × Int32) × ES × ((Nat → Int32) × (Nat → Int32) × (Nat → Int32)) × (Int32 × Int32 × (Nat → Int32) × (Nat → Int32) × (Nat → Int32) × (Nat → Int32)) × List va_E
set_option maxHeartbeats 4000000 in
set_option maxRecDepth 100000 in
theorem c_X6_within  (v a b : Int32) : Co M_X6_within 0 0 0 [.int v, .int a, .int b] (wZero ) (Qi (b2i (mIn v a b)) wZero ) := by
  refine Co.of ok_X6_within rfl ?_
  refine ww_run 0 2 (pc' := 2) (lv' := [(0, .int v), (1, .int a), (2, .int b)]) (st' := [.int a, .int v]) (w' := wZero ) (Ps := []) rfl trivial ?_
  refine ww_icmp_lt 2 rfl (tgt := 14) rfl (fun c1 => ?_) (fun c1 => ?_)
  · refine ww_run 8 1 (pc' := 15) (lv' := [(0, .int v), (1, .int a), (2, .int b)]) (st' := [.int 0]) (w' := wZero ) (Ps := []) rfl trivial ?_
    refine ww_zret 9 rfl rfl rfl ?_
    exact ⟨by rw [b2i_f (by grind)], rfl⟩
  · refine ww_run 3 2 (pc' := 7) (lv' := [(0, .int v), (1, .int a), (2, .int b)]) (st' := [.int b, .int v]) (w' := wZero ) (Ps := []) rfl trivial ?_
    refine ww_icmp_gt 5 rfl (tgt := 14) rfl (fun c2 => ?_) (fun c2 => ?_)
    · refine ww_run 8 1 (pc' := 15) (lv' := [(0, .int v), (1, .int a), (2, .int b)]) (st' := [.int 0]) (w' := wZero ) (Ps := []) rfl trivial ?_
      refine ww_zret 9 rfl rfl rfl ?_
      exact ⟨by rw [b2i_f (by grind)], rfl⟩
    · refine ww_run 6 2 (pc' := 15) (lv' := [(0, .int v), (1, .int a), (2, .int b)]) (st' := [.int 1]) (w' := wZero ) (Ps := []) rfl trivial ?_
      refine ww_zret 9 rfl rfl rfl ?_
      exact ⟨by rw [b2i_t (by grind)], rfl⟩
set_option maxHeartbeats 4000000 in
set_option maxRecDepth 100000 in
theorem c_X6_isByte  (x : Int32) : Co M_X6_isByte 1 0 0 [.int x] (wZero ) (Qi (b2i (mIn x 0 255)) wZero ) := by
  refine Co.of ok_X6_isByte rfl ?_
  refine ww_run 0 3 (pc' := 5) (lv' := [(0, .int x)]) (st' := [.int 255, .int 0, .int x]) (w' := wZero ) (Ps := []) rfl trivial ?_
  refine ww_cSi 3 ok_X6_within (Co.fr0 (c_X6_within x 0 255) rfl) lk_X6_124 rfl (by omega) (rest := []) rfl (Nat.le_of_ble_eq_true rfl) rfl ?_
  refine ww_zret 4 rfl rfl (b2i_nar _) ?_
  exact ⟨rfl, rfl⟩
set_option maxHeartbeats 4000000 in
set_option maxRecDepth 100000 in
theorem c_X6_isSheet  (x : Int32) : Co M_X6_isSheet 1 0 0 [.int x] (wZero ) (Qi (b2i (mIn x 0 3)) wZero ) := by
  refine Co.of ok_X6_isSheet rfl ?_
  refine ww_run 0 3 (pc' := 3) (lv' := [(0, .int x)]) (st' := [.int 3, .int 0, .int x]) (w' := wZero ) (Ps := []) rfl trivial ?_
  refine ww_cSi 3 ok_X6_within (Co.fr0 (c_X6_within x 0 3) rfl) lk_X6_124 rfl (by omega) (rest := []) rfl (Nat.le_of_ble_eq_true rfl) rfl ?_
  refine ww_zret 4 rfl rfl (b2i_nar _) ?_
  exact ⟨rfl, rfl⟩
set_option maxHeartbeats 4000000 in
set_option maxRecDepth 100000 in
theorem c_X6_isKind  (x v : Int32) : Co M_X6_isKind 1 0 0 [.int x, .int v] (wZero ) (Qi (b2i (mSo x v)) wZero ) := by
  refine Co.of ok_X6_isKind rfl ?_
  refine ww_run 0 3 (pc' := 3) (lv' := [(0, .int x), (1, .int v)]) (st' := [.int 5, .int 0, .int x]) (w' := wZero ) (Ps := []) rfl trivial ?_
  refine ww_cSi 3 ok_X6_within (Co.fr0 (c_X6_within x 0 5) rfl) lk_X6_124 rfl (by omega) (rest := []) rfl (Nat.le_of_ble_eq_true rfl) rfl ?_
  refine ww_if_eq 4 rfl (tgt := 23) rfl (fun c1 => ?_) (fun c1 => ?_)
  · rw [b2i_eq0] at c1
    refine ww_run 12 1 (pc' := 24) (lv' := [(0, .int x), (1, .int v)]) (st' := [.int 0]) (w' := wZero ) (Ps := []) rfl trivial ?_
    refine ww_zret 13 rfl rfl rfl ?_
    exact ⟨by rw [b2i_f (by grind)], rfl⟩
  · rw [b2i_ne0] at c1
    refine ww_run 5 3 (pc' := 13) (lv' := [(0, .int x), (1, .int v)]) (st' := [.int 9, .int 0, .int v]) (w' := wZero ) (Ps := []) rfl trivial ?_
    refine ww_cSi 8 ok_X6_within (Co.fr0 (c_X6_within v 0 9) rfl) lk_X6_124 rfl (by omega) (rest := []) rfl (Nat.le_of_ble_eq_true rfl) rfl ?_
    refine ww_if_eq 9 rfl (tgt := 23) rfl (fun c2 => ?_) (fun c2 => ?_)
    · rw [b2i_eq0] at c2
      refine ww_run 12 1 (pc' := 24) (lv' := [(0, .int x), (1, .int v)]) (st' := [.int 0]) (w' := wZero ) (Ps := []) rfl trivial ?_
      refine ww_zret 13 rfl rfl rfl ?_
      exact ⟨by rw [b2i_f (by grind)], rfl⟩
    · rw [b2i_ne0] at c2
      refine ww_run 10 2 (pc' := 24) (lv' := [(0, .int x), (1, .int v)]) (st' := [.int 1]) (w' := wZero ) (Ps := []) rfl trivial ?_
      refine ww_zret 13 rfl rfl rfl ?_
      exact ⟨by rw [b2i_t (by grind)], rfl⟩
set_option maxHeartbeats 4000000 in
set_option maxRecDepth 100000 in
theorem c_X6_isWish  (what v : Int32) : Co M_X6_isWish 1 0 0 [.int what, .int v] (wZero ) (Qi (b2i (wOK what v)) wZero ) := by
  refine Co.of ok_X6_isWish rfl ?_
  refine ww_run 0 1 (pc' := 1) (lv' := [(0, .int what), (1, .int v)]) (st' := [.int what]) (w' := wZero ) (Ps := []) rfl trivial ?_
  by_cases q0 : what = 0
  · refine ww_tabI 1 rfl (by rw [q0]; decide) (by rw [q0]; decide) (off := 27) (by rw [q0]; rfl) (tgt := 28) rfl ?_
    refine ww_run 2 3 (pc' := 32) (lv' := [(0, .int what), (1, .int v)]) (st' := [.int 29, .int 0, .int v]) (w' := wZero ) (Ps := []) rfl trivial ?_
    refine ww_cSi 5 ok_X6_within (Co.fr0 (c_X6_within v 0 29) rfl) lk_X6_124 rfl (by omega) (rest := []) rfl (Nat.le_of_ble_eq_true rfl) rfl ?_
    refine ww_zret 6 rfl rfl (b2i_nar _) ?_
    exact ⟨congrArg (fun x => some (Value.int x)) (by unfold b2i; congr 1; unfold wOK; rw [eq_iff_iff]; grind), rfl⟩
  by_cases q1 : what = 1
  · refine ww_tabI 1 rfl (by rw [q1]; decide) (by rw [q1]; decide) (off := 35) (by rw [q1]; rfl) (tgt := 36) rfl ?_
    refine ww_run 7 3 (pc' := 40) (lv' := [(0, .int what), (1, .int v)]) (st' := [.int 9, .int 1, .int v]) (w' := wZero ) (Ps := []) rfl trivial ?_
    refine ww_cSi 10 ok_X6_within (Co.fr0 (c_X6_within v 1 9) rfl) lk_X6_124 rfl (by omega) (rest := []) rfl (Nat.le_of_ble_eq_true rfl) rfl ?_
    refine ww_zret 11 rfl rfl (b2i_nar _) ?_
    exact ⟨congrArg (fun x => some (Value.int x)) (by unfold b2i; congr 1; unfold wOK; rw [eq_iff_iff]; grind), rfl⟩
  by_cases q2 : what = 2
  · refine ww_tabI 1 rfl (by rw [q2]; decide) (by rw [q2]; decide) (off := 43) (by rw [q2]; rfl) (tgt := 44) rfl ?_
    refine ww_run 12 3 (pc' := 48) (lv' := [(0, .int what), (1, .int v)]) (st' := [.int 9, .int 0, .int v]) (w' := wZero ) (Ps := []) rfl trivial ?_
    refine ww_cSi 15 ok_X6_within (Co.fr0 (c_X6_within v 0 9) rfl) lk_X6_124 rfl (by omega) (rest := []) rfl (Nat.le_of_ble_eq_true rfl) rfl ?_
    refine ww_zret 16 rfl rfl (b2i_nar _) ?_
    exact ⟨congrArg (fun x => some (Value.int x)) (by unfold b2i; congr 1; unfold wOK; rw [eq_iff_iff]; grind), rfl⟩
  refine ww_tabO 1 rfl (by have z0 := lv_neT q0 (a := 0) rfl; have z1 := lv_neT q1 (a := 1) rfl; have z2 := lv_neT q2 (a := 2) rfl; omega) (tgt := 52) rfl ?_
  refine ww_run 17 1 (pc' := 53) (lv' := [(0, .int what), (1, .int v)]) (st' := [.int 0]) (w' := wZero ) (Ps := []) rfl trivial ?_
  refine ww_zret 18 rfl rfl rfl ?_
  exact ⟨by rw [b2i_f (by unfold wOK; grind)], rfl⟩
set_option maxHeartbeats 4000000 in
set_option maxRecDepth 100000 in
theorem x_isPerson (fr lo fa ki mo : Nat → Int32) (pe ch sty wset wfor law lent : Int32) (pfr plo pfa pki pmo : Nat → Int32) (ppe pch psty pwset pwfor plaw plent : Int32) (bytes tcodes tends : Nat → Int32) (tsize tat tcn tpl tok : Int32) (efr elo efa eki emo : Nat → Int32) (epe ech esty ewset ewfor elaw elent : Int32) (on was sat stood rose firsts waits till sitter names : Nat → Int32) (satOn risen pict tn brs bst : Int32) (row brow kept asked so sz : Nat → Int32) (ce : Nat → Nat → Int32) (tx : Nat → Option Nat) (T : List va_E) {L : Nat}  (x : Int32) : Co M_X6_isPerson 1 0 0 [.ref 0, .int x] (wC fr lo fa ki mo pe ch sty wset wfor law lent pfr plo pfa pki pmo ppe pch psty pwset pwfor plaw plent bytes tcodes tends tsize tat tcn tpl tok efr elo efa eki emo epe ech esty ewset ewfor elaw elent on was sat stood rose firsts waits till sitter names satOn risen pict tn brs bst row brow kept asked so sz ce tx T) (Qi (b2i (mIn x 0 (pe - 1))) (wC fr lo fa ki mo pe ch sty wset wfor law lent pfr plo pfa pki pmo ppe pch psty pwset pwfor plaw plent bytes tcodes tends tsize tat tcn tpl tok efr elo efa eki emo epe ech esty ewset ewfor elaw elent on was sat stood rose firsts waits till sitter names satOn risen pict tn brs bst row brow kept asked so sz ce tx T)) := by
  refine Co.of ok_X6_isPerson rfl ?_
  refine ww_run 0 7 (pc' := 11) (lv' := [(0, .ref 0), (1, .int x)]) (st' := [.int (pe - 1), .int 0, .int x]) (w' := wC fr lo fa ki mo pe ch sty wset wfor law lent pfr plo pfa pki pmo ppe pch psty pwset pwfor plaw plent bytes tcodes tends tsize tat tcn tpl tok efr elo efa eki emo epe ech esty ewset ewfor elaw elent on was sat stood rose firsts waits till sitter names satOn risen pict tn brs bst row brow kept asked so sz ce tx T) (Ps := []) rfl trivial ?_
  refine ww_cSi 7 ok_X6_within (Co.fr0 (c_X6_within x 0 (pe - 1)) rfl) lk_X6_124 rfl (by omega) (rest := []) rfl (Nat.le_of_ble_eq_true rfl) rfl ?_
  refine ww_zret 8 rfl rfl (b2i_nar _) ?_
  exact ⟨rfl, rfl⟩
set_option maxHeartbeats 4000000 in
set_option maxRecDepth 100000 in
theorem x_isChair (fr lo fa ki mo : Nat → Int32) (pe ch sty wset wfor law lent : Int32) (pfr plo pfa pki pmo : Nat → Int32) (ppe pch psty pwset pwfor plaw plent : Int32) (bytes tcodes tends : Nat → Int32) (tsize tat tcn tpl tok : Int32) (efr elo efa eki emo : Nat → Int32) (epe ech esty ewset ewfor elaw elent : Int32) (on was sat stood rose firsts waits till sitter names : Nat → Int32) (satOn risen pict tn brs bst : Int32) (row brow kept asked so sz : Nat → Int32) (ce : Nat → Nat → Int32) (tx : Nat → Option Nat) (T : List va_E) {L : Nat}  (x : Int32) : Co M_X6_isChair 1 0 0 [.ref 0, .int x] (wC fr lo fa ki mo pe ch sty wset wfor law lent pfr plo pfa pki pmo ppe pch psty pwset pwfor plaw plent bytes tcodes tends tsize tat tcn tpl tok efr elo efa eki emo epe ech esty ewset ewfor elaw elent on was sat stood rose firsts waits till sitter names satOn risen pict tn brs bst row brow kept asked so sz ce tx T) (Qi (b2i (mIn x 0 (ch - 1))) (wC fr lo fa ki mo pe ch sty wset wfor law lent pfr plo pfa pki pmo ppe pch psty pwset pwfor plaw plent bytes tcodes tends tsize tat tcn tpl tok efr elo efa eki emo epe ech esty ewset ewfor elaw elent on was sat stood rose firsts waits till sitter names satOn risen pict tn brs bst row brow kept asked so sz ce tx T)) := by
  refine Co.of ok_X6_isChair rfl ?_
  refine ww_run 0 7 (pc' := 11) (lv' := [(0, .ref 0), (1, .int x)]) (st' := [.int (ch - 1), .int 0, .int x]) (w' := wC fr lo fa ki mo pe ch sty wset wfor law lent pfr plo pfa pki pmo ppe pch psty pwset pwfor plaw plent bytes tcodes tends tsize tat tcn tpl tok efr elo efa eki emo epe ech esty ewset ewfor elaw elent on was sat stood rose firsts waits till sitter names satOn risen pict tn brs bst row brow kept asked so sz ce tx T) (Ps := []) rfl trivial ?_
  refine ww_cSi 7 ok_X6_within (Co.fr0 (c_X6_within x 0 (ch - 1)) rfl) lk_X6_124 rfl (by omega) (rest := []) rfl (Nat.le_of_ble_eq_true rfl) rfl ?_
  refine ww_zret 8 rfl rfl (b2i_nar _) ?_
  exact ⟨rfl, rfl⟩
set_option maxHeartbeats 4000000 in
set_option maxRecDepth 100000 in
theorem x_lawOf (fr lo fa ki mo : Nat → Int32) (pe ch sty wset wfor lent : Int32) (pfr plo pfa pki pmo : Nat → Int32) (ppe pch psty pwset pwfor plaw plent : Int32) (bytes tcodes tends : Nat → Int32) (tsize tat tcn tpl tok : Int32) (efr elo efa eki emo : Nat → Int32) (epe ech esty ewset ewfor elaw elent : Int32) (on was sat stood rose firsts waits till sitter names : Nat → Int32) (satOn risen pict brs bst : Int32) (row brow kept asked so sz : Nat → Int32) (ce : Nat → Nat → Int32) (tx : Nat → Option Nat) (T : List va_E) {L : Nat} (k K : Nat) (hk : k < K) (hK6 : K ≤ 6) (htx : ∀ t, t < K → tx t = some (lb t + 48))  : Co M_X6_lawOf 1 0 0 [.ref 0, .ref 1] (wC fr lo fa ki mo pe ch sty wset wfor (nI k) lent pfr plo pfa pki pmo ppe pch psty pwset pwfor plaw plent bytes tcodes tends tsize tat tcn tpl tok efr elo efa eki emo epe ech esty ewset ewfor elaw elent on was sat stood rose firsts waits till sitter names satOn risen pict (nI K) brs bst row brow kept asked so sz ce tx T) (fun r w' => r = some (.ref (lb k + 48)) ∧ w' = wC fr lo fa ki mo pe ch sty wset wfor (nI k) lent pfr plo pfa pki pmo ppe pch psty pwset pwfor plaw plent bytes tcodes tends tsize tat tcn tpl tok efr elo efa eki emo epe ech esty ewset ewfor elaw elent on was sat stood rose firsts waits till sitter names satOn risen pict (nI K) brs bst row brow kept asked so sz ce tx T) := by
  refine Co.of ok_X6_lawOf rfl ?_
  refine ww_run 0 9 (pc' := 15) (lv' := [(0, .ref 0), (1, .ref 1)]) (st' := [.int ((nI K) - 1), .int 0, .int (nI k), .ref 17]) (w' := wC fr lo fa ki mo pe ch sty wset wfor (nI k) lent pfr plo pfa pki pmo ppe pch psty pwset pwfor plaw plent bytes tcodes tends tsize tat tcn tpl tok efr elo efa eki emo epe ech esty ewset ewfor elaw elent on was sat stood rose firsts waits till sitter names satOn risen pict (nI K) brs bst row brow kept asked so sz ce tx T) (Ps := []) rfl trivial ?_
  refine ww_cSi 9 ok_X6_within (Co.fr0 (c_X6_within (nI k) 0 ((nI K) - 1)) rfl) lk_X6_124 rfl (by omega) (rest := [.ref 17]) rfl (Nat.le_of_ble_eq_true rfl) rfl ?_
  refine ww_if_eq 10 rfl (tgt := 28) rfl (fun c1 => ?_) (fun c1 => ?_)
  · rw [b2i_eq0] at c1
    exact absurd (in_nI hk (by omega)) c1
  · rw [b2i_ne0] at c1
    refine ww_run 11 3 (pc' := 29) (lv' := [(0, .ref 0), (1, .ref 1)]) (st' := [.int (nI k), .ref 17]) (w' := wC fr lo fa ki mo pe ch sty wset wfor (nI k) lent pfr plo pfa pki pmo ppe pch psty pwset pwfor plaw plent bytes tcodes tends tsize tat tcn tpl tok efr elo efa eki emo epe ech esty ewset ewfor elaw elent on was sat stood rose firsts waits till sitter names satOn risen pict (nI K) brs bst row brow kept asked so sz ce tx T) (Ps := []) rfl trivial ?_
    refine ww_aald 15 (b := 17) (t0 := 2) (n := 6) (f := tx) (i := nI k) rfl (Or.inl rfl) (vp_in_nI (by omega) (by omega)) rfl ?_
    rw [nI_clamp (n := k) (by omega), htx k hk]
    refine ww_aret 16 rfl rfl (Or.inl ⟨_, rfl⟩) ?_
    exact ⟨rfl, rfl⟩
set_option maxHeartbeats 4000000 in
set_option maxRecDepth 100000 in
theorem x_lawOfE (fr lo fa ki mo : Nat → Int32) (pe ch sty wset wfor law lent : Int32) (pfr plo pfa pki pmo : Nat → Int32) (ppe pch psty pwset pwfor plaw plent : Int32) (bytes tcodes tends : Nat → Int32) (tsize tat tcn tpl tok : Int32) (efr elo efa eki emo : Nat → Int32) (epe ech esty ewset ewfor elent : Int32) (on was sat stood rose firsts waits till sitter names : Nat → Int32) (satOn risen pict brs bst : Int32) (row brow kept asked so sz : Nat → Int32) (ce : Nat → Nat → Int32) (tx : Nat → Option Nat) (T : List va_E) {L : Nat} (k K : Nat) (hk : k < K) (hK6 : K ≤ 6) (htx : ∀ t, t < K → tx t = some (lb t + 48))  : Co M_X6_lawOf 1 0 0 [.ref 0, .ref 20] (wC fr lo fa ki mo pe ch sty wset wfor law lent pfr plo pfa pki pmo ppe pch psty pwset pwfor plaw plent bytes tcodes tends tsize tat tcn tpl tok efr elo efa eki emo epe ech esty ewset ewfor (nI k) elent on was sat stood rose firsts waits till sitter names satOn risen pict (nI K) brs bst row brow kept asked so sz ce tx T) (fun r w' => r = some (.ref (lb k + 48)) ∧ w' = wC fr lo fa ki mo pe ch sty wset wfor law lent pfr plo pfa pki pmo ppe pch psty pwset pwfor plaw plent bytes tcodes tends tsize tat tcn tpl tok efr elo efa eki emo epe ech esty ewset ewfor (nI k) elent on was sat stood rose firsts waits till sitter names satOn risen pict (nI K) brs bst row brow kept asked so sz ce tx T) := by
  refine Co.of ok_X6_lawOf rfl ?_
  refine ww_run 0 9 (pc' := 15) (lv' := [(0, .ref 0), (1, .ref 20)]) (st' := [.int ((nI K) - 1), .int 0, .int (nI k), .ref 17]) (w' := wC fr lo fa ki mo pe ch sty wset wfor law lent pfr plo pfa pki pmo ppe pch psty pwset pwfor plaw plent bytes tcodes tends tsize tat tcn tpl tok efr elo efa eki emo epe ech esty ewset ewfor (nI k) elent on was sat stood rose firsts waits till sitter names satOn risen pict (nI K) brs bst row brow kept asked so sz ce tx T) (Ps := []) rfl trivial ?_
  refine ww_cSi 9 ok_X6_within (Co.fr0 (c_X6_within (nI k) 0 ((nI K) - 1)) rfl) lk_X6_124 rfl (by omega) (rest := [.ref 17]) rfl (Nat.le_of_ble_eq_true rfl) rfl ?_
  refine ww_if_eq 10 rfl (tgt := 28) rfl (fun c1 => ?_) (fun c1 => ?_)
  · rw [b2i_eq0] at c1
    exact absurd (in_nI hk (by omega)) c1
  · rw [b2i_ne0] at c1
    refine ww_run 11 3 (pc' := 29) (lv' := [(0, .ref 0), (1, .ref 20)]) (st' := [.int (nI k), .ref 17]) (w' := wC fr lo fa ki mo pe ch sty wset wfor law lent pfr plo pfa pki pmo ppe pch psty pwset pwfor plaw plent bytes tcodes tends tsize tat tcn tpl tok efr elo efa eki emo epe ech esty ewset ewfor (nI k) elent on was sat stood rose firsts waits till sitter names satOn risen pict (nI K) brs bst row brow kept asked so sz ce tx T) (Ps := []) rfl trivial ?_
    refine ww_aald 15 (b := 17) (t0 := 2) (n := 6) (f := tx) (i := nI k) rfl (Or.inl rfl) (vp_in_nI (by omega) (by omega)) rfl ?_
    rw [nI_clamp (n := k) (by omega), htx k hk]
    refine ww_aret 16 rfl rfl (Or.inl ⟨_, rfl⟩) ?_
    exact ⟨rfl, rfl⟩
theorem hT_go {T T' : List va_E} {K L : Nat} {sy : SY} {md : Nat → Option va_E} (h : TI T K sy md ∧ T.length = L) (h' : TI T' K sy md ∧ T'.length = T.length) : TI T' K sy md ∧ T'.length = L := ⟨h'.1, h'.2.trans h.2⟩
set_option maxHeartbeats 4000000 in
set_option maxRecDepth 100000 in
theorem x_liveAsItIs (fr lo fa ki mo : Nat → Int32) (sty wset wfor : Int32) (pfr plo pfa pki pmo : Nat → Int32) (ppe pch psty pwset pwfor plaw plent : Int32) (bytes tcodes tends : Nat → Int32) (tsize tat tcn tpl tok : Int32) (efr elo efa eki emo : Nat → Int32) (epe ech esty ewset ewfor elaw elent : Int32) (on was sat stood rose firsts waits till sitter names : Nat → Int32) (satOn risen pict brs bst : Int32) (row brow kept asked so sz : Nat → Int32) (ce : Nat → Nat → Int32) (tx : Nat → Option Nat) (T : List va_E) {L : Nat} {sy : SY} {md : Nat → Option va_E} (P C k K : Nat) (hP : P ≤ 5) (hC : C ≤ 6) (hk : k < K) (hT : TI T K sy md ∧ T.length = L) (htx : ∀ t, t < K → tx t = some (lb t + 48)) (N : Nat) (hN : N ≤ 30) : Co M_X6_liveAsItIs 6 0 0 [.ref 0, .int (nI N)] (wC fr lo fa ki mo (nI P) (nI C) sty wset wfor (nI k) (-1) pfr plo pfa pki pmo ppe pch psty pwset pwfor plaw plent bytes tcodes tends tsize tat tcn tpl tok efr elo efa eki emo epe ech esty ewset ewfor elaw elent on was sat stood rose firsts waits till sitter names satOn risen pict (nI K) brs bst row brow kept asked so sz ce tx T) (fun r w' => r = none ∧ ∃ (fa1 fb1 fc1 : Nat → Int32) (T1 : List va_E), (TI T1 K sy md ∧ T1.length = L) ∧ w' = wC fr lo fa ki mo (nI P) (nI C) sty wset wfor (nI k) (-1) pfr plo pfa pki pmo ppe pch psty pwset pwfor plaw plent bytes tcodes tends tsize tat tcn tpl tok fr lo fa ki mo (nI P) (nI C) sty wset wfor (nI k) (-1) ((evS sy P C fr lo fa ki mo k sty wset wfor (-1) N).1) ((evS sy P C fr lo fa ki mo k sty wset wfor (-1) N).2.1) ((evS sy P C fr lo fa ki mo k sty wset wfor (-1) N).2.2.1) ((evS sy P C fr lo fa ki mo k sty wset wfor (-1) N).2.2.2.1) ((evS sy P C fr lo fa ki mo k sty wset wfor (-1) N).2.2.2.2.1) fa1 fb1 ((evS sy P C fr lo fa ki mo k sty wset wfor (-1) N).2.2.2.2.2.1) ((evS sy P C fr lo fa ki mo k sty wset wfor (-1) N).2.2.2.2.2.2.1) fc1 ((evS sy P C fr lo fa ki mo k sty wset wfor (-1) N).2.2.2.2.2.2.2.1) ((evS sy P C fr lo fa ki mo k sty wset wfor (-1) N).2.2.2.2.2.2.2.2) pict (nI K) brs bst row brow kept asked so sz ce tx T1) := by
  refine Co.of ok_X6_liveAsItIs rfl ?_
  have hT6 := hT.1.1.1
  refine ww_run 0 5 (pc' := 11) (lv' := [(0, .ref 0), (1, .int (nI N))]) (st' := [.ref 1, .ref 20]) (w' := wC fr lo fa ki mo (nI P) (nI C) sty wset wfor (nI k) (-1) pfr plo pfa pki pmo ppe pch psty pwset pwfor plaw plent bytes tcodes tends tsize tat tcn tpl tok efr elo efa eki emo epe ech esty ewset ewfor elaw elent on was sat stood rose firsts waits till sitter names satOn risen pict (nI K) brs bst row brow kept asked so sz ce tx T) (Ps := []) rfl trivial ?_
  refine ww_cVv 5 (b := 20) (av := [.ref 1]) (w1 := wC fr lo fa ki mo (nI P) (nI C) sty wset wfor (nI k) (-1) pfr plo pfa pki pmo ppe pch psty pwset pwfor plaw plent bytes tcodes tends tsize tat tcn tpl tok fr lo fa ki mo (nI P) (nI C) sty wset wfor (nI k) (-1) on was sat stood rose firsts waits till sitter names satOn risen pict (nI K) brs bst row brow kept asked so sz ce tx T) ok_X1_become (lv_eh fr lo fa ki mo (nI P) (nI C) sty wset wfor (nI k) (-1) pfr plo pfa pki pmo ppe pch psty pwset pwfor plaw plent bytes tcodes tends tsize tat tcn tpl tok efr elo efa eki emo epe ech esty ewset ewfor elaw elent on was sat stood rose firsts waits till sitter names satOn risen pict (nI K) brs bst row brow kept asked so sz ce tx T  (c_X1_become efr elo efa eki emo epe ech esty ewset ewfor elaw elent fr lo fa ki mo (nI P) (nI C) sty wset wfor (nI k) (-1))) lk_X6_236 rfl (by omega) (rest := []) rfl (Nat.le_of_ble_eq_true rfl) rfl rfl rfl rfl ?_
  refine ww_run 6 5 (pc' := 23) (lv' := [(0, .ref 0), (1, .int (nI N))]) (st' := [.ref 1, .ref 0, .ref 19]) (w' := wC fr lo fa ki mo (nI P) (nI C) sty wset wfor (nI k) (-1) pfr plo pfa pki pmo ppe pch psty pwset pwfor plaw plent bytes tcodes tends tsize tat tcn tpl tok fr lo fa ki mo (nI P) (nI C) sty wset wfor (nI k) (-1) on was sat stood rose firsts waits till sitter names satOn risen pict (nI K) brs bst row brow kept asked so sz ce tx T) (Ps := []) rfl trivial ?_
  refine ww_cV 11 (b := 0) (av := [.ref 1]) ok_X6_lawOf (x_lawOf (L := 0) fr lo fa ki mo (nI P) (nI C) sty wset wfor (-1) pfr plo pfa pki pmo ppe pch psty pwset pwfor plaw plent bytes tcodes tends tsize tat tcn tpl tok fr lo fa ki mo (nI P) (nI C) sty wset wfor (nI k) (-1) on was sat stood rose firsts waits till sitter names satOn risen pict brs bst row brow kept asked so sz ce tx T k K hk hT6 htx) lk_X6_150 rfl (by omega) (rest := [.ref 19]) rfl (Nat.le_of_ble_eq_true rfl) rfl rfl rfl rfl (fun r w' hq => ?_)
  obtain ⟨rfl, rfl⟩ := hq
  refine ww_run 12 1 (pc' := 27) (lv' := [(0, .ref 0), (1, .int (nI N))]) (st' := [.int (nI N), .ref (lb k + 48), .ref 19]) (w' := wC fr lo fa ki mo (nI P) (nI C) sty wset wfor (nI k) (-1) pfr plo pfa pki pmo ppe pch psty pwset pwfor plaw plent bytes tcodes tends tsize tat tcn tpl tok fr lo fa ki mo (nI P) (nI C) sty wset wfor (nI k) (-1) on was sat stood rose firsts waits till sitter names satOn risen pict (nI K) brs bst row brow kept asked so sz ce tx T) (Ps := []) rfl trivial ?_
  refine ww_cV 13 ok_X0_live (x_live fr lo fa ki mo (nI P) (nI C) sty wset wfor (nI k) (-1) pfr plo pfa pki pmo ppe pch psty pwset pwfor plaw plent bytes tcodes tends tsize tat tcn tpl tok fr lo fa ki mo sty wset wfor (nI k) (-1) on was sat stood rose firsts waits till sitter names satOn risen pict (nI K) brs bst row brow kept asked so sz ce tx T hT.1 P C k N hk hP hC (by omega)) lk_X6_243 rfl (by omega) (rest := []) rfl (Nat.le_of_ble_eq_true rfl) rfl rfl rfl rfl (fun r w' hq => ?_)
  obtain ⟨rfl, fa1, fb1, fc1, T1, hT10, rfl⟩ := hq
  have hT1 := hT_go hT hT10
  refine ww_vret 14 rfl rfl ?_
  exact ⟨rfl, fa1, fb1, fc1, T1, hT1, rfl⟩
