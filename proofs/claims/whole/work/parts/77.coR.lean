/-- the next row, as rows are sorted -/
def risF (f : Nat → Int32) : Nat → Option Nat
  | 0 => none
  | j + 1 => if f (j + 1) < f j then risF f j else some j
def aboF (f : Nat → Int32) (r : Nat) : Nat → Nat
  | 0 => 0
  | a + 1 => if r < a + 1 ∧ f (a + 1) < f r then aboF f r a else a + 1
def revF : Nat → Nat → Nat → (Nat → Int32) → (Nat → Int32)
  | 0, _, _, f => f
  | n + 1, i, j, f => if i < j then revF n (i + 1) (j - 1) (swF f i j) else f
def nextF (f : Nat → Int32) (P : Nat) : Option (Nat → Int32) := match risF f (P - 1) with
  | none => none
  | some r => some (revF 5 (r + 1) (P - 1) (swF f r (aboF f r (P - 1))))
theorem risF_lt {f : Nat → Int32} : ∀ {j r : Nat}, risF f j = some r → r < j
  | 0, r, h => by cases h
  | j + 1, r, h => by
    simp only [risF] at h
    split at h
    · have := risF_lt h
      omega
    · cases h; omega
theorem aboF_le {f : Nat → Int32} {r : Nat} : ∀ a, aboF f r a ≤ a
  | 0 => Nat.le_refl 0
  | a + 1 => by
    simp only [aboF]
    split
    · have := aboF_le (f := f) (r := r) a
      omega
    · omega
theorem revF_id {f : Nat → Int32} {i j : Nat} (h : ¬ i < j) : ∀ n, revF n i j f = f
  | 0 => rfl
  | n + 1 => if_neg h
set_option maxHeartbeats 4000000 in
set_option maxRecDepth 100000 in
theorem ly_nr_4 {Q : Option Value → List va_E → Prop} {d : Nat} (fr lo fa ki mo : Nat → Int32) (pe ch sty wset wfor law lent : Int32) (pfr plo pfa pki pmo : Nat → Int32) (ppe pch psty pwset pwfor plaw plent : Int32) (bytes tcodes tends : Nat → Int32) (tsize tat tcn tpl tok : Int32) (efr elo efa eki emo : Nat → Int32) (epe ech esty ewset ewfor elaw elent : Int32) (on was sat stood rose firsts waits till sitter names : Nat → Int32) (satOn risen pict tn brs bst : Int32) (row brow kept asked so sz : Nat → Int32) (ce : Nat → Nat → Int32) (tx : Nat → Option Nat) (T : List va_E) (P : Nat) (hP : P ≤ 5) (KN : risF row (P - 1) = none → WW M_X6_nextRow d Q xz 31 [(0, .ref 0), (1, .int (nI P)), (2, .int (-1))] [] (wC fr lo fa ki mo pe ch sty wset wfor law lent pfr plo pfa pki pmo ppe pch psty pwset pwfor plaw plent bytes tcodes tends tsize tat tcn tpl tok efr elo efa eki emo epe ech esty ewset ewfor elaw elent on was sat stood rose firsts waits till sitter names satOn risen pict tn brs bst row brow kept asked so sz ce tx T)) (KS : ∀ r, risF row (P - 1) = some r → WW M_X6_nextRow d Q xz 31 [(0, .ref 0), (1, .int (nI P)), (2, .int (nI r))] [] (wC fr lo fa ki mo pe ch sty wset wfor law lent pfr plo pfa pki pmo ppe pch psty pwset pwfor plaw plent bytes tcodes tends tsize tat tcn tpl tok efr elo efa eki emo epe ech esty ewset ewfor elaw elent on was sat stood rose firsts waits till sitter names satOn risen pict tn brs bst row brow kept asked so sz ce tx T)) :
    ∀ (j : Nat), j + 1 ≤ P → risF row j = risF row (P - 1) → WW M_X6_nextRow d Q xz 4 [(0, .ref 0), (1, .int (nI P)), (2, .int (nI j + (-1)))] [] (wC fr lo fa ki mo pe ch sty wset wfor law lent pfr plo pfa pki pmo ppe pch psty pwset pwfor plaw plent bytes tcodes tends tsize tat tcn tpl tok efr elo efa eki emo epe ech esty ewset ewfor elaw elent on was sat stood rose firsts waits till sitter names satOn risen pict tn brs bst row brow kept asked so sz ce tx T) := by
  intro j
  induction j with
  | zero =>
    intro hj0 hj
    rw [show nI 0 + (-1) = (-1 : Int32) by decide]
    refine ww_run 4 1 (pc' := 5) (lv' := [(0, .ref 0), (1, .int (nI P)), (2, .int (-1))]) (st' := [.int (-1)]) (w' := wC fr lo fa ki mo pe ch sty wset wfor law lent pfr plo pfa pki pmo ppe pch psty pwset pwfor plaw plent bytes tcodes tends tsize tat tcn tpl tok efr elo efa eki emo epe ech esty ewset ewfor elaw elent on was sat stood rose firsts waits till sitter names satOn risen pict tn brs bst row brow kept asked so sz ce tx T) (Ps := []) rfl trivial ?_
    refine ww_if_lt 5 rfl (tgt := 31) rfl (fun c1 => ?_) (fun c1 => ?_)
    · exact KN (by rw [← hj]; rfl)
    · exact absurd c1 (by decide)
  | succ j ih =>
    intro hj1 hj
    rw [pk_m1 j]
    refine ww_run 4 1 (pc' := 5) (lv' := [(0, .ref 0), (1, .int (nI P)), (2, .int (nI j))]) (st' := [.int (nI j)]) (w' := wC fr lo fa ki mo pe ch sty wset wfor law lent pfr plo pfa pki pmo ppe pch psty pwset pwfor plaw plent bytes tcodes tends tsize tat tcn tpl tok efr elo efa eki emo epe ech esty ewset ewfor elaw elent on was sat stood rose firsts waits till sitter names satOn risen pict tn brs bst row brow kept asked so sz ce tx T) (Ps := []) rfl trivial ?_
    refine ww_if_lt 5 rfl (tgt := 31) rfl (fun c1 => ?_) (fun c1 => ?_)
    · exact absurd c1 (nI_pos (by omega))
    · have c1 : ¬ j < 0 := fun q => c1 ((nI_ltI (a := j) (b := 0) (by omega) (by omega)).mpr q)
      refine ww_run 6 10 (pc' := 22) (lv' := [(0, .ref 0), (1, .int (nI P)), (2, .int (nI j))]) (st' := [.int (row ((nI j) + 1).toNatClampNeg), .int (row (nI j).toNatClampNeg)]) (w' := wC fr lo fa ki mo pe ch sty wset wfor law lent pfr plo pfa pki pmo ppe pch psty pwset pwfor plaw plent bytes tcodes tends tsize tat tcn tpl tok efr elo efa eki emo epe ech esty ewset ewfor elaw elent on was sat stood rose firsts waits till sitter names satOn risen pict tn brs bst row brow kept asked so sz ce tx T) (Ps := [vp_in (nI j) 5, vp_in ((nI j) + 1) 5]) rfl ⟨(vp_in_nI (by omega) (by omega)), (by rw [nI_1 j]; exact vp_in_nI (by omega) (by omega)), trivial⟩ ?_
      rw [nI_clamp (n := j) (by omega)]
      rw [nI_1 j]
      rw [nI_clamp (n := (j + 1)) (by omega)]
      refine ww_icmp_le 16 rfl (tgt := 31) rfl (fun c2 => ?_) (fun c2 => ?_)
      · exact KS j (by rw [← hj]; simp only [risF]; rw [if_neg (Int32.not_lt.mpr c2)])
      · refine ww_run 17 2 (pc' := 4) (lv' := [(2, .int ((nI j) + (-1))), (0, .ref 0), (1, .int (nI P))]) (st' := []) (w' := wC fr lo fa ki mo pe ch sty wset wfor law lent pfr plo pfa pki pmo ppe pch psty pwset pwfor plaw plent bytes tcodes tends tsize tat tcn tpl tok efr elo efa eki emo epe ech esty ewset ewfor elaw elent on was sat stood rose firsts waits till sitter names satOn risen pict tn brs bst row brow kept asked so sz ce tx T) (Ps := []) rfl trivial ?_
        refine ww_lv [1, 2, 0] (lv' := [(0, .ref 0), (1, .int (nI P)), (2, .int ((nI j) + (-1)))]) rfl ?_
        exact ih (by omega) (by rw [← hj]; simp only [risF]; rw [if_pos (Int32.not_le.mp c2)])
set_option maxHeartbeats 4000000 in
set_option maxRecDepth 100000 in
theorem ly_nr_41 {Q : Option Value → List va_E → Prop} {d : Nat} (fr lo fa ki mo : Nat → Int32) (pe ch sty wset wfor law lent : Int32) (pfr plo pfa pki pmo : Nat → Int32) (ppe pch psty pwset pwfor plaw plent : Int32) (bytes tcodes tends : Nat → Int32) (tsize tat tcn tpl tok : Int32) (efr elo efa eki emo : Nat → Int32) (epe ech esty ewset ewfor elaw elent : Int32) (on was sat stood rose firsts waits till sitter names : Nat → Int32) (satOn risen pict tn brs bst : Int32) (row brow kept asked so sz : Nat → Int32) (ce : Nat → Nat → Int32) (tx : Nat → Option Nat) (T : List va_E) (P r : Nat) (hP : P ≤ 5) (hr : r < P) (KK : WW M_X6_nextRow d Q xz 67 [(0, .ref 0), (1, .int (nI P)), (2, .int (nI r)), (3, .int (nI (aboF row r (P - 1))))] [] (wC fr lo fa ki mo pe ch sty wset wfor law lent pfr plo pfa pki pmo ppe pch psty pwset pwfor plaw plent bytes tcodes tends tsize tat tcn tpl tok efr elo efa eki emo epe ech esty ewset ewfor elaw elent on was sat stood rose firsts waits till sitter names satOn risen pict tn brs bst row brow kept asked so sz ce tx T)) :
    ∀ (a : Nat), a + 1 ≤ P → aboF row r a = aboF row r (P - 1) → WW M_X6_nextRow d Q xz 41 [(0, .ref 0), (1, .int (nI P)), (2, .int (nI r)), (3, .int (nI a))] [] (wC fr lo fa ki mo pe ch sty wset wfor law lent pfr plo pfa pki pmo ppe pch psty pwset pwfor plaw plent bytes tcodes tends tsize tat tcn tpl tok efr elo efa eki emo epe ech esty ewset ewfor elaw elent on was sat stood rose firsts waits till sitter names satOn risen pict tn brs bst row brow kept asked so sz ce tx T) := by
  intro a
  induction a with
  | zero =>
    intro ha0 ha
    refine ww_run 27 2 (pc' := 43) (lv' := [(0, .ref 0), (1, .int (nI P)), (2, .int (nI r)), (3, .int (nI 0))]) (st' := [.int (nI r), .int (nI 0)]) (w' := wC fr lo fa ki mo pe ch sty wset wfor law lent pfr plo pfa pki pmo ppe pch psty pwset pwfor plaw plent bytes tcodes tends tsize tat tcn tpl tok efr elo efa eki emo epe ech esty ewset ewfor elaw elent on was sat stood rose firsts waits till sitter names satOn risen pict tn brs bst row brow kept asked so sz ce tx T) (Ps := []) rfl trivial ?_
    refine ww_icmp_le 29 rfl (tgt := 67) rfl (fun c1 => ?_) (fun c1 => ?_)
    · have c1 : 0 ≤ r := (nI_leI (a := 0) (b := r) (by omega) (by omega)).mp c1
      rw [show aboF row r (P - 1) = 0 from by rw [← ha]; rfl] at KK
      exact KK
    · have c1 : ¬ 0 ≤ r := fun q => c1 ((nI_leI (a := 0) (b := r) (by omega) (by omega)).mpr q)
      exfalso
      omega
  | succ a ih =>
    intro ha1 ha
    refine ww_run 27 2 (pc' := 43) (lv' := [(0, .ref 0), (1, .int (nI P)), (2, .int (nI r)), (3, .int (nI (a + 1)))]) (st' := [.int (nI r), .int (nI (a + 1))]) (w' := wC fr lo fa ki mo pe ch sty wset wfor law lent pfr plo pfa pki pmo ppe pch psty pwset pwfor plaw plent bytes tcodes tends tsize tat tcn tpl tok efr elo efa eki emo epe ech esty ewset ewfor elaw elent on was sat stood rose firsts waits till sitter names satOn risen pict tn brs bst row brow kept asked so sz ce tx T) (Ps := []) rfl trivial ?_
    refine ww_icmp_le 29 rfl (tgt := 67) rfl (fun c1 => ?_) (fun c1 => ?_)
    · have c1 : a + 1 ≤ r := (nI_leI (a := (a + 1)) (b := r) (by omega) (by omega)).mp c1
      rw [show aboF row r (P - 1) = a + 1 from by rw [← ha]; simp only [aboF]; rw [if_neg (fun q => by obtain ⟨q1, q2⟩ := q; first | omega | exact Int32.not_lt.mpr c1 q2)]] at KK
      exact KK
    · have c1 : ¬ a + 1 ≤ r := fun q => c1 ((nI_leI (a := (a + 1)) (b := r) (by omega) (by omega)).mpr q)
      refine ww_run 30 8 (pc' := 58) (lv' := [(0, .ref 0), (1, .int (nI P)), (2, .int (nI r)), (3, .int (nI (a + 1)))]) (st' := [.int (row (nI r).toNatClampNeg), .int (row (nI (a + 1)).toNatClampNeg)]) (w' := wC fr lo fa ki mo pe ch sty wset wfor law lent pfr plo pfa pki pmo ppe pch psty pwset pwfor plaw plent bytes tcodes tends tsize tat tcn tpl tok efr elo efa eki emo epe ech esty ewset ewfor elaw elent on was sat stood rose firsts waits till sitter names satOn risen pict tn brs bst row brow kept asked so sz ce tx T) (Ps := [vp_in (nI (a + 1)) 5, vp_in (nI r) 5]) rfl ⟨(vp_in_nI (by omega) (by omega)), (vp_in_nI (by omega) (by omega)), trivial⟩ ?_
      rw [nI_clamp (n := r) (by omega)]
      rw [nI_clamp (n := (a + 1)) (by omega)]
      refine ww_icmp_ge 38 rfl (tgt := 67) rfl (fun c2 => ?_) (fun c2 => ?_)
      · rw [show aboF row r (P - 1) = a + 1 from by rw [← ha]; simp only [aboF]; rw [if_neg (fun q => by obtain ⟨q1, q2⟩ := q; first | omega | exact Int32.not_lt.mpr c2 q2)]] at KK
        exact KK
      · refine ww_run 39 2 (pc' := 41) (lv' := [(3, .int ((nI (a + 1)) + (-1))), (0, .ref 0), (1, .int (nI P)), (2, .int (nI r))]) (st' := []) (w' := wC fr lo fa ki mo pe ch sty wset wfor law lent pfr plo pfa pki pmo ppe pch psty pwset pwfor plaw plent bytes tcodes tends tsize tat tcn tpl tok efr elo efa eki emo epe ech esty ewset ewfor elaw elent on was sat stood rose firsts waits till sitter names satOn risen pict tn brs bst row brow kept asked so sz ce tx T) (Ps := []) rfl trivial ?_
        rw [pk_m1 a]
        refine ww_lv [1, 2, 3, 0] (lv' := [(0, .ref 0), (1, .int (nI P)), (2, .int (nI r)), (3, .int (nI a))]) rfl ?_
        exact ih (by omega) (by rw [← ha]; simp only [aboF]; rw [if_pos ⟨by omega, Int32.not_le.mp c2⟩])
set_option maxHeartbeats 4000000 in
set_option maxRecDepth 100000 in
theorem ly_nr_86 {Q : Option Value → List va_E → Prop} {d : Nat} (hd : 1 ≤ d) (fr lo fa ki mo : Nat → Int32) (pe ch sty wset wfor law lent : Int32) (pfr plo pfa pki pmo : Nat → Int32) (ppe pch psty pwset pwfor plaw plent : Int32) (bytes tcodes tends : Nat → Int32) (tsize tat tcn tpl tok : Int32) (efr elo efa eki emo : Nat → Int32) (epe ech esty ewset ewfor elaw elent : Int32) (on was sat stood rose firsts waits till sitter names : Nat → Int32) (satOn risen pict tn brs bst : Int32) (brow kept asked so sz : Nat → Int32) (ce : Nat → Nat → Int32) (tx : Nat → Option Nat) (T : List va_E) (V : Nat → Int32) (KK : ∀ row, row = V → WW M_X6_nextRow d Q xz 113 [(0, .ref 0)] [] (wC fr lo fa ki mo pe ch sty wset wfor law lent pfr plo pfa pki pmo ppe pch psty pwset pwfor plaw plent bytes tcodes tends tsize tat tcn tpl tok efr elo efa eki emo epe ech esty ewset ewfor elaw elent on was sat stood rose firsts waits till sitter names satOn risen pict tn brs bst row brow kept asked so sz ce tx T)) :
    ∀ (n i j : Nat) (row : Nat → Int32), j ≤ i + 2 * n → j < 5 → i ≤ 5 → revF n i j row = V → WW M_X6_nextRow d Q xz 86 [(0, .ref 0), (4, .int (nI i)), (5, .int (nI j))] [] (wC fr lo fa ki mo pe ch sty wset wfor law lent pfr plo pfa pki pmo ppe pch psty pwset pwfor plaw plent bytes tcodes tends tsize tat tcn tpl tok efr elo efa eki emo epe ech esty ewset ewfor elaw elent on was sat stood rose firsts waits till sitter names satOn risen pict tn brs bst row brow kept asked so sz ce tx T) := by
  intro n
  induction n with
  | zero =>
    intro i j row hij hj5 hi5 hv
    refine ww_run 54 2 (pc' := 90) (lv' := [(0, .ref 0), (4, .int (nI i)), (5, .int (nI j))]) (st' := [.int (nI j), .int (nI i)]) (w' := wC fr lo fa ki mo pe ch sty wset wfor law lent pfr plo pfa pki pmo ppe pch psty pwset pwfor plaw plent bytes tcodes tends tsize tat tcn tpl tok efr elo efa eki emo epe ech esty ewset ewfor elaw elent on was sat stood rose firsts waits till sitter names satOn risen pict tn brs bst row brow kept asked so sz ce tx T) (Ps := []) rfl trivial ?_
    refine ww_icmp_ge 56 rfl (tgt := 113) rfl (fun c1 => ?_) (fun c1 => ?_)
    · have c1 : j ≤ i := (nI_leI (a := j) (b := i) (by omega) (by omega)).mp c1
      refine ww_lv [0] (lv' := [(0, .ref 0)]) rfl ?_
      exact KK row (by rw [← hv, revF_id (by omega)])
    · have c1 : ¬ j ≤ i := fun q => c1 ((nI_leI (a := j) (b := i) (by omega) (by omega)).mpr q)
      exfalso
      omega
  | succ n ih =>
    intro i j row hij hj5 hi5 hv
    rcases Nat.eq_zero_or_pos j with hj0 | hj0
    · subst hj0
      refine ww_run 54 2 (pc' := 90) (lv' := [(0, .ref 0), (4, .int (nI i)), (5, .int (nI 0))]) (st' := [.int (nI 0), .int (nI i)]) (w' := wC fr lo fa ki mo pe ch sty wset wfor law lent pfr plo pfa pki pmo ppe pch psty pwset pwfor plaw plent bytes tcodes tends tsize tat tcn tpl tok efr elo efa eki emo epe ech esty ewset ewfor elaw elent on was sat stood rose firsts waits till sitter names satOn risen pict tn brs bst row brow kept asked so sz ce tx T) (Ps := []) rfl trivial ?_
      refine ww_icmp_ge 56 rfl (tgt := 113) rfl (fun c1 => ?_) (fun c1 => ?_)
      · have c1 : 0 ≤ i := (nI_leI (a := 0) (b := i) (by omega) (by omega)).mp c1
        refine ww_lv [0] (lv' := [(0, .ref 0)]) rfl ?_
        exact KK row (by rw [← hv, revF_id (by omega)])
      · have c1 : ¬ 0 ≤ i := fun q => c1 ((nI_leI (a := 0) (b := i) (by omega) (by omega)).mpr q)
        exfalso
        omega
    · obtain ⟨j, rfl⟩ : ∃ q, j = q + 1 := ⟨j - 1, by omega⟩
      refine ww_run 54 2 (pc' := 90) (lv' := [(0, .ref 0), (4, .int (nI i)), (5, .int (nI (j + 1)))]) (st' := [.int (nI (j + 1)), .int (nI i)]) (w' := wC fr lo fa ki mo pe ch sty wset wfor law lent pfr plo pfa pki pmo ppe pch psty pwset pwfor plaw plent bytes tcodes tends tsize tat tcn tpl tok efr elo efa eki emo epe ech esty ewset ewfor elaw elent on was sat stood rose firsts waits till sitter names satOn risen pict tn brs bst row brow kept asked so sz ce tx T) (Ps := []) rfl trivial ?_
      refine ww_icmp_ge 56 rfl (tgt := 113) rfl (fun c1 => ?_) (fun c1 => ?_)
      · have c1 : j + 1 ≤ i := (nI_leI (a := (j + 1)) (b := i) (by omega) (by omega)).mp c1
        refine ww_lv [0] (lv' := [(0, .ref 0)]) rfl ?_
        exact KK row (by rw [← hv, revF_id (by omega)])
      · have c1 : ¬ j + 1 ≤ i := fun q => c1 ((nI_leI (a := (j + 1)) (b := i) (by omega) (by omega)).mpr q)
        refine ww_run 57 4 (pc' := 101) (lv' := [(0, .ref 0), (4, .int (nI i)), (5, .int (nI (j + 1)))]) (st' := [.int (nI (j + 1)), .int (nI i), .ref 36]) (w' := wC fr lo fa ki mo pe ch sty wset wfor law lent pfr plo pfa pki pmo ppe pch psty pwset pwfor plaw plent bytes tcodes tends tsize tat tcn tpl tok efr elo efa eki emo epe ech esty ewset ewfor elaw elent on was sat stood rose firsts waits till sitter names satOn risen pict tn brs bst row brow kept asked so sz ce tx T) (Ps := []) rfl trivial ?_
        refine ww_cSv 61 (av := [.ref 36, .int (nI i), .int (nI (j + 1))]) (w1 := wC fr lo fa ki mo pe ch sty wset wfor law lent pfr plo pfa pki pmo ppe pch psty pwset pwfor plaw plent bytes tcodes tends tsize tat tcn tpl tok efr elo efa eki emo epe ech esty ewset ewfor elaw elent on was sat stood rose firsts waits till sitter names satOn risen pict tn brs bst (swF row i (j + 1)) brow kept asked so sz ce tx T) ok_X6_exchange (Co.frv [36] (x_exchange 5 row i (j + 1) (by omega) (by omega) (by omega)) rfl rfl rfl) lk_X6_325 rfl (by omega) (rest := []) rfl (Nat.le_of_ble_eq_true rfl) rfl ?_
        refine ww_run 62 3 (pc' := 86) (lv' := [(5, .int ((nI (j + 1)) + (-1))), (4, .int ((nI i) + 1)), (0, .ref 0)]) (st' := []) (w' := wC fr lo fa ki mo pe ch sty wset wfor law lent pfr plo pfa pki pmo ppe pch psty pwset pwfor plaw plent bytes tcodes tends tsize tat tcn tpl tok efr elo efa eki emo epe ech esty ewset ewfor elaw elent on was sat stood rose firsts waits till sitter names satOn risen pict tn brs bst (swF row i (j + 1)) brow kept asked so sz ce tx T) (Ps := []) rfl trivial ?_
        rw [nI_1 i]
        rw [pk_m1 j]
        refine ww_lv [2, 1, 0] (lv' := [(0, .ref 0), (4, .int (nI (i + 1))), (5, .int (nI j))]) rfl ?_
        refine ih (i + 1) j (swF row i (j + 1)) (by omega) (by omega) (by omega) ?_
        rw [← hv]
        simp only [revF]
        rw [if_pos (by omega)]
        rfl
set_option maxHeartbeats 4000000 in
set_option maxRecDepth 100000 in
theorem x_nextRow (fr lo fa ki mo : Nat → Int32) (pe ch sty wset wfor law lent : Int32) (pfr plo pfa pki pmo : Nat → Int32) (ppe pch psty pwset pwfor plaw plent : Int32) (bytes tcodes tends : Nat → Int32) (tsize tat tcn tpl tok : Int32) (efr elo efa eki emo : Nat → Int32) (epe ech esty ewset ewfor elaw elent : Int32) (on was sat stood rose firsts waits till sitter names : Nat → Int32) (satOn risen pict tn brs bst : Int32) (row brow kept asked so sz : Nat → Int32) (ce : Nat → Nat → Int32) (tx : Nat → Option Nat) (T : List va_E) {L : Nat}  (P : Nat) (hP : P ≤ 5) : Co M_X6_nextRow 1 0 0 [.ref 0, .int (nI P)] (wC fr lo fa ki mo pe ch sty wset wfor law lent pfr plo pfa pki pmo ppe pch psty pwset pwfor plaw plent bytes tcodes tends tsize tat tcn tpl tok efr elo efa eki emo epe ech esty ewset ewfor elaw elent on was sat stood rose firsts waits till sitter names satOn risen pict tn brs bst row brow kept asked so sz ce tx T) (fun r w' => (nextF row P = none ∧ r = some (.int 0) ∧ w' = wC fr lo fa ki mo pe ch sty wset wfor law lent pfr plo pfa pki pmo ppe pch psty pwset pwfor plaw plent bytes tcodes tends tsize tat tcn tpl tok efr elo efa eki emo epe ech esty ewset ewfor elaw elent on was sat stood rose firsts waits till sitter names satOn risen pict tn brs bst row brow kept asked so sz ce tx T) ∨ (∃ g, nextF row P = some g ∧ r = some (.int 1) ∧ w' = wC fr lo fa ki mo pe ch sty wset wfor law lent pfr plo pfa pki pmo ppe pch psty pwset pwfor plaw plent bytes tcodes tends tsize tat tcn tpl tok efr elo efa eki emo epe ech esty ewset ewfor elaw elent on was sat stood rose firsts waits till sitter names satOn risen pict tn brs bst g brow kept asked so sz ce tx T)) := by
  refine Co.of ok_X6_nextRow rfl ?_
  refine ww_run 0 4 (pc' := 4) (lv' := [(2, .int ((nI P) - 2)), (0, .ref 0), (1, .int (nI P))]) (st' := []) (w' := wC fr lo fa ki mo pe ch sty wset wfor law lent pfr plo pfa pki pmo ppe pch psty pwset pwfor plaw plent bytes tcodes tends tsize tat tcn tpl tok efr elo efa eki emo epe ech esty ewset ewfor elaw elent on was sat stood rose firsts waits till sitter names satOn risen pict tn brs bst row brow kept asked so sz ce tx T) (Ps := []) rfl trivial ?_
  rcases Nat.eq_zero_or_pos P with hP0 | hP0
  · subst hP0
    rw [show nI 0 - 2 = (-2 : Int32) by decide]
    refine ww_run 4 1 (pc' := 5) (lv' := [(2, .int (-2)), (0, .ref 0), (1, .int (nI 0))]) (st' := [.int (-2)]) (w' := wC fr lo fa ki mo pe ch sty wset wfor law lent pfr plo pfa pki pmo ppe pch psty pwset pwfor plaw plent bytes tcodes tends tsize tat tcn tpl tok efr elo efa eki emo epe ech esty ewset ewfor elaw elent on was sat stood rose firsts waits till sitter names satOn risen pict tn brs bst row brow kept asked so sz ce tx T) (Ps := []) rfl trivial ?_
    refine ww_if_lt 5 rfl (tgt := 31) rfl (fun c1 => ?_) (fun c1 => ?_)
    · refine ww_run 19 1 (pc' := 32) (lv' := [(2, .int (-2)), (0, .ref 0), (1, .int (nI 0))]) (st' := [.int (-2)]) (w' := wC fr lo fa ki mo pe ch sty wset wfor law lent pfr plo pfa pki pmo ppe pch psty pwset pwfor plaw plent bytes tcodes tends tsize tat tcn tpl tok efr elo efa eki emo epe ech esty ewset ewfor elaw elent on was sat stood rose firsts waits till sitter names satOn risen pict tn brs bst row brow kept asked so sz ce tx T) (Ps := []) rfl trivial ?_
      refine ww_if_ge 20 rfl (tgt := 37) rfl (fun c2 => ?_) (fun c2 => ?_)
      · exact absurd c2 (by decide)
      · refine ww_run 21 1 (pc' := 36) (lv' := [(2, .int (-2)), (0, .ref 0), (1, .int (nI 0))]) (st' := [.int 0]) (w' := wC fr lo fa ki mo pe ch sty wset wfor law lent pfr plo pfa pki pmo ppe pch psty pwset pwfor plaw plent bytes tcodes tends tsize tat tcn tpl tok efr elo efa eki emo epe ech esty ewset ewfor elaw elent on was sat stood rose firsts waits till sitter names satOn risen pict tn brs bst row brow kept asked so sz ce tx T) (Ps := []) rfl trivial ?_
        refine ww_zret 22 rfl rfl rfl ?_
        exact Or.inl ⟨rfl, rfl, rfl⟩
    · exact absurd c1 (by decide)
  refine ww_lv [1, 2, 0] (lv' := [(0, .ref 0), (1, .int (nI P)), (2, .int ((nI P) - 2))]) rfl ?_
  rw [show nI P - 2 = nI (P - 1) + (-1) from by rw [show P = (P - 1) + 1 by omega, nI_succ, Nat.add_sub_cancel]; grind]
  refine ly_nr_4 fr lo fa ki mo pe ch sty wset wfor law lent pfr plo pfa pki pmo ppe pch psty pwset pwfor plaw plent bytes tcodes tends tsize tat tcn tpl tok efr elo efa eki emo epe ech esty ewset ewfor elaw elent on was sat stood rose firsts waits till sitter names satOn risen pict tn brs bst row brow kept asked so sz ce tx T P hP (fun hn => ?_) (fun r hr => ?_) (P - 1) (by omega) rfl
  · skip
    refine ww_run 19 1 (pc' := 32) (lv' := [(0, .ref 0), (1, .int (nI P)), (2, .int (-1))]) (st' := [.int (-1)]) (w' := wC fr lo fa ki mo pe ch sty wset wfor law lent pfr plo pfa pki pmo ppe pch psty pwset pwfor plaw plent bytes tcodes tends tsize tat tcn tpl tok efr elo efa eki emo epe ech esty ewset ewfor elaw elent on was sat stood rose firsts waits till sitter names satOn risen pict tn brs bst row brow kept asked so sz ce tx T) (Ps := []) rfl trivial ?_
    refine ww_if_ge 20 rfl (tgt := 37) rfl (fun c1 => ?_) (fun c1 => ?_)
    · exact absurd c1 (by decide)
    · refine ww_run 21 1 (pc' := 36) (lv' := [(0, .ref 0), (1, .int (nI P)), (2, .int (-1))]) (st' := [.int 0]) (w' := wC fr lo fa ki mo pe ch sty wset wfor law lent pfr plo pfa pki pmo ppe pch psty pwset pwfor plaw plent bytes tcodes tends tsize tat tcn tpl tok efr elo efa eki emo epe ech esty ewset ewfor elaw elent on was sat stood rose firsts waits till sitter names satOn risen pict tn brs bst row brow kept asked so sz ce tx T) (Ps := []) rfl trivial ?_
      refine ww_zret 22 rfl rfl rfl ?_
      exact Or.inl ⟨by simp only [nextF, hn], rfl, rfl⟩
  · have hrl := risF_lt hr
    refine ww_run 19 1 (pc' := 32) (lv' := [(0, .ref 0), (1, .int (nI P)), (2, .int (nI r))]) (st' := [.int (nI r)]) (w' := wC fr lo fa ki mo pe ch sty wset wfor law lent pfr plo pfa pki pmo ppe pch psty pwset pwfor plaw plent bytes tcodes tends tsize tat tcn tpl tok efr elo efa eki emo epe ech esty ewset ewfor elaw elent on was sat stood rose firsts waits till sitter names satOn risen pict tn brs bst row brow kept asked so sz ce tx T) (Ps := []) rfl trivial ?_
    refine ww_if_ge 20 rfl (tgt := 37) rfl (fun c2 => ?_) (fun c2 => ?_)
    · have c2 : 0 ≤ r := (nI_leI (a := 0) (b := r) (by omega) (by omega)).mp c2
      refine ww_run 23 4 (pc' := 41) (lv' := [(3, .int ((nI P) - 1)), (0, .ref 0), (1, .int (nI P)), (2, .int (nI r))]) (st' := []) (w' := wC fr lo fa ki mo pe ch sty wset wfor law lent pfr plo pfa pki pmo ppe pch psty pwset pwfor plaw plent bytes tcodes tends tsize tat tcn tpl tok efr elo efa eki emo epe ech esty ewset ewfor elaw elent on was sat stood rose firsts waits till sitter names satOn risen pict tn brs bst row brow kept asked so sz ce tx T) (Ps := []) rfl trivial ?_
      refine ww_lv [1, 2, 3, 0] (lv' := [(0, .ref 0), (1, .int (nI P)), (2, .int (nI r)), (3, .int ((nI P) - 1))]) rfl ?_
      rw [show nI P - 1 = nI (P - 1) from by rw [show (1 : Int32) = nI 1 from rfl, pk_sub (by omega)]]
      have hab := aboF_le (f := row) (r := r) (P - 1)
      refine ly_nr_41 fr lo fa ki mo pe ch sty wset wfor law lent pfr plo pfa pki pmo ppe pch psty pwset pwfor plaw plent bytes tcodes tends tsize tat tcn tpl tok efr elo efa eki emo epe ech esty ewset ewfor elaw elent on was sat stood rose firsts waits till sitter names satOn risen pict tn brs bst row brow kept asked so sz ce tx T P r hP (by omega) ?_ (P - 1) (by omega) rfl
      refine ww_run 41 4 (pc' := 73) (lv' := [(0, .ref 0), (1, .int (nI P)), (2, .int (nI r)), (3, .int (nI (aboF row r (P - 1))))]) (st' := [.int (nI (aboF row r (P - 1))), .int (nI r), .ref 36]) (w' := wC fr lo fa ki mo pe ch sty wset wfor law lent pfr plo pfa pki pmo ppe pch psty pwset pwfor plaw plent bytes tcodes tends tsize tat tcn tpl tok efr elo efa eki emo epe ech esty ewset ewfor elaw elent on was sat stood rose firsts waits till sitter names satOn risen pict tn brs bst row brow kept asked so sz ce tx T) (Ps := []) rfl trivial ?_
      refine ww_cSv 45 (av := [.ref 36, .int (nI r), .int (nI (aboF row r (P - 1)))]) (w1 := wC fr lo fa ki mo pe ch sty wset wfor law lent pfr plo pfa pki pmo ppe pch psty pwset pwfor plaw plent bytes tcodes tends tsize tat tcn tpl tok efr elo efa eki emo epe ech esty ewset ewfor elaw elent on was sat stood rose firsts waits till sitter names satOn risen pict tn brs bst (swF row r (aboF row r (P - 1))) brow kept asked so sz ce tx T) ok_X6_exchange (Co.frv [36] (x_exchange 5 row r (aboF row r (P - 1)) (by omega) (by omega) (by omega)) rfl rfl rfl) lk_X6_325 rfl (by omega) (rest := []) rfl (Nat.le_of_ble_eq_true rfl) rfl ?_
      refine ww_run 46 8 (pc' := 86) (lv' := [(5, .int ((nI P) - 1)), (4, .int ((nI r) + 1)), (0, .ref 0), (1, .int (nI P)), (2, .int (nI r)), (3, .int (nI (aboF row r (P - 1))))]) (st' := []) (w' := wC fr lo fa ki mo pe ch sty wset wfor law lent pfr plo pfa pki pmo ppe pch psty pwset pwfor plaw plent bytes tcodes tends tsize tat tcn tpl tok efr elo efa eki emo epe ech esty ewset ewfor elaw elent on was sat stood rose firsts waits till sitter names satOn risen pict tn brs bst (swF row r (aboF row r (P - 1))) brow kept asked so sz ce tx T) (Ps := []) rfl trivial ?_
      rw [nI_1 r]
      refine ww_lv [2, 1, 0] (lv' := [(0, .ref 0), (4, .int (nI (r + 1))), (5, .int ((nI P) - 1))]) rfl ?_
      rw [show nI P - 1 = nI (P - 1) from by rw [show (1 : Int32) = nI 1 from rfl, pk_sub (by omega)]]
      refine ly_nr_86 (by omega) fr lo fa ki mo pe ch sty wset wfor law lent pfr plo pfa pki pmo ppe pch psty pwset pwfor plaw plent bytes tcodes tends tsize tat tcn tpl tok efr elo efa eki emo epe ech esty ewset ewfor elaw elent on was sat stood rose firsts waits till sitter names satOn risen pict tn brs bst brow kept asked so sz ce tx T (revF 5 (r + 1) (P - 1) (swF row r (aboF row r (P - 1)))) (fun row9 hrow9 => ?_) 5 (r + 1) (P - 1) _ (by omega) (by omega) (by omega) rfl
      refine ww_run 65 1 (pc' := 114) (lv' := [(0, .ref 0)]) (st' := [.int 1]) (w' := wC fr lo fa ki mo pe ch sty wset wfor law lent pfr plo pfa pki pmo ppe pch psty pwset pwfor plaw plent bytes tcodes tends tsize tat tcn tpl tok efr elo efa eki emo epe ech esty ewset ewfor elaw elent on was sat stood rose firsts waits till sitter names satOn risen pict tn brs bst row9 brow kept asked so sz ce tx T) (Ps := []) rfl trivial ?_
      refine ww_zret 66 rfl rfl rfl ?_
      exact Or.inr ⟨row9, by rw [hrow9]; simp only [nextF, hr], rfl, rfl⟩
    · exact absurd (nI_pos' (by omega)) c2
