abbrev wC13 (fr lo fa ki mo : Nat → Int32) (pe ch sty wset wfor law lent : Int32) (pfr plo pfa pki pmo : Nat → Int32) (ppe pch psty pwset pwfor plaw plent pict tn brs bst : Int32) : List va_E :=
  [.inr (5, [.ref 1, .ref 7, .int pict, .ref 13, .ref 17, .int tn, .ref 18, .ref 19, .int brs, .int bst, .ref 36, .ref 37, .ref 38, .ref 39]),
   .inr (1, [.ref 2, .ref 3, .ref 4, .int pe, .ref 5, .ref 6, .int ch, .int sty, .int wset, .int wfor, .int law, .int lent]),
   iA 5 fr,
   iA 5 lo,
   iA 5 fa,
   iA 6 ki,
   iA 6 mo,
   .inr (1, [.ref 8, .ref 9, .ref 10, .int ppe, .ref 11, .ref 12, .int pch, .int psty, .int pwset, .int pwfor, .int plaw, .int plent]),
   iA 5 pfr,
   iA 5 plo,
   iA 5 pfa,
   iA 6 pki,
   iA 6 pmo]
abbrev wC17 (fr lo fa ki mo : Nat → Int32) (pe ch sty wset wfor law lent : Int32) (pfr plo pfa pki pmo : Nat → Int32) (ppe pch psty pwset pwfor plaw plent : Int32) (bytes tcodes tends : Nat → Int32) (tsize tat tcn tpl tok pict tn brs bst : Int32) : List va_E :=
  [.inr (5, [.ref 1, .ref 7, .int pict, .ref 13, .ref 17, .int tn, .ref 18, .ref 19, .int brs, .int bst, .ref 36, .ref 37, .ref 38, .ref 39]),
   .inr (1, [.ref 2, .ref 3, .ref 4, .int pe, .ref 5, .ref 6, .int ch, .int sty, .int wset, .int wfor, .int law, .int lent]),
   iA 5 fr,
   iA 5 lo,
   iA 5 fa,
   iA 6 ki,
   iA 6 mo,
   .inr (1, [.ref 8, .ref 9, .ref 10, .int ppe, .ref 11, .ref 12, .int pch, .int psty, .int pwset, .int pwfor, .int plaw, .int plent]),
   iA 5 pfr,
   iA 5 plo,
   iA 5 pfa,
   iA 6 pki,
   iA 6 pmo,
   .inr (4, [.int tsize, .int tat, .ref 14, .ref 15, .ref 16, .int tcn, .int tpl, .int tok]),
   iA 160 bytes,
   iA 160 tcodes,
   iA 3 tends]
set_option maxHeartbeats 4000000 in
set_option maxRecDepth 100000 in
theorem h_isPerson (fr lo fa ki mo : Nat → Int32) (pe ch sty wset wfor law lent pict tn brs bst : Int32) (x : Int32) : Co M_X6_isPerson 1 0 0 [.ref 0, .int x] (wC7 fr lo fa ki mo pe ch sty wset wfor law lent pict tn brs bst) (Qi (b2i (mIn x 0 (pe - 1))) (wC7 fr lo fa ki mo pe ch sty wset wfor law lent pict tn brs bst)) := by
  refine Co.of ok_X6_isPerson rfl ?_
  refine ww_run 0 7 (pc' := 11) (lv' := [(0, .ref 0), (1, .int x)]) (st' := [.int (pe - 1), .int 0, .int x]) (w' := wC7 fr lo fa ki mo pe ch sty wset wfor law lent pict tn brs bst) (Ps := []) rfl trivial ?_
  refine ww_cSi 7 ok_X6_within (Co.fr0 (c_X6_within x 0 (pe - 1)) rfl) lk_X6_124 rfl (by omega) (rest := []) rfl (Nat.le_of_ble_eq_true rfl) rfl ?_
  refine ww_zret 8 rfl rfl (b2i_nar _) ?_
  exact ⟨rfl, rfl⟩
set_option maxHeartbeats 4000000 in
set_option maxRecDepth 100000 in
theorem h_isChair (fr lo fa ki mo : Nat → Int32) (pe ch sty wset wfor law lent pict tn brs bst : Int32) (x : Int32) : Co M_X6_isChair 1 0 0 [.ref 0, .int x] (wC7 fr lo fa ki mo pe ch sty wset wfor law lent pict tn brs bst) (Qi (b2i (mIn x 0 (ch - 1))) (wC7 fr lo fa ki mo pe ch sty wset wfor law lent pict tn brs bst)) := by
  refine Co.of ok_X6_isChair rfl ?_
  refine ww_run 0 7 (pc' := 11) (lv' := [(0, .ref 0), (1, .int x)]) (st' := [.int (ch - 1), .int 0, .int x]) (w' := wC7 fr lo fa ki mo pe ch sty wset wfor law lent pict tn brs bst) (Ps := []) rfl trivial ?_
  refine ww_cSi 7 ok_X6_within (Co.fr0 (c_X6_within x 0 (ch - 1)) rfl) lk_X6_124 rfl (by omega) (rest := []) rfl (Nat.le_of_ble_eq_true rfl) rfl ?_
  refine ww_zret 8 rfl rfl (b2i_nar _) ?_
  exact ⟨rfl, rfl⟩
set_option maxHeartbeats 4000000 in
set_option maxRecDepth 100000 in
theorem x_one (fr lo fa ki mo : Nat → Int32) (ch sty wset wfor law lent pict tn brs bst : Int32) (P : Nat) (hP : P ≤ 5) (a b c : Int32) : Co M_X6_one 2 0 0 [.ref 0, .int a, .int b, .int c] (wC7 fr lo fa ki mo (nI P) ch sty wset wfor law lent pict tn brs bst) (Qi (oneV P a b c) (wC7 ((one1 (fr, lo, fa, P) a b c).1) ((one1 (fr, lo, fa, P) a b c).2.1) ((one1 (fr, lo, fa, P) a b c).2.2.1) ki mo (nI (one1 (fr, lo, fa, P) a b c).2.2.2) ch sty wset wfor law lent pict tn brs bst)) := by
  refine Co.of ok_X6_one rfl ?_
  refine ww_run 0 2 (pc' := 2) (lv' := [(0, .ref 0), (1, .int a), (2, .int b), (3, .int c)]) (st' := [.int a, .int 0]) (w' := wC7 fr lo fa ki mo (nI P) ch sty wset wfor law lent pict tn brs bst) (Ps := []) rfl trivial ?_
  refine ww_cSi 2 ok_X6_isWish (Co.fr0 (c_X6_isWish 0 a) rfl) lk_X6_100 rfl (by omega) (rest := []) rfl (Nat.le_of_ble_eq_true rfl) rfl ?_
  refine ww_if_eq 3 rfl (tgt := 24) rfl (fun c1 => ?_) (fun c1 => ?_)
  · rw [b2i_eq0] at c1
    refine ww_run 12 1 (pc' := 26) (lv' := [(0, .ref 0), (1, .int a), (2, .int b), (3, .int c)]) (st' := [.int (-2)]) (w' := wC7 fr lo fa ki mo (nI P) ch sty wset wfor law lent pict tn brs bst) (Ps := []) rfl trivial ?_
    refine ww_iret 13 rfl rfl ?_
    have hn : ¬ mOne a b c := by
      intro q
      obtain ⟨q1, q2, q3⟩ := q
      have w1 : wOK 0 a := Or.inl ⟨rfl, q1⟩
      have w2 : wOK 1 b := Or.inr (Or.inl ⟨rfl, q2⟩)
      have w3 : wOK 2 c := Or.inr (Or.inr ⟨rfl, q3⟩)
      first | exact c1 w1 | exact c1 w2 | exact c1 w3
    have e1 : oneV P a b c = -2 := by unfold oneV; rw [if_neg hn]
    have e2 : one1 (fr, lo, fa, P) a b c = (fr, lo, fa, P) := if_neg (fun q => hn q.1)
    rw [e1, e2]
    exact ⟨rfl, rfl⟩
  · rw [b2i_ne0] at c1
    refine ww_run 4 2 (pc' := 10) (lv' := [(0, .ref 0), (1, .int a), (2, .int b), (3, .int c)]) (st' := [.int b, .int 1]) (w' := wC7 fr lo fa ki mo (nI P) ch sty wset wfor law lent pict tn brs bst) (Ps := []) rfl trivial ?_
    refine ww_cSi 6 ok_X6_isWish (Co.fr0 (c_X6_isWish 1 b) rfl) lk_X6_100 rfl (by omega) (rest := []) rfl (Nat.le_of_ble_eq_true rfl) rfl ?_
    refine ww_if_eq 7 rfl (tgt := 24) rfl (fun c2 => ?_) (fun c2 => ?_)
    · rw [b2i_eq0] at c2
      refine ww_run 12 1 (pc' := 26) (lv' := [(0, .ref 0), (1, .int a), (2, .int b), (3, .int c)]) (st' := [.int (-2)]) (w' := wC7 fr lo fa ki mo (nI P) ch sty wset wfor law lent pict tn brs bst) (Ps := []) rfl trivial ?_
      refine ww_iret 13 rfl rfl ?_
      have hn : ¬ mOne a b c := by
        intro q
        obtain ⟨q1, q2, q3⟩ := q
        have w1 : wOK 0 a := Or.inl ⟨rfl, q1⟩
        have w2 : wOK 1 b := Or.inr (Or.inl ⟨rfl, q2⟩)
        have w3 : wOK 2 c := Or.inr (Or.inr ⟨rfl, q3⟩)
        first | exact c2 w1 | exact c2 w2 | exact c2 w3
      have e1 : oneV P a b c = -2 := by unfold oneV; rw [if_neg hn]
      have e2 : one1 (fr, lo, fa, P) a b c = (fr, lo, fa, P) := if_neg (fun q => hn q.1)
      rw [e1, e2]
      exact ⟨rfl, rfl⟩
    · rw [b2i_ne0] at c2
      refine ww_run 8 2 (pc' := 18) (lv' := [(0, .ref 0), (1, .int a), (2, .int b), (3, .int c)]) (st' := [.int c, .int 2]) (w' := wC7 fr lo fa ki mo (nI P) ch sty wset wfor law lent pict tn brs bst) (Ps := []) rfl trivial ?_
      refine ww_cSi 10 ok_X6_isWish (Co.fr0 (c_X6_isWish 2 c) rfl) lk_X6_100 rfl (by omega) (rest := []) rfl (Nat.le_of_ble_eq_true rfl) rfl ?_
      refine ww_if_ne 11 rfl (tgt := 27) rfl (fun c3 => ?_) (fun c3 => ?_)
      · rw [b2i_ne0] at c3
        refine ww_run 14 4 (pc' := 35) (lv' := [(0, .ref 0), (1, .int a), (2, .int b), (3, .int c)]) (st' := [.int 5, .int (nI P)]) (w' := wC7 fr lo fa ki mo (nI P) ch sty wset wfor law lent pict tn brs bst) (Ps := []) rfl trivial ?_
        refine ww_icmp_lt 18 rfl (tgt := 41) rfl (fun c4 => ?_) (fun c4 => ?_)
        · have c4 : P < 5 := (nI_ltI (a := P) (b := 5) (by omega) (by omega)).mp c4
          refine ww_run 21 36 (pc' := 111) (lv' := [(0, .ref 0), (1, .int a), (2, .int b), (3, .int c)]) (st' := [.int (((nI P) + 1) - 1)]) (w' := wC7 (upd fr ((nI P).toNatClampNeg) a) (upd lo ((nI P).toNatClampNeg) b) (upd fa ((nI P).toNatClampNeg) c) ki mo ((nI P) + 1) ch sty wset wfor law lent pict tn brs bst) (Ps := [vp_in (nI P) 5, vp_in (nI P) 5, vp_in (nI P) 5]) rfl ⟨(vp_in_nI (by omega) (by omega)), (vp_in_nI (by omega) (by omega)), (vp_in_nI (by omega) (by omega)), trivial⟩ ?_
          rw [nI_clamp (n := P) (by omega)]
          rw [nI_1 P]
          rw [nI_pred P]
          refine ww_iret 57 rfl rfl ?_
          have hm : mOne a b c := by
            refine ⟨?_, ?_, ?_⟩
            · rcases c1 with ⟨-, h⟩ | ⟨h, -⟩ | ⟨h, -⟩
              · exact h
              · exact absurd h (by decide)
              · exact absurd h (by decide)
            · rcases c2 with ⟨h, -⟩ | ⟨-, h⟩ | ⟨h, -⟩
              · exact absurd h (by decide)
              · exact h
              · exact absurd h (by decide)
            · rcases c3 with ⟨h, -⟩ | ⟨h, -⟩ | ⟨-, h⟩
              · exact absurd h (by decide)
              · exact absurd h (by decide)
              · exact h
          have e1 : oneV P a b c = nI P := by unfold oneV; rw [if_pos hm, if_pos (by omega)]
          have e2 : one1 (fr, lo, fa, P) a b c = (upd fr P a, upd lo P b, upd fa P c, P + 1) := if_pos ⟨hm, by show P < 5; omega⟩
          rw [e1, e2]
          exact ⟨rfl, rfl⟩
        · have c4 : ¬ P < 5 := fun q => c4 ((nI_ltI (a := P) (b := 5) (by omega) (by omega)).mpr q)
          refine ww_run 19 1 (pc' := 40) (lv' := [(0, .ref 0), (1, .int a), (2, .int b), (3, .int c)]) (st' := [.int (-4)]) (w' := wC7 fr lo fa ki mo (nI P) ch sty wset wfor law lent pict tn brs bst) (Ps := []) rfl trivial ?_
          refine ww_iret 20 rfl rfl ?_
          have hm : mOne a b c := by
            refine ⟨?_, ?_, ?_⟩
            · rcases c1 with ⟨-, h⟩ | ⟨h, -⟩ | ⟨h, -⟩
              · exact h
              · exact absurd h (by decide)
              · exact absurd h (by decide)
            · rcases c2 with ⟨h, -⟩ | ⟨-, h⟩ | ⟨h, -⟩
              · exact absurd h (by decide)
              · exact h
              · exact absurd h (by decide)
            · rcases c3 with ⟨h, -⟩ | ⟨h, -⟩ | ⟨-, h⟩
              · exact absurd h (by decide)
              · exact absurd h (by decide)
              · exact h
          have e1 : oneV P a b c = -4 := by unfold oneV; rw [if_pos hm, if_neg (by omega)]
          have e2 : one1 (fr, lo, fa, P) a b c = (fr, lo, fa, P) := if_neg (fun q => absurd q.2 (by show ¬ P < 5; omega))
          rw [e1, e2]
          exact ⟨rfl, rfl⟩
      · rw [b2i_eq0] at c3
        refine ww_run 12 1 (pc' := 26) (lv' := [(0, .ref 0), (1, .int a), (2, .int b), (3, .int c)]) (st' := [.int (-2)]) (w' := wC7 fr lo fa ki mo (nI P) ch sty wset wfor law lent pict tn brs bst) (Ps := []) rfl trivial ?_
        refine ww_iret 13 rfl rfl ?_
        have hn : ¬ mOne a b c := by
          intro q
          obtain ⟨q1, q2, q3⟩ := q
          have w1 : wOK 0 a := Or.inl ⟨rfl, q1⟩
          have w2 : wOK 1 b := Or.inr (Or.inl ⟨rfl, q2⟩)
          have w3 : wOK 2 c := Or.inr (Or.inr ⟨rfl, q3⟩)
          first | exact c3 w1 | exact c3 w2 | exact c3 w3
        have e1 : oneV P a b c = -2 := by unfold oneV; rw [if_neg hn]
        have e2 : one1 (fr, lo, fa, P) a b c = (fr, lo, fa, P) := if_neg (fun q => hn q.1)
        rw [e1, e2]
        exact ⟨rfl, rfl⟩
set_option maxHeartbeats 4000000 in
set_option maxRecDepth 100000 in
theorem x_wish (fr lo fa ki mo : Nat → Int32) (ch sty wset wfor law lent pict tn brs bst : Int32) (P : Nat) (hP : P ≤ 5) (pp what v : Int32) : Co M_X6_wish 2 0 0 [.ref 0, .int pp, .int what, .int v] (wC7 fr lo fa ki mo (nI P) ch sty wset wfor law lent pict tn brs bst) (fun r w' => ((¬ mIn pp 0 (nI P - 1)) ∧ r = some (.int (-5)) ∧ w' = wC7 fr lo fa ki mo (nI P) ch sty wset wfor law lent pict tn brs bst) ∨ ((mIn pp 0 (nI P - 1) ∧ ¬ wOK what v) ∧ r = some (.int (-7)) ∧ w' = wC7 fr lo fa ki mo (nI P) ch sty wset wfor law lent pict tn brs bst) ∨ ((mIn pp 0 (nI P - 1) ∧ wOK what v) ∧ r = some (.int (wGet fr lo fa what pp.toNatClampNeg)) ∧ w' = wC7 (if what = 0 then upd fr pp.toNatClampNeg v else fr) (if what = 1 then upd lo pp.toNatClampNeg v else lo) (if what = 2 then upd fa pp.toNatClampNeg v else fa) ki mo (nI P) ch sty wset wfor law lent pict tn brs bst)) := by
  refine Co.of ok_X6_wish rfl ?_
  refine ww_run 0 2 (pc' := 2) (lv' := [(0, .ref 0), (1, .int pp), (2, .int what), (3, .int v)]) (st' := [.int pp, .ref 0]) (w' := wC7 fr lo fa ki mo (nI P) ch sty wset wfor law lent pict tn brs bst) (Ps := []) rfl trivial ?_
  refine ww_cVi 2 ok_X6_isPerson (h_isPerson fr lo fa ki mo (nI P) ch sty wset wfor law lent pict tn brs bst pp) lk_X6_116 rfl (by omega) (rest := []) rfl (Nat.le_of_ble_eq_true rfl) rfl rfl rfl rfl ?_
  refine ww_if_ne 3 rfl (tgt := 11) rfl (fun c1 => ?_) (fun c1 => ?_)
  · rw [b2i_ne0] at c1
    refine ww_run 6 2 (pc' := 13) (lv' := [(0, .ref 0), (1, .int pp), (2, .int what), (3, .int v)]) (st' := [.int v, .int what]) (w' := wC7 fr lo fa ki mo (nI P) ch sty wset wfor law lent pict tn brs bst) (Ps := []) rfl trivial ?_
    refine ww_cSi 8 ok_X6_isWish (Co.fr0 (c_X6_isWish what v) rfl) lk_X6_100 rfl (by omega) (rest := []) rfl (Nat.le_of_ble_eq_true rfl) rfl ?_
    refine ww_if_ne 9 rfl (tgt := 22) rfl (fun c2 => ?_) (fun c2 => ?_)
    · rw [b2i_ne0] at c2
      obtain ⟨p, hp, rfl⟩ := one_nI (by omega) c1
      have hw : what = 0 ∨ what = 1 ∨ what = 2 := by
        rcases c2 with h | h | h
        · exact Or.inl h.1
        · exact Or.inr (Or.inl h.1)
        · exact Or.inr (Or.inr h.1)
      rcases hw with rfl | rfl | rfl
      · skip
        refine ww_run 12 3 (pc' := 27) (lv' := [(0, .ref 0), (1, .int (nI p)), (2, .int 0), (3, .int v)]) (st' := [.int 0, .ref 1]) (w' := wC7 fr lo fa ki mo (nI P) ch sty wset wfor law lent pict tn brs bst) (Ps := []) rfl trivial ?_
        refine ww_cV 15 (b := 1) (av := [.int 0]) ok_X1_wishes (Co.frame [1, 2, 3, 4, 5, 6] (c_X1_wishes fr lo fa ki mo (nI P) ch sty wset wfor law lent 0) rfl rfl) lk_X6_120 rfl (by omega) (rest := []) rfl (Nat.le_of_ble_eq_true rfl) rfl rfl rfl rfl (fun r w' hq => ?_)
        obtain ⟨r0, w0, ⟨rfl, rfl⟩, rfl, rfl⟩ := hq
        refine ww_run 16 10 (pc' := 45) (lv' := [(5, .int (fr (nI p).toNatClampNeg)), (4, .ref 2), (0, .ref 0), (1, .int (nI p)), (2, .int 0), (3, .int v)]) (st' := [.int (fr (nI p).toNatClampNeg)]) (w' := wC7 (upd fr ((nI p).toNatClampNeg) v) lo fa ki mo (nI P) ch sty wset wfor law lent pict tn brs bst) (Ps := [vp_in (nI p) 5, vp_in (nI p) 5]) rfl ⟨(vp_in_nI (by omega) (by omega)), (vp_in_nI (by omega) (by omega)), trivial⟩ ?_
        rw [nI_clamp (n := p) (by omega)]
        refine ww_iret 26 rfl rfl ?_
        refine Or.inr (Or.inr ⟨⟨c1, c2⟩, ?_, ?_⟩)
        · simp [wGet, nI_clamp (n := p) (by omega)]
        · simp [nI_clamp (n := p) (by omega)]
      · skip
        refine ww_run 12 3 (pc' := 27) (lv' := [(0, .ref 0), (1, .int (nI p)), (2, .int 1), (3, .int v)]) (st' := [.int 1, .ref 1]) (w' := wC7 fr lo fa ki mo (nI P) ch sty wset wfor law lent pict tn brs bst) (Ps := []) rfl trivial ?_
        refine ww_cV 15 (b := 1) (av := [.int 1]) ok_X1_wishes (Co.frame [1, 2, 3, 4, 5, 6] (c_X1_wishes fr lo fa ki mo (nI P) ch sty wset wfor law lent 1) rfl rfl) lk_X6_120 rfl (by omega) (rest := []) rfl (Nat.le_of_ble_eq_true rfl) rfl rfl rfl rfl (fun r w' hq => ?_)
        obtain ⟨r0, w0, ⟨rfl, rfl⟩, rfl, rfl⟩ := hq
        refine ww_run 16 10 (pc' := 45) (lv' := [(5, .int (lo (nI p).toNatClampNeg)), (4, .ref 3), (0, .ref 0), (1, .int (nI p)), (2, .int 1), (3, .int v)]) (st' := [.int (lo (nI p).toNatClampNeg)]) (w' := wC7 fr (upd lo ((nI p).toNatClampNeg) v) fa ki mo (nI P) ch sty wset wfor law lent pict tn brs bst) (Ps := [vp_in (nI p) 5, vp_in (nI p) 5]) rfl ⟨(vp_in_nI (by omega) (by omega)), (vp_in_nI (by omega) (by omega)), trivial⟩ ?_
        rw [nI_clamp (n := p) (by omega)]
        refine ww_iret 26 rfl rfl ?_
        refine Or.inr (Or.inr ⟨⟨c1, c2⟩, ?_, ?_⟩)
        · simp [wGet, nI_clamp (n := p) (by omega)]
        · simp [nI_clamp (n := p) (by omega)]
      · skip
        refine ww_run 12 3 (pc' := 27) (lv' := [(0, .ref 0), (1, .int (nI p)), (2, .int 2), (3, .int v)]) (st' := [.int 2, .ref 1]) (w' := wC7 fr lo fa ki mo (nI P) ch sty wset wfor law lent pict tn brs bst) (Ps := []) rfl trivial ?_
        refine ww_cV 15 (b := 1) (av := [.int 2]) ok_X1_wishes (Co.frame [1, 2, 3, 4, 5, 6] (c_X1_wishes fr lo fa ki mo (nI P) ch sty wset wfor law lent 2) rfl rfl) lk_X6_120 rfl (by omega) (rest := []) rfl (Nat.le_of_ble_eq_true rfl) rfl rfl rfl rfl (fun r w' hq => ?_)
        obtain ⟨r0, w0, ⟨rfl, rfl⟩, rfl, rfl⟩ := hq
        refine ww_run 16 10 (pc' := 45) (lv' := [(5, .int (fa (nI p).toNatClampNeg)), (4, .ref 4), (0, .ref 0), (1, .int (nI p)), (2, .int 2), (3, .int v)]) (st' := [.int (fa (nI p).toNatClampNeg)]) (w' := wC7 fr lo (upd fa ((nI p).toNatClampNeg) v) ki mo (nI P) ch sty wset wfor law lent pict tn brs bst) (Ps := [vp_in (nI p) 5, vp_in (nI p) 5]) rfl ⟨(vp_in_nI (by omega) (by omega)), (vp_in_nI (by omega) (by omega)), trivial⟩ ?_
        rw [nI_clamp (n := p) (by omega)]
        refine ww_iret 26 rfl rfl ?_
        refine Or.inr (Or.inr ⟨⟨c1, c2⟩, ?_, ?_⟩)
        · simp [wGet, nI_clamp (n := p) (by omega)]
        · simp [nI_clamp (n := p) (by omega)]
    · rw [b2i_eq0] at c2
      refine ww_run 10 1 (pc' := 21) (lv' := [(0, .ref 0), (1, .int pp), (2, .int what), (3, .int v)]) (st' := [.int (-7)]) (w' := wC7 fr lo fa ki mo (nI P) ch sty wset wfor law lent pict tn brs bst) (Ps := []) rfl trivial ?_
      refine ww_iret 11 rfl rfl ?_
      exact Or.inr (Or.inl ⟨⟨c1, c2⟩, rfl, rfl⟩)
  · rw [b2i_eq0] at c1
    refine ww_run 4 1 (pc' := 10) (lv' := [(0, .ref 0), (1, .int pp), (2, .int what), (3, .int v)]) (st' := [.int (-5)]) (w' := wC7 fr lo fa ki mo (nI P) ch sty wset wfor law lent pict tn brs bst) (Ps := []) rfl trivial ?_
    refine ww_iret 5 rfl rfl ?_
    exact Or.inl ⟨c1, rfl, rfl⟩
set_option maxHeartbeats 4000000 in
set_option maxRecDepth 100000 in
theorem x_oneTold (fr lo fa ki mo : Nat → Int32) (ch sty wset wfor law lent pict tn brs bst : Int32) (P : Nat) (hP : P ≤ 5) (pp what : Int32) : Co M_X6_oneTold 2 0 0 [.ref 0, .int pp, .int what] (wC7 fr lo fa ki mo (nI P) ch sty wset wfor law lent pict tn brs bst) (Qi (if ¬ mIn pp 0 (nI P - 1) then -5 else if ¬ mIn what 0 2 then -7 else wGet fr lo fa what pp.toNatClampNeg) (wC7 fr lo fa ki mo (nI P) ch sty wset wfor law lent pict tn brs bst)) := by
  refine Co.of ok_X6_oneTold rfl ?_
  refine ww_run 0 2 (pc' := 2) (lv' := [(0, .ref 0), (1, .int pp), (2, .int what)]) (st' := [.int pp, .ref 0]) (w' := wC7 fr lo fa ki mo (nI P) ch sty wset wfor law lent pict tn brs bst) (Ps := []) rfl trivial ?_
  refine ww_cVi 2 ok_X6_isPerson (h_isPerson fr lo fa ki mo (nI P) ch sty wset wfor law lent pict tn brs bst pp) lk_X6_116 rfl (by omega) (rest := []) rfl (Nat.le_of_ble_eq_true rfl) rfl rfl rfl rfl ?_
  refine ww_if_ne 3 rfl (tgt := 11) rfl (fun c1 => ?_) (fun c1 => ?_)
  · rw [b2i_ne0] at c1
    refine ww_run 6 3 (pc' := 14) (lv' := [(0, .ref 0), (1, .int pp), (2, .int what)]) (st' := [.int 2, .int 0, .int what]) (w' := wC7 fr lo fa ki mo (nI P) ch sty wset wfor law lent pict tn brs bst) (Ps := []) rfl trivial ?_
    refine ww_cSi 9 ok_X6_within (Co.fr0 (c_X6_within what 0 2) rfl) lk_X6_124 rfl (by omega) (rest := []) rfl (Nat.le_of_ble_eq_true rfl) rfl ?_
    refine ww_if_ne 10 rfl (tgt := 23) rfl (fun c2 => ?_) (fun c2 => ?_)
    · rw [b2i_ne0] at c2
      obtain ⟨p, hp, rfl⟩ := one_nI (by omega) c1
      rcases in3 c2 with rfl | rfl | rfl
      · skip
        refine ww_run 13 3 (pc' := 28) (lv' := [(0, .ref 0), (1, .int (nI p)), (2, .int 0)]) (st' := [.int 0, .ref 1]) (w' := wC7 fr lo fa ki mo (nI P) ch sty wset wfor law lent pict tn brs bst) (Ps := []) rfl trivial ?_
        refine ww_cV 16 (b := 1) (av := [.int 0]) ok_X1_wishes (Co.frame [1, 2, 3, 4, 5, 6] (c_X1_wishes fr lo fa ki mo (nI P) ch sty wset wfor law lent 0) rfl rfl) lk_X6_120 rfl (by omega) (rest := []) rfl (Nat.le_of_ble_eq_true rfl) rfl rfl rfl rfl (fun r w' hq => ?_)
        obtain ⟨r0, w0, ⟨rfl, rfl⟩, rfl, rfl⟩ := hq
        refine ww_run 17 2 (pc' := 33) (lv' := [(0, .ref 0), (1, .int (nI p)), (2, .int 0)]) (st' := [.int (fr (nI p).toNatClampNeg)]) (w' := wC7 fr lo fa ki mo (nI P) ch sty wset wfor law lent pict tn brs bst) (Ps := [vp_in (nI p) 5]) rfl ⟨(vp_in_nI (by omega) (by omega)), trivial⟩ ?_
        rw [nI_clamp (n := p) (by omega)]
        refine ww_iret 19 rfl rfl ?_
        exact ⟨by rw [if_neg (fun q => q c1), if_neg (fun q => q c2)]; simp [wGet, nI_clamp (n := p) (by omega)], rfl⟩
      · skip
        refine ww_run 13 3 (pc' := 28) (lv' := [(0, .ref 0), (1, .int (nI p)), (2, .int 1)]) (st' := [.int 1, .ref 1]) (w' := wC7 fr lo fa ki mo (nI P) ch sty wset wfor law lent pict tn brs bst) (Ps := []) rfl trivial ?_
        refine ww_cV 16 (b := 1) (av := [.int 1]) ok_X1_wishes (Co.frame [1, 2, 3, 4, 5, 6] (c_X1_wishes fr lo fa ki mo (nI P) ch sty wset wfor law lent 1) rfl rfl) lk_X6_120 rfl (by omega) (rest := []) rfl (Nat.le_of_ble_eq_true rfl) rfl rfl rfl rfl (fun r w' hq => ?_)
        obtain ⟨r0, w0, ⟨rfl, rfl⟩, rfl, rfl⟩ := hq
        refine ww_run 17 2 (pc' := 33) (lv' := [(0, .ref 0), (1, .int (nI p)), (2, .int 1)]) (st' := [.int (lo (nI p).toNatClampNeg)]) (w' := wC7 fr lo fa ki mo (nI P) ch sty wset wfor law lent pict tn brs bst) (Ps := [vp_in (nI p) 5]) rfl ⟨(vp_in_nI (by omega) (by omega)), trivial⟩ ?_
        rw [nI_clamp (n := p) (by omega)]
        refine ww_iret 19 rfl rfl ?_
        exact ⟨by rw [if_neg (fun q => q c1), if_neg (fun q => q c2)]; simp [wGet, nI_clamp (n := p) (by omega)], rfl⟩
      · skip
        refine ww_run 13 3 (pc' := 28) (lv' := [(0, .ref 0), (1, .int (nI p)), (2, .int 2)]) (st' := [.int 2, .ref 1]) (w' := wC7 fr lo fa ki mo (nI P) ch sty wset wfor law lent pict tn brs bst) (Ps := []) rfl trivial ?_
        refine ww_cV 16 (b := 1) (av := [.int 2]) ok_X1_wishes (Co.frame [1, 2, 3, 4, 5, 6] (c_X1_wishes fr lo fa ki mo (nI P) ch sty wset wfor law lent 2) rfl rfl) lk_X6_120 rfl (by omega) (rest := []) rfl (Nat.le_of_ble_eq_true rfl) rfl rfl rfl rfl (fun r w' hq => ?_)
        obtain ⟨r0, w0, ⟨rfl, rfl⟩, rfl, rfl⟩ := hq
        refine ww_run 17 2 (pc' := 33) (lv' := [(0, .ref 0), (1, .int (nI p)), (2, .int 2)]) (st' := [.int (fa (nI p).toNatClampNeg)]) (w' := wC7 fr lo fa ki mo (nI P) ch sty wset wfor law lent pict tn brs bst) (Ps := [vp_in (nI p) 5]) rfl ⟨(vp_in_nI (by omega) (by omega)), trivial⟩ ?_
        rw [nI_clamp (n := p) (by omega)]
        refine ww_iret 19 rfl rfl ?_
        exact ⟨by rw [if_neg (fun q => q c1), if_neg (fun q => q c2)]; simp [wGet, nI_clamp (n := p) (by omega)], rfl⟩
    · rw [b2i_eq0] at c2
      refine ww_run 11 1 (pc' := 22) (lv' := [(0, .ref 0), (1, .int pp), (2, .int what)]) (st' := [.int (-7)]) (w' := wC7 fr lo fa ki mo (nI P) ch sty wset wfor law lent pict tn brs bst) (Ps := []) rfl trivial ?_
      refine ww_iret 12 rfl rfl ?_
      exact ⟨by rw [if_neg (fun q => q c1), if_pos c2], rfl⟩
  · rw [b2i_eq0] at c1
    refine ww_run 4 1 (pc' := 10) (lv' := [(0, .ref 0), (1, .int pp), (2, .int what)]) (st' := [.int (-5)]) (w' := wC7 fr lo fa ki mo (nI P) ch sty wset wfor law lent pict tn brs bst) (Ps := []) rfl trivial ?_
    refine ww_iret 5 rfl rfl ?_
    exact ⟨by rw [if_pos c1], rfl⟩
set_option maxHeartbeats 4000000 in
set_option maxRecDepth 100000 in
theorem x_house (fr lo fa ki mo : Nat → Int32) (pe ch sty wset wfor law lent pict tn brs bst : Int32) (what v : Int32) : Co M_X6_house 1 0 0 [.ref 0, .int what, .int v] (wC7 fr lo fa ki mo pe ch sty wset wfor law lent pict tn brs bst) (fun r w' => ((¬ mIn what 0 2) ∧ r = some (.int (-1)) ∧ w' = wC7 fr lo fa ki mo pe ch sty wset wfor law lent pict tn brs bst) ∨ ((mIn what 0 2 ∧ ¬ hOK what v) ∧ r = some (.int (-2)) ∧ w' = wC7 fr lo fa ki mo pe ch sty wset wfor law lent pict tn brs bst) ∨ ((mIn what 0 2 ∧ hOK what v) ∧ r = some (.int (hGet sty wset wfor what)) ∧ w' = wC7 fr lo fa ki mo pe ch (if what = 0 then v else sty) (if what = 1 then v else wset) (if what = 2 then v else wfor) law lent pict tn brs bst)) := by
  refine Co.of ok_X6_house rfl ?_
  refine ww_run 0 3 (pc' := 3) (lv' := [(0, .ref 0), (1, .int what), (2, .int v)]) (st' := [.int 2, .int 0, .int what]) (w' := wC7 fr lo fa ki mo pe ch sty wset wfor law lent pict tn brs bst) (Ps := []) rfl trivial ?_
  refine ww_cSi 3 ok_X6_within (Co.fr0 (c_X6_within what 0 2) rfl) lk_X6_124 rfl (by omega) (rest := []) rfl (Nat.le_of_ble_eq_true rfl) rfl ?_
  refine ww_if_ne 4 rfl (tgt := 11) rfl (fun c1 => ?_) (fun c1 => ?_)
  · rw [b2i_ne0] at c1
    rcases in3 c1 with rfl | rfl | rfl
    · skip
      refine ww_run 7 3 (pc' := 14) (lv' := [(0, .ref 0), (1, .int 0), (2, .int v)]) (st' := [.int 0, .int 0, .int v]) (w' := wC7 fr lo fa ki mo pe ch sty wset wfor law lent pict tn brs bst) (Ps := []) rfl trivial ?_
      refine ww_if_ne 10 rfl (tgt := 21) rfl (fun c2 => ?_) (fun c2 => ?_)
      · exact absurd c2 (by decide)
      · refine ww_run 11 2 (pc' := 33) (lv' := [(0, .ref 0), (1, .int 0), (2, .int v)]) (st' := [.int 2, .int 0, .int v]) (w' := wC7 fr lo fa ki mo pe ch sty wset wfor law lent pict tn brs bst) (Ps := []) rfl trivial ?_
        refine ww_cSi 19 ok_X6_within (Co.fr0 (c_X6_within v 0 2) rfl) lk_X6_124 rfl (by omega) (rest := []) rfl (Nat.le_of_ble_eq_true rfl) rfl ?_
        refine ww_if_ne 20 rfl (tgt := 42) rfl (fun c3 => ?_) (fun c3 => ?_)
        · rw [b2i_ne0] at c3
          refine ww_run 23 3 (pc' := 47) (lv' := [(0, .ref 0), (1, .int 0), (2, .int v)]) (st' := [.int 0, .ref 1]) (w' := wC7 fr lo fa ki mo pe ch sty wset wfor law lent pict tn brs bst) (Ps := []) rfl trivial ?_
          refine ww_cVi 26 (b := 1) (av := [.int 0]) (w1 := wC7 fr lo fa ki mo pe ch sty wset wfor law lent pict tn brs bst) ok_X1_setting (Co.fri [1, 2, 3, 4, 5, 6] (c_X1_setting fr lo fa ki mo pe ch sty wset wfor law lent 0) rfl rfl rfl) lk_X6_128 rfl (by omega) (rest := []) rfl (Nat.le_of_ble_eq_true rfl) rfl rfl rfl rfl ?_
          refine ww_run 27 5 (pc' := 57) (lv' := [(3, .int (hGet sty wset wfor 0)), (0, .ref 0), (1, .int 0), (2, .int v)]) (st' := [.int v, .int 0, .ref 1]) (w' := wC7 fr lo fa ki mo pe ch sty wset wfor law lent pict tn brs bst) (Ps := []) rfl trivial ?_
          refine ww_cV 32 (b := 1) (av := [.int 0, .int v]) ok_X1_set (Co.frame [1, 2, 3, 4, 5, 6] (c_X1_set fr lo fa ki mo pe ch sty wset wfor law lent 0 v) rfl rfl) lk_X6_132 rfl (by omega) (rest := []) rfl (Nat.le_of_ble_eq_true rfl) rfl rfl rfl rfl (fun r w' hq => ?_)
          obtain ⟨r0, w0, ⟨rfl, hq⟩, rfl, rfl⟩ := hq
          obtain ⟨-, rfl⟩ | ⟨h, -⟩ | ⟨h, -⟩ := hq
          rotate_left
          · exact absurd rfl h
          · exact absurd rfl h
          refine ww_run 33 1 (pc' := 61) (lv' := [(3, .int (hGet sty wset wfor 0)), (0, .ref 0), (1, .int 0), (2, .int v)]) (st' := [.int (hGet sty wset wfor 0)]) (w' := wC7 fr lo fa ki mo pe ch v wset wfor law lent pict tn brs bst) (Ps := []) rfl trivial ?_
          refine ww_iret 34 rfl rfl ?_
          refine Or.inr (Or.inr ⟨⟨c1, Or.inl ⟨rfl, c3⟩⟩, rfl, ?_⟩)
          simp
        · rw [b2i_eq0] at c3
          refine ww_run 21 1 (pc' := 41) (lv' := [(0, .ref 0), (1, .int 0), (2, .int v)]) (st' := [.int (-2)]) (w' := wC7 fr lo fa ki mo pe ch sty wset wfor law lent pict tn brs bst) (Ps := []) rfl trivial ?_
          refine ww_iret 22 rfl rfl ?_
          exact Or.inr (Or.inl ⟨by unfold hOK; grind, rfl, rfl⟩)
    · skip
      refine ww_run 7 3 (pc' := 14) (lv' := [(0, .ref 0), (1, .int 1), (2, .int v)]) (st' := [.int 1, .int 0, .int v]) (w' := wC7 fr lo fa ki mo pe ch sty wset wfor law lent pict tn brs bst) (Ps := []) rfl trivial ?_
      refine ww_if_ne 10 rfl (tgt := 21) rfl (fun c4 => ?_) (fun c4 => ?_)
      · refine ww_run 13 2 (pc' := 23) (lv' := [(0, .ref 0), (1, .int 1), (2, .int v)]) (st' := [.int 1, .int 1, .int 0, .int v]) (w' := wC7 fr lo fa ki mo pe ch sty wset wfor law lent pict tn brs bst) (Ps := []) rfl trivial ?_
        refine ww_icmp_ne 15 rfl (tgt := 31) rfl (fun c5 => ?_) (fun c5 => ?_)
        · exact absurd c5 (by decide)
        · refine ww_run 16 2 (pc' := 33) (lv' := [(0, .ref 0), (1, .int 1), (2, .int v)]) (st' := [.int 63, .int 0, .int v]) (w' := wC7 fr lo fa ki mo pe ch sty wset wfor law lent pict tn brs bst) (Ps := []) rfl trivial ?_
          refine ww_cSi 19 ok_X6_within (Co.fr0 (c_X6_within v 0 63) rfl) lk_X6_124 rfl (by omega) (rest := []) rfl (Nat.le_of_ble_eq_true rfl) rfl ?_
          refine ww_if_ne 20 rfl (tgt := 42) rfl (fun c6 => ?_) (fun c6 => ?_)
          · rw [b2i_ne0] at c6
            refine ww_run 23 3 (pc' := 47) (lv' := [(0, .ref 0), (1, .int 1), (2, .int v)]) (st' := [.int 1, .ref 1]) (w' := wC7 fr lo fa ki mo pe ch sty wset wfor law lent pict tn brs bst) (Ps := []) rfl trivial ?_
            refine ww_cVi 26 (b := 1) (av := [.int 1]) (w1 := wC7 fr lo fa ki mo pe ch sty wset wfor law lent pict tn brs bst) ok_X1_setting (Co.fri [1, 2, 3, 4, 5, 6] (c_X1_setting fr lo fa ki mo pe ch sty wset wfor law lent 1) rfl rfl rfl) lk_X6_128 rfl (by omega) (rest := []) rfl (Nat.le_of_ble_eq_true rfl) rfl rfl rfl rfl ?_
            refine ww_run 27 5 (pc' := 57) (lv' := [(3, .int (hGet sty wset wfor 1)), (0, .ref 0), (1, .int 1), (2, .int v)]) (st' := [.int v, .int 1, .ref 1]) (w' := wC7 fr lo fa ki mo pe ch sty wset wfor law lent pict tn brs bst) (Ps := []) rfl trivial ?_
            refine ww_cV 32 (b := 1) (av := [.int 1, .int v]) ok_X1_set (Co.frame [1, 2, 3, 4, 5, 6] (c_X1_set fr lo fa ki mo pe ch sty wset wfor law lent 1 v) rfl rfl) lk_X6_132 rfl (by omega) (rest := []) rfl (Nat.le_of_ble_eq_true rfl) rfl rfl rfl rfl (fun r w' hq => ?_)
            obtain ⟨r0, w0, ⟨rfl, hq⟩, rfl, rfl⟩ := hq
            obtain ⟨h, -⟩ | ⟨-, -, rfl⟩ | ⟨-, h, -⟩ := hq
            · exact absurd h (by decide)
            rotate_left
            · exact absurd rfl h
            refine ww_run 33 1 (pc' := 61) (lv' := [(3, .int (hGet sty wset wfor 1)), (0, .ref 0), (1, .int 1), (2, .int v)]) (st' := [.int (hGet sty wset wfor 1)]) (w' := wC7 fr lo fa ki mo pe ch sty v wfor law lent pict tn brs bst) (Ps := []) rfl trivial ?_
            refine ww_iret 34 rfl rfl ?_
            refine Or.inr (Or.inr ⟨⟨c1, Or.inr (Or.inl ⟨rfl, c6⟩)⟩, rfl, ?_⟩)
            simp
          · rw [b2i_eq0] at c6
            refine ww_run 21 1 (pc' := 41) (lv' := [(0, .ref 0), (1, .int 1), (2, .int v)]) (st' := [.int (-2)]) (w' := wC7 fr lo fa ki mo pe ch sty wset wfor law lent pict tn brs bst) (Ps := []) rfl trivial ?_
            refine ww_iret 22 rfl rfl ?_
            exact Or.inr (Or.inl ⟨by unfold hOK; grind, rfl, rfl⟩)
      · exact absurd c4 (by decide)
    · skip
      refine ww_run 7 3 (pc' := 14) (lv' := [(0, .ref 0), (1, .int 2), (2, .int v)]) (st' := [.int 2, .int 0, .int v]) (w' := wC7 fr lo fa ki mo pe ch sty wset wfor law lent pict tn brs bst) (Ps := []) rfl trivial ?_
      refine ww_if_ne 10 rfl (tgt := 21) rfl (fun c7 => ?_) (fun c7 => ?_)
      · refine ww_run 13 2 (pc' := 23) (lv' := [(0, .ref 0), (1, .int 2), (2, .int v)]) (st' := [.int 1, .int 2, .int 0, .int v]) (w' := wC7 fr lo fa ki mo pe ch sty wset wfor law lent pict tn brs bst) (Ps := []) rfl trivial ?_
        refine ww_icmp_ne 15 rfl (tgt := 31) rfl (fun c8 => ?_) (fun c8 => ?_)
        · refine ww_run 18 1 (pc' := 33) (lv' := [(0, .ref 0), (1, .int 2), (2, .int v)]) (st' := [.int 30, .int 0, .int v]) (w' := wC7 fr lo fa ki mo pe ch sty wset wfor law lent pict tn brs bst) (Ps := []) rfl trivial ?_
          refine ww_cSi 19 ok_X6_within (Co.fr0 (c_X6_within v 0 30) rfl) lk_X6_124 rfl (by omega) (rest := []) rfl (Nat.le_of_ble_eq_true rfl) rfl ?_
          refine ww_if_ne 20 rfl (tgt := 42) rfl (fun c9 => ?_) (fun c9 => ?_)
          · rw [b2i_ne0] at c9
            refine ww_run 23 3 (pc' := 47) (lv' := [(0, .ref 0), (1, .int 2), (2, .int v)]) (st' := [.int 2, .ref 1]) (w' := wC7 fr lo fa ki mo pe ch sty wset wfor law lent pict tn brs bst) (Ps := []) rfl trivial ?_
            refine ww_cVi 26 (b := 1) (av := [.int 2]) (w1 := wC7 fr lo fa ki mo pe ch sty wset wfor law lent pict tn brs bst) ok_X1_setting (Co.fri [1, 2, 3, 4, 5, 6] (c_X1_setting fr lo fa ki mo pe ch sty wset wfor law lent 2) rfl rfl rfl) lk_X6_128 rfl (by omega) (rest := []) rfl (Nat.le_of_ble_eq_true rfl) rfl rfl rfl rfl ?_
            refine ww_run 27 5 (pc' := 57) (lv' := [(3, .int (hGet sty wset wfor 2)), (0, .ref 0), (1, .int 2), (2, .int v)]) (st' := [.int v, .int 2, .ref 1]) (w' := wC7 fr lo fa ki mo pe ch sty wset wfor law lent pict tn brs bst) (Ps := []) rfl trivial ?_
            refine ww_cV 32 (b := 1) (av := [.int 2, .int v]) ok_X1_set (Co.frame [1, 2, 3, 4, 5, 6] (c_X1_set fr lo fa ki mo pe ch sty wset wfor law lent 2 v) rfl rfl) lk_X6_132 rfl (by omega) (rest := []) rfl (Nat.le_of_ble_eq_true rfl) rfl rfl rfl rfl (fun r w' hq => ?_)
            obtain ⟨r0, w0, ⟨rfl, hq⟩, rfl, rfl⟩ := hq
            obtain ⟨h, -⟩ | ⟨-, h, -⟩ | ⟨-, -, rfl⟩ := hq
            · exact absurd h (by decide)
            · exact absurd h (by decide)
            refine ww_run 33 1 (pc' := 61) (lv' := [(3, .int (hGet sty wset wfor 2)), (0, .ref 0), (1, .int 2), (2, .int v)]) (st' := [.int (hGet sty wset wfor 2)]) (w' := wC7 fr lo fa ki mo pe ch sty wset v law lent pict tn brs bst) (Ps := []) rfl trivial ?_
            refine ww_iret 34 rfl rfl ?_
            refine Or.inr (Or.inr ⟨⟨c1, Or.inr (Or.inr ⟨rfl, c9⟩)⟩, rfl, ?_⟩)
            simp
          · rw [b2i_eq0] at c9
            refine ww_run 21 1 (pc' := 41) (lv' := [(0, .ref 0), (1, .int 2), (2, .int v)]) (st' := [.int (-2)]) (w' := wC7 fr lo fa ki mo pe ch sty wset wfor law lent pict tn brs bst) (Ps := []) rfl trivial ?_
            refine ww_iret 22 rfl rfl ?_
            exact Or.inr (Or.inl ⟨by unfold hOK; grind, rfl, rfl⟩)
        · exact absurd c8 (by decide)
      · exact absurd c7 (by decide)
  · rw [b2i_eq0] at c1
    refine ww_run 5 1 (pc' := 10) (lv' := [(0, .ref 0), (1, .int what), (2, .int v)]) (st' := [.int (-1)]) (w' := wC7 fr lo fa ki mo pe ch sty wset wfor law lent pict tn brs bst) (Ps := []) rfl trivial ?_
    refine ww_iret 6 rfl rfl ?_
    exact Or.inl ⟨by grind, rfl, rfl⟩
set_option maxHeartbeats 4000000 in
set_option maxRecDepth 100000 in
theorem x_force (fr lo fa ki mo : Nat → Int32) (pe ch sty wset wfor law lent pict tn brs bst : Int32) (t : Int32) : Co M_X6_force 1 0 0 [.ref 0, .int t] (wC7 fr lo fa ki mo pe ch sty wset wfor law lent pict tn brs bst) (fun r w' => ((¬ mIn t 0 (tn - 1)) ∧ r = some (.int (-2)) ∧ w' = wC7 fr lo fa ki mo pe ch sty wset wfor law lent pict tn brs bst) ∨ ((mIn t 0 (tn - 1)) ∧ r = some (.int law) ∧ w' = wC7 fr lo fa ki mo pe ch sty wset wfor t lent pict tn brs bst)) := by
  refine Co.of ok_X6_force rfl ?_
  refine ww_run 0 6 (pc' := 8) (lv' := [(0, .ref 0), (1, .int t)]) (st' := [.int (tn - 1), .int 0, .int t]) (w' := wC7 fr lo fa ki mo pe ch sty wset wfor law lent pict tn brs bst) (Ps := []) rfl trivial ?_
  refine ww_cSi 6 ok_X6_within (Co.fr0 (c_X6_within t 0 (tn - 1)) rfl) lk_X6_124 rfl (by omega) (rest := []) rfl (Nat.le_of_ble_eq_true rfl) rfl ?_
  refine ww_if_ne 7 rfl (tgt := 17) rfl (fun c1 => ?_) (fun c1 => ?_)
  · rw [b2i_ne0] at c1
    refine ww_run 10 9 (pc' := 34) (lv' := [(2, .int law), (0, .ref 0), (1, .int t)]) (st' := [.int law]) (w' := wC7 fr lo fa ki mo pe ch sty wset wfor t lent pict tn brs bst) (Ps := []) rfl trivial ?_
    refine ww_iret 19 rfl rfl ?_
    exact Or.inr (⟨c1, rfl, rfl⟩)
  · rw [b2i_eq0] at c1
    refine ww_run 8 1 (pc' := 16) (lv' := [(0, .ref 0), (1, .int t)]) (st' := [.int (-2)]) (w' := wC7 fr lo fa ki mo pe ch sty wset wfor law lent pict tn brs bst) (Ps := []) rfl trivial ?_
    refine ww_iret 9 rfl rfl ?_
    exact Or.inl ⟨c1, rfl, rfl⟩
set_option maxHeartbeats 4000000 in
set_option maxRecDepth 100000 in
theorem x_chair (fr lo fa ki mo : Nat → Int32) (pe sty wset wfor law lent pict tn brs bst : Int32) (C : Nat) (hC : C ≤ 6) (a b : Int32) : Co M_X6_chair 2 0 0 [.ref 0, .int a, .int b] (wC7 fr lo fa ki mo pe (nI C) sty wset wfor law lent pict tn brs bst) (fun r w' => ((¬ mSo a b) ∧ r = some (.int (-2)) ∧ w' = wC7 fr lo fa ki mo pe (nI C) sty wset wfor law lent pict tn brs bst) ∨ ((mSo a b ∧ C = 6) ∧ r = some (.int (-4)) ∧ w' = wC7 fr lo fa ki mo pe (nI C) sty wset wfor law lent pict tn brs bst) ∨ ((mSo a b ∧ C < 6) ∧ r = some (.int (nI C)) ∧ w' = wC7 fr lo fa (upd ki C a) (upd mo C b) pe (nI (C + 1)) sty wset wfor law lent pict tn brs bst)) := by
  refine Co.of ok_X6_chair rfl ?_
  refine ww_run 0 2 (pc' := 2) (lv' := [(0, .ref 0), (1, .int a), (2, .int b)]) (st' := [.int b, .int a]) (w' := wC7 fr lo fa ki mo pe (nI C) sty wset wfor law lent pict tn brs bst) (Ps := []) rfl trivial ?_
  refine ww_cSi 2 ok_X6_isKind (Co.fr0 (c_X6_isKind a b) rfl) lk_X6_158 rfl (by omega) (rest := []) rfl (Nat.le_of_ble_eq_true rfl) rfl ?_
  refine ww_if_ne 3 rfl (tgt := 11) rfl (fun c1 => ?_) (fun c1 => ?_)
  · rw [b2i_ne0] at c1
    refine ww_run 6 4 (pc' := 20) (lv' := [(0, .ref 0), (1, .int a), (2, .int b)]) (st' := [.int 6, .int (nI C)]) (w' := wC7 fr lo fa ki mo pe (nI C) sty wset wfor law lent pict tn brs bst) (Ps := []) rfl trivial ?_
    refine ww_icmp_lt 10 rfl (tgt := 26) rfl (fun c2 => ?_) (fun c2 => ?_)
    · have c2 : C < 6 := (nI_ltI (a := C) (b := 6) (by omega) (by omega)).mp c2
      refine ww_run 13 28 (pc' := 80) (lv' := [(0, .ref 0), (1, .int a), (2, .int b)]) (st' := [.int (((nI C) + 1) - 1)]) (w' := wC7 fr lo fa (upd ki ((nI C).toNatClampNeg) a) (upd mo ((nI C).toNatClampNeg) b) pe ((nI C) + 1) sty wset wfor law lent pict tn brs bst) (Ps := [vp_in (nI C) 6, vp_in (nI C) 6]) rfl ⟨(vp_in_nI (by omega) (by omega)), (vp_in_nI (by omega) (by omega)), trivial⟩ ?_
      rw [nI_clamp (n := C) (by omega)]
      rw [nI_1 C]
      rw [nI_pred C]
      refine ww_iret 41 rfl rfl ?_
      exact Or.inr (Or.inr (⟨⟨by grind, by omega⟩, rfl, rfl⟩))
    · have c2 : ¬ C < 6 := fun q => c2 ((nI_ltI (a := C) (b := 6) (by omega) (by omega)).mpr q)
      refine ww_run 11 1 (pc' := 25) (lv' := [(0, .ref 0), (1, .int a), (2, .int b)]) (st' := [.int (-4)]) (w' := wC7 fr lo fa ki mo pe (nI C) sty wset wfor law lent pict tn brs bst) (Ps := []) rfl trivial ?_
      refine ww_iret 12 rfl rfl ?_
      exact Or.inr (Or.inl ⟨⟨by grind, by omega⟩, rfl, rfl⟩)
  · rw [b2i_eq0] at c1
    refine ww_run 4 1 (pc' := 10) (lv' := [(0, .ref 0), (1, .int a), (2, .int b)]) (st' := [.int (-2)]) (w' := wC7 fr lo fa ki mo pe (nI C) sty wset wfor law lent pict tn brs bst) (Ps := []) rfl trivial ?_
    refine ww_iret 5 rfl rfl ?_
    exact Or.inl ⟨by grind, rfl, rfl⟩
set_option maxHeartbeats 4000000 in
set_option maxRecDepth 100000 in
theorem x_mend (fr lo fa ki mo : Nat → Int32) (pe sty wset wfor law lent pict tn brs bst : Int32) (C : Nat) (hC : C ≤ 6) (cc a b : Int32) : Co M_X6_mend 2 0 0 [.ref 0, .int cc, .int a, .int b] (wC7 fr lo fa ki mo pe (nI C) sty wset wfor law lent pict tn brs bst) (fun r w' => ((¬ mIn cc 0 (nI C - 1)) ∧ r = some (.int (-5)) ∧ w' = wC7 fr lo fa ki mo pe (nI C) sty wset wfor law lent pict tn brs bst) ∨ ((mIn cc 0 (nI C - 1) ∧ ¬ mSo a b) ∧ r = some (.int (-7)) ∧ w' = wC7 fr lo fa ki mo pe (nI C) sty wset wfor law lent pict tn brs bst) ∨ ((mIn cc 0 (nI C - 1) ∧ mSo a b) ∧ r = some (.int (ki cc.toNatClampNeg)) ∧ w' = wC7 fr lo fa (upd ki cc.toNatClampNeg a) (upd mo cc.toNatClampNeg b) pe (nI C) sty wset wfor law lent pict tn brs bst)) := by
  refine Co.of ok_X6_mend rfl ?_
  refine ww_run 0 2 (pc' := 2) (lv' := [(0, .ref 0), (1, .int cc), (2, .int a), (3, .int b)]) (st' := [.int cc, .ref 0]) (w' := wC7 fr lo fa ki mo pe (nI C) sty wset wfor law lent pict tn brs bst) (Ps := []) rfl trivial ?_
  refine ww_cVi 2 ok_X6_isChair (h_isChair fr lo fa ki mo pe (nI C) sty wset wfor law lent pict tn brs bst cc) lk_X6_167 rfl (by omega) (rest := []) rfl (Nat.le_of_ble_eq_true rfl) rfl rfl rfl rfl ?_
  refine ww_if_ne 3 rfl (tgt := 11) rfl (fun c1 => ?_) (fun c1 => ?_)
  · rw [b2i_ne0] at c1
    refine ww_run 6 2 (pc' := 13) (lv' := [(0, .ref 0), (1, .int cc), (2, .int a), (3, .int b)]) (st' := [.int b, .int a]) (w' := wC7 fr lo fa ki mo pe (nI C) sty wset wfor law lent pict tn brs bst) (Ps := []) rfl trivial ?_
    refine ww_cSi 8 ok_X6_isKind (Co.fr0 (c_X6_isKind a b) rfl) lk_X6_158 rfl (by omega) (rest := []) rfl (Nat.le_of_ble_eq_true rfl) rfl ?_
    refine ww_if_ne 9 rfl (tgt := 22) rfl (fun c2 => ?_) (fun c2 => ?_)
    · rw [b2i_ne0] at c2
      obtain ⟨c, hc, rfl⟩ := one_nI hC c1
      refine ww_run 12 19 (pc' := 55) (lv' := [(4, .int (ki (nI c).toNatClampNeg)), (0, .ref 0), (1, .int (nI c)), (2, .int a), (3, .int b)]) (st' := [.int (ki (nI c).toNatClampNeg)]) (w' := wC7 fr lo fa (upd ki ((nI c).toNatClampNeg) a) (upd mo ((nI c).toNatClampNeg) b) pe (nI C) sty wset wfor law lent pict tn brs bst) (Ps := [vp_in (nI c) 6, vp_in (nI c) 6, vp_in (nI c) 6]) rfl ⟨(vp_in_nI (by omega) (by omega)), (vp_in_nI (by omega) (by omega)), (vp_in_nI (by omega) (by omega)), trivial⟩ ?_
      rw [nI_clamp (n := c) (by omega)]
      refine ww_iret 31 rfl rfl ?_
      first
        | exact Or.inr (Or.inr ⟨⟨c1, c2⟩, rfl, rfl⟩)
        | (refine Or.inr (Or.inr ⟨⟨c1, c2⟩, ?_, ?_⟩) <;> first | rfl | simp [nI_clamp (n := c) (by omega)])
    · rw [b2i_eq0] at c2
      refine ww_run 10 1 (pc' := 21) (lv' := [(0, .ref 0), (1, .int cc), (2, .int a), (3, .int b)]) (st' := [.int (-7)]) (w' := wC7 fr lo fa ki mo pe (nI C) sty wset wfor law lent pict tn brs bst) (Ps := []) rfl trivial ?_
      refine ww_iret 11 rfl rfl ?_
      exact Or.inr (Or.inl ⟨by grind, rfl, rfl⟩)
  · rw [b2i_eq0] at c1
    refine ww_run 4 1 (pc' := 10) (lv' := [(0, .ref 0), (1, .int cc), (2, .int a), (3, .int b)]) (st' := [.int (-5)]) (w' := wC7 fr lo fa ki mo pe (nI C) sty wset wfor law lent pict tn brs bst) (Ps := []) rfl trivial ?_
    refine ww_iret 5 rfl rfl ?_
    exact Or.inl ⟨by grind, rfl, rfl⟩
theorem in2 {x : Int32} (h : mIn x 0 1) (h0 : ¬ x = 0) : x = 1 := by
  obtain ⟨j, hj, rfl⟩ := nI_of2 (M := 1) (n := 1) rfl (Int32.not_lt.mpr h.1) h.2
  rcases (show j = 0 ∨ j = 1 by omega) with rfl | rfl
  · exact absurd rfl h0
  · rfl
set_option maxHeartbeats 4000000 in
set_option maxRecDepth 100000 in
theorem x_chairTold (fr lo fa ki mo : Nat → Int32) (pe sty wset wfor law lent pict tn brs bst : Int32) (C : Nat) (hC : C ≤ 6) (cc what : Int32) : Co M_X6_chairTold 2 0 0 [.ref 0, .int cc, .int what] (wC7 fr lo fa ki mo pe (nI C) sty wset wfor law lent pict tn brs bst) (Qi (if mIn cc 0 (nI C - 1) then (if what = 0 then ki cc.toNatClampNeg else if what = 1 then mo cc.toNatClampNeg else -7) else -5) (wC7 fr lo fa ki mo pe (nI C) sty wset wfor law lent pict tn brs bst)) := by
  refine Co.of ok_X6_chairTold rfl ?_
  refine ww_run 0 2 (pc' := 2) (lv' := [(0, .ref 0), (1, .int cc), (2, .int what)]) (st' := [.int cc, .ref 0]) (w' := wC7 fr lo fa ki mo pe (nI C) sty wset wfor law lent pict tn brs bst) (Ps := []) rfl trivial ?_
  refine ww_cVi 2 ok_X6_isChair (h_isChair fr lo fa ki mo pe (nI C) sty wset wfor law lent pict tn brs bst cc) lk_X6_167 rfl (by omega) (rest := []) rfl (Nat.le_of_ble_eq_true rfl) rfl rfl rfl rfl ?_
  refine ww_if_ne 3 rfl (tgt := 11) rfl (fun c1 => ?_) (fun c1 => ?_)
  · rw [b2i_ne0] at c1
    refine ww_run 6 3 (pc' := 14) (lv' := [(0, .ref 0), (1, .int cc), (2, .int what)]) (st' := [.int 1, .int 0, .int what]) (w' := wC7 fr lo fa ki mo pe (nI C) sty wset wfor law lent pict tn brs bst) (Ps := []) rfl trivial ?_
    refine ww_cSi 9 ok_X6_within (Co.fr0 (c_X6_within what 0 1) rfl) lk_X6_124 rfl (by omega) (rest := []) rfl (Nat.le_of_ble_eq_true rfl) rfl ?_
    refine ww_if_ne 10 rfl (tgt := 23) rfl (fun c2 => ?_) (fun c2 => ?_)
    · rw [b2i_ne0] at c2
      refine ww_run 13 1 (pc' := 24) (lv' := [(0, .ref 0), (1, .int cc), (2, .int what)]) (st' := [.int what]) (w' := wC7 fr lo fa ki mo pe (nI C) sty wset wfor law lent pict tn brs bst) (Ps := []) rfl trivial ?_
      refine ww_if_ne 14 rfl (tgt := 39) rfl (fun c3 => ?_) (fun c3 => ?_)
      · refine ww_run 21 5 (pc' := 48) (lv' := [(0, .ref 0), (1, .int cc), (2, .int what)]) (st' := [.int (mo cc.toNatClampNeg)]) (w' := wC7 fr lo fa ki mo pe (nI C) sty wset wfor law lent pict tn brs bst) (Ps := [vp_in cc 6]) rfl ⟨(vp_mIn (by assumption) hC (by omega)), trivial⟩ ?_
        refine ww_iret 26 rfl rfl ?_
        exact ⟨by rw [if_pos c1, if_neg c3, if_pos (in2 c2 c3)], rfl⟩
      · refine ww_run 15 6 (pc' := 48) (lv' := [(0, .ref 0), (1, .int cc), (2, .int what)]) (st' := [.int (ki cc.toNatClampNeg)]) (w' := wC7 fr lo fa ki mo pe (nI C) sty wset wfor law lent pict tn brs bst) (Ps := [vp_in cc 6]) rfl ⟨(vp_mIn (by assumption) hC (by omega)), trivial⟩ ?_
        refine ww_iret 26 rfl rfl ?_
        exact ⟨by rw [if_pos c1, if_pos c3], rfl⟩
    · rw [b2i_eq0] at c2
      refine ww_run 11 1 (pc' := 22) (lv' := [(0, .ref 0), (1, .int cc), (2, .int what)]) (st' := [.int (-7)]) (w' := wC7 fr lo fa ki mo pe (nI C) sty wset wfor law lent pict tn brs bst) (Ps := []) rfl trivial ?_
      refine ww_iret 12 rfl rfl ?_
      have n0 : ¬ what = 0 := fun q => c2 (by rw [q]; decide)
      have n1 : ¬ what = 1 := fun q => c2 (by rw [q]; decide)
      exact ⟨by rw [if_pos c1, if_neg n0, if_neg n1], rfl⟩
  · rw [b2i_eq0] at c1
    refine ww_run 4 1 (pc' := 10) (lv' := [(0, .ref 0), (1, .int cc), (2, .int what)]) (st' := [.int (-5)]) (w' := wC7 fr lo fa ki mo pe (nI C) sty wset wfor law lent pict tn brs bst) (Ps := []) rfl trivial ?_
    refine ww_iret 5 rfl rfl ?_
    exact ⟨by rw [if_neg c1], rfl⟩
set_option maxHeartbeats 4000000 in
set_option maxRecDepth 100000 in
theorem x_image (fr lo fa ki mo : Nat → Int32) (pe ch sty wset wfor law lent : Int32) (pfr plo pfa pki pmo : Nat → Int32) (ppe pch psty pwset pwfor plaw plent pict tn brs bst : Int32)  : Co M_X6_image 2 0 0 [.ref 0] (wC13 fr lo fa ki mo pe ch sty wset wfor law lent pfr plo pfa pki pmo ppe pch psty pwset pwfor plaw plent pict tn brs bst) (Qi pe (wC13 fr lo fa ki mo pe ch sty wset wfor law lent fr lo fa ki mo pe ch sty wset wfor law lent 1 tn brs bst)) := by
  refine Co.of ok_X6_image rfl ?_
  refine ww_run 0 4 (pc' := 8) (lv' := [(0, .ref 0)]) (st' := [.ref 1, .ref 7]) (w' := wC13 fr lo fa ki mo pe ch sty wset wfor law lent pfr plo pfa pki pmo ppe pch psty pwset pwfor plaw plent pict tn brs bst) (Ps := []) rfl trivial ?_
  refine ww_cVv 4 (b := 7) (av := [.ref 1]) (w1 := wC13 fr lo fa ki mo pe ch sty wset wfor law lent fr lo fa ki mo pe ch sty wset wfor law lent pict tn brs bst) ok_X1_become (Co.frv [7, 8, 9, 10, 11, 12, 1, 2, 3, 4, 5, 6] (c_X1_become pfr plo pfa pki pmo ppe pch psty pwset pwfor plaw plent fr lo fa ki mo pe ch sty wset wfor law lent) rfl rfl rfl) lk_X6_236 rfl (by omega) (rest := []) rfl (Nat.le_of_ble_eq_true rfl) rfl rfl rfl rfl ?_
  refine ww_run 5 2 (pc' := 13) (lv' := [(0, .ref 0)]) (st' := [.int 1, .ref 0]) (w' := wC13 fr lo fa ki mo pe ch sty wset wfor law lent fr lo fa ki mo pe ch sty wset wfor law lent pict tn brs bst) (Ps := []) rfl trivial ?_
  refine ww_putv 7 (r := (RX6, TX6, 14)) (ty := .boolean) rfl rfl rfl rfl (by decide +kernel) (fun _ => rfl) (fun _ => rfl) rfl (Nat.le_of_ble_eq_true rfl) ?_
  refine ww_run 8 3 (pc' := 23) (lv' := [(0, .ref 0)]) (st' := [.int pe]) (w' := wC13 fr lo fa ki mo pe ch sty wset wfor law lent fr lo fa ki mo pe ch sty wset wfor law lent 1 tn brs bst) (Ps := []) rfl trivial ?_
  refine ww_iret 11 rfl rfl ?_
  exact ⟨rfl, rfl⟩
set_option maxHeartbeats 4000000 in
set_option maxRecDepth 100000 in
theorem x_back (fr lo fa ki mo : Nat → Int32) (pe ch sty wset wfor law lent : Int32) (pfr plo pfa pki pmo : Nat → Int32) (ppe pch psty pwset pwfor plaw plent pict tn brs bst : Int32)  : Co M_X6_back 2 0 0 [.ref 0] (wC13 fr lo fa ki mo pe ch sty wset wfor law lent pfr plo pfa pki pmo ppe pch psty pwset pwfor plaw plent pict tn brs bst) (fun r w' => (pict = 0 ∧ r = some (.int (-3)) ∧ w' = wC13 fr lo fa ki mo pe ch sty wset wfor law lent pfr plo pfa pki pmo ppe pch psty pwset pwfor plaw plent pict tn brs bst) ∨ (¬ pict = 0 ∧ r = some (.int ppe) ∧ w' = wC13 pfr plo pfa pki pmo ppe pch psty pwset pwfor plaw plent pfr plo pfa pki pmo ppe pch psty pwset pwfor plaw plent pict tn brs bst)) := by
  refine Co.of ok_X6_back rfl ?_
  refine ww_run 0 2 (pc' := 4) (lv' := [(0, .ref 0)]) (st' := [.int pict]) (w' := wC13 fr lo fa ki mo pe ch sty wset wfor law lent pfr plo pfa pki pmo ppe pch psty pwset pwfor plaw plent pict tn brs bst) (Ps := []) rfl trivial ?_
  refine ww_if_ne 2 rfl (tgt := 10) rfl (fun c1 => ?_) (fun c1 => ?_)
  · refine ww_run 5 4 (pc' := 18) (lv' := [(0, .ref 0)]) (st' := [.ref 7, .ref 1]) (w' := wC13 fr lo fa ki mo pe ch sty wset wfor law lent pfr plo pfa pki pmo ppe pch psty pwset pwfor plaw plent pict tn brs bst) (Ps := []) rfl trivial ?_
    refine ww_cVv 9 (b := 1) (av := [.ref 7]) (w1 := wC13 pfr plo pfa pki pmo ppe pch psty pwset pwfor plaw plent pfr plo pfa pki pmo ppe pch psty pwset pwfor plaw plent pict tn brs bst) ok_X1_become (Co.frv [1, 2, 3, 4, 5, 6, 7, 8, 9, 10, 11, 12] (c_X1_become fr lo fa ki mo pe ch sty wset wfor law lent pfr plo pfa pki pmo ppe pch psty pwset pwfor plaw plent) rfl rfl rfl) lk_X6_236 rfl (by omega) (rest := []) rfl (Nat.le_of_ble_eq_true rfl) rfl rfl rfl rfl ?_
    refine ww_run 10 3 (pc' := 28) (lv' := [(0, .ref 0)]) (st' := [.int ppe]) (w' := wC13 pfr plo pfa pki pmo ppe pch psty pwset pwfor plaw plent pfr plo pfa pki pmo ppe pch psty pwset pwfor plaw plent pict tn brs bst) (Ps := []) rfl trivial ?_
    refine ww_iret 13 rfl rfl ?_
    exact Or.inr ⟨c1, rfl, rfl⟩
  · refine ww_run 3 1 (pc' := 9) (lv' := [(0, .ref 0)]) (st' := [.int (-3)]) (w' := wC13 fr lo fa ki mo pe ch sty wset wfor law lent pfr plo pfa pki pmo ppe pch psty pwset pwfor plaw plent pict tn brs bst) (Ps := []) rfl trivial ?_
    refine ww_iret 4 rfl rfl ?_
    exact Or.inl ⟨c1, rfl, rfl⟩
