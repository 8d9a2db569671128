theorem askOK_dec {part fm ss mi nu : Int32} : askOK part fm ss mi nu ∨ ¬ askOK part fm ss mi nu := Classical.em _
set_option maxHeartbeats 4000000 in
set_option maxRecDepth 100000 in
theorem x_asks (fr lo fa ki mo : Nat → Int32) (sty wset wfor : Int32) (pfr plo pfa pki pmo : Nat → Int32) (ppe pch psty pwset pwfor plaw plent : Int32) (bytes tcodes tends : Nat → Int32) (tsize tat tcn tpl tok : Int32) (efr elo efa eki emo : Nat → Int32) (epe ech esty ewset ewfor elaw elent : Int32) (on was sat stood rose firsts waits till sitter names : Nat → Int32) (satOn risen pict brs bst : Int32) (row brow kept asked so sz : Nat → Int32) (ce : Nat → Nat → Int32) (tx : Nat → Option Nat) (T : List va_E) {L : Nat} {sy : SY} {md : Nat → Option va_E} (P C k K : Nat) (hP : P ≤ 5) (hC : C ≤ 6) (hk : k < K) (hT : TI T K sy md ∧ T.length = L) (htx : ∀ t, t < K → tx t = some (lb t + 48)) (part fm ss mi nu : Int32) : Co M_X6_asks 3 0 0 [.ref 0, .int part, .int fm, .int ss, .int mi, .int nu] (wC fr lo fa ki mo (nI P) (nI C) sty wset wfor (nI k) (-1) pfr plo pfa pki pmo ppe pch psty pwset pwfor plaw plent bytes tcodes tends tsize tat tcn tpl tok efr elo efa eki emo epe ech esty ewset ewfor elaw elent on was sat stood rose firsts waits till sitter names satOn risen pict (nI K) brs bst row brow kept asked so sz ce tx T) (fun r w' => (¬ askOK part fm ss mi nu ∧ r = some (.int (-2)) ∧ w' = wC fr lo fa ki mo (nI P) (nI C) sty wset wfor (nI k) (-1) pfr plo pfa pki pmo ppe pch psty pwset pwfor plaw plent bytes tcodes tends tsize tat tcn tpl tok efr elo efa eki emo epe ech esty ewset ewfor elaw elent on was sat stood rose firsts waits till sitter names satOn risen pict (nI K) brs bst row brow kept asked so sz ce tx T) ∨ (askOK part fm ss mi nu ∧ r = some (.int (askV sy k part fm ss mi nu)) ∧ ∃ (y : CY), (TI y.2.2.2.2 K sy md ∧ y.2.2.2.2.length = L) ∧ w' = wC fr lo fa ki mo (nI P) (nI C) sty wset wfor (nI k) (-1) pfr plo pfa pki pmo ppe pch psty pwset pwfor plaw plent bytes tcodes tends tsize tat tcn tpl tok y.1.1 y.1.2.1 y.1.2.2.1 y.1.2.2.2.1 y.1.2.2.2.2.1 y.1.2.2.2.2.2.1 y.1.2.2.2.2.2.2.1 y.1.2.2.2.2.2.2.2.1 y.1.2.2.2.2.2.2.2.2.1 y.1.2.2.2.2.2.2.2.2.2.1 y.1.2.2.2.2.2.2.2.2.2.2.1 y.1.2.2.2.2.2.2.2.2.2.2.2 y.2.1.1 y.2.1.2.1 y.2.1.2.2.1 y.2.1.2.2.2.1 y.2.1.2.2.2.2.1 y.2.2.1.1 y.2.2.1.2.1 y.2.1.2.2.2.2.2.1 y.2.1.2.2.2.2.2.2.1 y.2.2.1.2.2 y.2.1.2.2.2.2.2.2.2.1 y.2.1.2.2.2.2.2.2.2.2 pict (nI K) y.2.2.2.1.1 y.2.2.2.1.2.1 y.2.2.2.1.2.2.1 y.2.2.2.1.2.2.2.1 y.2.2.2.1.2.2.2.2.1 y.2.2.2.1.2.2.2.2.2 so sz ce tx y.2.2.2.2)) := by
  refine Co.of ok_X6_asks rfl ?_
  refine ww_run 0 3 (pc' := 3) (lv' := [(0, .ref 0), (1, .int part), (2, .int fm), (3, .int ss), (4, .int mi), (5, .int nu)]) (st' := [.int 2, .int 0, .int part]) (w' := wC fr lo fa ki mo (nI P) (nI C) sty wset wfor (nI k) (-1) pfr plo pfa pki pmo ppe pch psty pwset pwfor plaw plent bytes tcodes tends tsize tat tcn tpl tok efr elo efa eki emo epe ech esty ewset ewfor elaw elent on was sat stood rose firsts waits till sitter names satOn risen pict (nI K) brs bst row brow kept asked so sz ce tx T) (Ps := []) rfl trivial ?_
  refine ww_cSi 3 ok_X6_within (Co.fr0 (c_X6_within part 0 2) rfl) lk_X6_124 rfl (by omega) (rest := []) rfl (Nat.le_of_ble_eq_true rfl) rfl ?_
  refine ww_if_eq 4 rfl (tgt := 30) rfl (fun c1 => ?_) (fun c1 => ?_)
  · rw [b2i_eq0] at c1
    refine ww_run 15 1 (pc' := 32) (lv' := [(0, .ref 0), (1, .int part), (2, .int fm), (3, .int ss), (4, .int mi), (5, .int nu)]) (st' := [.int (-2)]) (w' := wC fr lo fa ki mo (nI P) (nI C) sty wset wfor (nI k) (-1) pfr plo pfa pki pmo ppe pch psty pwset pwfor plaw plent bytes tcodes tends tsize tat tcn tpl tok efr elo efa eki emo epe ech esty ewset ewfor elaw elent on was sat stood rose firsts waits till sitter names satOn risen pict (nI K) brs bst row brow kept asked so sz ce tx T) (Ps := []) rfl trivial ?_
    refine ww_iret 16 rfl rfl ?_
    exact Or.inl ⟨by unfold askOK; grind, rfl, rfl⟩
  · rw [b2i_ne0] at c1
    refine ww_run 5 3 (pc' := 13) (lv' := [(0, .ref 0), (1, .int part), (2, .int fm), (3, .int ss), (4, .int mi), (5, .int nu)]) (st' := [.int 99, .int 0, .int fm]) (w' := wC fr lo fa ki mo (nI P) (nI C) sty wset wfor (nI k) (-1) pfr plo pfa pki pmo ppe pch psty pwset pwfor plaw plent bytes tcodes tends tsize tat tcn tpl tok efr elo efa eki emo epe ech esty ewset ewfor elaw elent on was sat stood rose firsts waits till sitter names satOn risen pict (nI K) brs bst row brow kept asked so sz ce tx T) (Ps := []) rfl trivial ?_
    refine ww_cSi 8 ok_X6_within (Co.fr0 (c_X6_within fm 0 99) rfl) lk_X6_124 rfl (by omega) (rest := []) rfl (Nat.le_of_ble_eq_true rfl) rfl ?_
    refine ww_if_eq 9 rfl (tgt := 30) rfl (fun c2 => ?_) (fun c2 => ?_)
    · rw [b2i_eq0] at c2
      refine ww_run 15 1 (pc' := 32) (lv' := [(0, .ref 0), (1, .int part), (2, .int fm), (3, .int ss), (4, .int mi), (5, .int nu)]) (st' := [.int (-2)]) (w' := wC fr lo fa ki mo (nI P) (nI C) sty wset wfor (nI k) (-1) pfr plo pfa pki pmo ppe pch psty pwset pwfor plaw plent bytes tcodes tends tsize tat tcn tpl tok efr elo efa eki emo epe ech esty ewset ewfor elaw elent on was sat stood rose firsts waits till sitter names satOn risen pict (nI K) brs bst row brow kept asked so sz ce tx T) (Ps := []) rfl trivial ?_
      refine ww_iret 16 rfl rfl ?_
      exact Or.inl ⟨by unfold askOK; grind, rfl, rfl⟩
    · rw [b2i_ne0] at c2
      refine ww_run 10 3 (pc' := 24) (lv' := [(0, .ref 0), (1, .int part), (2, .int fm), (3, .int ss), (4, .int mi), (5, .int nu)]) (st' := [.int 999, .int 0, .int ss]) (w' := wC fr lo fa ki mo (nI P) (nI C) sty wset wfor (nI k) (-1) pfr plo pfa pki pmo ppe pch psty pwset pwfor plaw plent bytes tcodes tends tsize tat tcn tpl tok efr elo efa eki emo epe ech esty ewset ewfor elaw elent on was sat stood rose firsts waits till sitter names satOn risen pict (nI K) brs bst row brow kept asked so sz ce tx T) (Ps := []) rfl trivial ?_
      refine ww_cSi 13 ok_X6_within (Co.fr0 (c_X6_within ss 0 999) rfl) lk_X6_124 rfl (by omega) (rest := []) rfl (Nat.le_of_ble_eq_true rfl) rfl ?_
      refine ww_if_ne 14 rfl (tgt := 33) rfl (fun c3 => ?_) (fun c3 => ?_)
      · rw [b2i_ne0] at c3
        refine ww_run 17 3 (pc' := 38) (lv' := [(0, .ref 0), (1, .int part), (2, .int fm), (3, .int ss), (4, .int mi), (5, .int nu)]) (st' := [.int 30, .int 0, .int mi]) (w' := wC fr lo fa ki mo (nI P) (nI C) sty wset wfor (nI k) (-1) pfr plo pfa pki pmo ppe pch psty pwset pwfor plaw plent bytes tcodes tends tsize tat tcn tpl tok efr elo efa eki emo epe ech esty ewset ewfor elaw elent on was sat stood rose firsts waits till sitter names satOn risen pict (nI K) brs bst row brow kept asked so sz ce tx T) (Ps := []) rfl trivial ?_
        refine ww_cSi 20 ok_X6_within (Co.fr0 (c_X6_within mi 0 30) rfl) lk_X6_124 rfl (by omega) (rest := []) rfl (Nat.le_of_ble_eq_true rfl) rfl ?_
        refine ww_if_eq 21 rfl (tgt := 55) rfl (fun c4 => ?_) (fun c4 => ?_)
        · rw [b2i_eq0] at c4
          refine ww_run 27 1 (pc' := 57) (lv' := [(0, .ref 0), (1, .int part), (2, .int fm), (3, .int ss), (4, .int mi), (5, .int nu)]) (st' := [.int (-2)]) (w' := wC fr lo fa ki mo (nI P) (nI C) sty wset wfor (nI k) (-1) pfr plo pfa pki pmo ppe pch psty pwset pwfor plaw plent bytes tcodes tends tsize tat tcn tpl tok efr elo efa eki emo epe ech esty ewset ewfor elaw elent on was sat stood rose firsts waits till sitter names satOn risen pict (nI K) brs bst row brow kept asked so sz ce tx T) (Ps := []) rfl trivial ?_
          refine ww_iret 28 rfl rfl ?_
          exact Or.inl ⟨by unfold askOK; grind, rfl, rfl⟩
        · rw [b2i_ne0] at c4
          refine ww_run 22 3 (pc' := 49) (lv' := [(0, .ref 0), (1, .int part), (2, .int fm), (3, .int ss), (4, .int mi), (5, .int nu)]) (st' := [.int 9, .int 0, .int nu]) (w' := wC fr lo fa ki mo (nI P) (nI C) sty wset wfor (nI k) (-1) pfr plo pfa pki pmo ppe pch psty pwset pwfor plaw plent bytes tcodes tends tsize tat tcn tpl tok efr elo efa eki emo epe ech esty ewset ewfor elaw elent on was sat stood rose firsts waits till sitter names satOn risen pict (nI K) brs bst row brow kept asked so sz ce tx T) (Ps := []) rfl trivial ?_
          refine ww_cSi 25 ok_X6_within (Co.fr0 (c_X6_within nu 0 9) rfl) lk_X6_124 rfl (by omega) (rest := []) rfl (Nat.le_of_ble_eq_true rfl) rfl ?_
          refine ww_if_ne 26 rfl (tgt := 58) rfl (fun c5 => ?_) (fun c5 => ?_)
          · rw [b2i_ne0] at c5
            have hT6 := hT.1.1.1
            have hok : askOK part fm ss mi nu := ⟨c1, c2, c3, c4, c5⟩
            obtain ⟨pa, hpa, rfl⟩ := nI_of2 (M := 2) (n := 2) rfl (Int32.not_lt.mpr c1.1) c1.2
            obtain ⟨nc9, cd9, en9, sk9, e9, a09, -⟩ := hT.1.2.1 k hk
            refine ww_run 29 41 (pc' := 119) (lv' := [(0, .ref 0), (1, .int (nI pa)), (2, .int fm), (3, .int ss), (4, .int mi), (5, .int nu)]) (st' := [.ref 1, .ref 0]) (w' := wC fr lo fa ki mo (nI P) (nI C) sty wset wfor (nI k) (-1) pfr plo pfa pki pmo ppe pch psty pwset pwfor plaw plent bytes tcodes tends tsize tat tcn tpl tok efr elo efa eki emo epe ech esty ewset ewfor elaw elent on was sat stood rose firsts waits till sitter names satOn risen pict (nI K) brs bst row brow kept (upd (upd (upd (upd (upd (upd asked 0 (fm / 10)) 1 (fm - fm / 10 * 10)) 2 (ss - ss / 10 * 10)) 3 (ss / 10)) 4 mi) 5 nu) so sz ce tx T) (Ps := [¬ 10 = 0, vp_in 0 6, ¬ 10 = 0, vp_in 1 6, ¬ 10 = 0, vp_in 2 6, ¬ 10 = 0, vp_in 3 6, vp_in 4 6, vp_in 5 6]) rfl ⟨(by decide), (vp_in_nI (n := 0) (by decide) (by decide)), (by decide), (vp_in_nI (n := 1) (by decide) (by decide)), (by decide), (vp_in_nI (n := 2) (by decide) (by decide)), (by decide), (vp_in_nI (n := 3) (by decide) (by decide)), (vp_in_nI (n := 4) (by decide) (by decide)), (vp_in_nI (n := 5) (by decide) (by decide)), trivial⟩ ?_
            refine ww_cV 70 (b := 0) (av := [.ref 1]) ok_X6_lawOf (x_lawOf (L := 0) fr lo fa ki mo (nI P) (nI C) sty wset wfor (-1) pfr plo pfa pki pmo ppe pch psty pwset pwfor plaw plent bytes tcodes tends tsize tat tcn tpl tok efr elo efa eki emo epe ech esty ewset ewfor elaw elent on was sat stood rose firsts waits till sitter names satOn risen pict brs bst row brow kept (upd (upd (upd (upd (upd (upd asked 0 (fm / 10)) 1 (fm - fm / 10 * 10)) 2 (ss - ss / 10 * 10)) 3 (ss / 10)) 4 mi) 5 nu) so sz ce tx T k K hk hT6 htx) lk_X6_150 rfl (by omega) (rest := []) rfl (Nat.le_of_ble_eq_true rfl) rfl rfl rfl rfl (fun r w' hq => ?_)
            obtain ⟨rfl, rfl⟩ := hq
            refine ww_run 71 3 (pc' := 127) (lv' := [(0, .ref 0), (1, .int (nI pa)), (2, .int fm), (3, .int ss), (4, .int mi), (5, .int nu)]) (st' := [.ref 39, .int (nI pa), .ref (lb k + 48)]) (w' := wC fr lo fa ki mo (nI P) (nI C) sty wset wfor (nI k) (-1) pfr plo pfa pki pmo ppe pch psty pwset pwfor plaw plent bytes tcodes tends tsize tat tcn tpl tok efr elo efa eki emo epe ech esty ewset ewfor elaw elent on was sat stood rose firsts waits till sitter names satOn risen pict (nI K) brs bst row brow kept (upd (upd (upd (upd (upd (upd asked 0 (fm / 10)) 1 (fm - fm / 10 * 10)) 2 (ss - ss / 10 * 10)) 3 (ss / 10)) 4 mi) 5 nu) so sz ce tx T) (Ps := []) rfl trivial ?_
            refine ww_cV 74 ok_X3_says (x_says fr lo fa ki mo (nI P) (nI C) sty wset wfor (nI k) (-1) pfr plo pfa pki pmo ppe pch psty pwset pwfor plaw plent bytes tcodes tends tsize tat tcn tpl tok efr elo efa eki emo epe ech esty ewset ewfor elaw elent on was sat stood rose firsts waits till sitter names satOn risen pict (nI K) brs bst row brow kept (upd (upd (upd (upd (upd (upd asked 0 (fm / 10)) 1 (fm - fm / 10 * 10)) 2 (ss - ss / 10 * 10)) 3 (ss / 10)) 4 mi) 5 nu) so sz ce tx T hT.1 k pa hk (by omega) (nm6 (fm / 10) (fm - fm / 10 * 10) (ss - ss / 10 * 10) (ss / 10) mi nu) nm6_eq) lk_X6_154 rfl (by omega) (rest := []) rfl (Nat.le_of_ble_eq_true rfl) (show (wC fr lo fa ki mo (nI P) (nI C) sty wset wfor (nI k) (-1) pfr plo pfa pki pmo ppe pch psty pwset pwfor plaw plent bytes tcodes tends tsize tat tcn tpl tok efr elo efa eki emo epe ech esty ewset ewfor elaw elent on was sat stood rose firsts waits till sitter names satOn risen pict (nI K) brs bst row brow kept (upd (upd (upd (upd (upd (upd asked 0 (fm / 10)) 1 (fm - fm / 10 * 10)) 2 (ss - ss / 10 * 10)) 3 (ss / 10)) 4 mi) 5 nu) so sz ce tx T)[lb k + 48]? = _ from a09) rfl rfl rfl (fun r w' hq => ?_)
            obtain ⟨rfl, T1, hT10, rfl⟩ := hq
            have hT1 := hT_go hT hT10
            refine ww_iret 75 rfl rfl ?_
            exact Or.inr ⟨hok, by unfold askV; rw [nI_clamp (n := pa) (by omega)], ((efr, elo, efa, eki, emo, epe, ech, esty, ewset, ewfor, elaw, elent), (on, was, sat, stood, rose, till, sitter, satOn, risen), (firsts, waits, names), (brs, bst, row, brow, kept, upd (upd (upd (upd (upd (upd asked 0 (fm / 10)) 1 (fm - fm / 10 * 10)) 2 (ss - ss / 10 * 10)) 3 (ss / 10)) 4 mi) 5 nu), T1), hT1, rfl⟩
          · rw [b2i_eq0] at c5
            refine ww_run 27 1 (pc' := 57) (lv' := [(0, .ref 0), (1, .int part), (2, .int fm), (3, .int ss), (4, .int mi), (5, .int nu)]) (st' := [.int (-2)]) (w' := wC fr lo fa ki mo (nI P) (nI C) sty wset wfor (nI k) (-1) pfr plo pfa pki pmo ppe pch psty pwset pwfor plaw plent bytes tcodes tends tsize tat tcn tpl tok efr elo efa eki emo epe ech esty ewset ewfor elaw elent on was sat stood rose firsts waits till sitter names satOn risen pict (nI K) brs bst row brow kept asked so sz ce tx T) (Ps := []) rfl trivial ?_
            refine ww_iret 28 rfl rfl ?_
            exact Or.inl ⟨by unfold askOK; grind, rfl, rfl⟩
      · rw [b2i_eq0] at c3
        refine ww_run 15 1 (pc' := 32) (lv' := [(0, .ref 0), (1, .int part), (2, .int fm), (3, .int ss), (4, .int mi), (5, .int nu)]) (st' := [.int (-2)]) (w' := wC fr lo fa ki mo (nI P) (nI C) sty wset wfor (nI k) (-1) pfr plo pfa pki pmo ppe pch psty pwset pwfor plaw plent bytes tcodes tends tsize tat tcn tpl tok efr elo efa eki emo epe ech esty ewset ewfor elaw elent on was sat stood rose firsts waits till sitter names satOn risen pict (nI K) brs bst row brow kept asked so sz ce tx T) (Ps := []) rfl trivial ?_
        refine ww_iret 16 rfl rfl ?_
        exact Or.inl ⟨by unfold askOK; grind, rfl, rfl⟩
/-- the ring of the kept chairs -/
def rgK (many : Nat) (v : Int32) (s : (Nat → Int32) × Nat) : Nat → (Nat → Int32) × Nat
  | 0 => s
  | k + 1 => (upd (rgK many v s k).1 (rgK many v s k).2 v, if (rgK many v s k).2 + 1 < many then (rgK many v s k).2 + 1 else 0)
def rgM (many keepers : Nat) (warm : Int32) : Nat → Nat → (Nat → Int32) × Nat → Int32
  | 0, _, _ => -1
  | n + 1, m, s => if s.1 s.2 ≤ nI m then nI m else rgM many keepers warm n (m + 1) (rgK many (nI (m + 1) + warm) s keepers)
theorem rgK_lt {many : Nat} {v : Int32} {s : (Nat → Int32) × Nat} (h : s.2 < many) : ∀ k, (rgK many v s k).2 < many
  | 0 => h
  | k + 1 => by
    simp only [rgK]
    split <;> omega
set_option maxHeartbeats 4000000 in
set_option maxRecDepth 100000 in
theorem ly_cm_6 {Q : Option Value → List va_E → Prop} {d : Nat} (hd : 0 ≤ d) (fr lo fa ki mo : Nat → Int32) (pe ch sty wset wfor law lent : Int32) (pfr plo pfa pki pmo : Nat → Int32) (ppe pch psty pwset pwfor plaw plent : Int32) (bytes tcodes tends : Nat → Int32) (tsize tat tcn tpl tok : Int32) (efr elo efa eki emo : Nat → Int32) (epe ech esty ewset ewfor elaw elent : Int32) (on was sat stood rose firsts waits till sitter names : Nat → Int32) (satOn risen pict tn brs bst : Int32) (row brow kept asked so sz : Nat → Int32) (ce : Nat → Nat → Int32) (tx : Nat → Option Nat) (T : List va_E)  (M G : Nat) (warm : Int32) (hM : M ≤ 20) (h1 : 0 < M) (hG : G ≤ 20) (KK : WW M_X6_coldMinute d Q xz 26 [(0, .ref 0), (1, .int (nI M)), (2, .int (nI G)), (3, .int warm), (4, .int 0), (5, .int (nI M))] [] (wC fr lo fa ki mo pe ch sty wset wfor law lent pfr plo pfa pki pmo ppe pch psty pwset pwfor plaw plent bytes tcodes tends tsize tat tcn tpl tok efr elo efa eki emo epe ech esty ewset ewfor elaw elent on was sat stood rose firsts waits till sitter names satOn risen pict tn brs bst row brow (flF kept warm M) asked so sz ce tx T)) :
    ∀ (n i : Nat) (cc : Nat → Int32), i ≤ M → M + 1 ≤ i + n → cc = flF kept warm i → WW M_X6_coldMinute d Q xz 6 [(0, .ref 0), (1, .int (nI M)), (2, .int (nI G)), (3, .int warm), (4, .int 0), (5, .int (nI i))] [] (wC fr lo fa ki mo pe ch sty wset wfor law lent pfr plo pfa pki pmo ppe pch psty pwset pwfor plaw plent bytes tcodes tends tsize tat tcn tpl tok efr elo efa eki emo epe ech esty ewset ewfor elaw elent on was sat stood rose firsts waits till sitter names satOn risen pict tn brs bst row brow cc asked so sz ce tx T) := by
  intro n
  induction n with
  | zero => intro i; intros; omega
  | succ n ih =>
    intro i cc hi hn hcc
    refine ww_run 4 2 (pc' := 9) (lv' := [(0, .ref 0), (1, .int (nI M)), (2, .int (nI G)), (3, .int warm), (4, .int 0), (5, .int (nI i))]) (st' := [.int (nI M), .int (nI i)]) (w' := wC fr lo fa ki mo pe ch sty wset wfor law lent pfr plo pfa pki pmo ppe pch psty pwset pwfor plaw plent bytes tcodes tends tsize tat tcn tpl tok efr elo efa eki emo epe ech esty ewset ewfor elaw elent on was sat stood rose firsts waits till sitter names satOn risen pict tn brs bst row brow cc asked so sz ce tx T) (Ps := []) rfl trivial ?_
    refine ww_icmp_ge 6 rfl (tgt := 26) rfl (fun c1 => ?_) (fun c1 => ?_)
    · have c1 : M ≤ i := (nI_leI (a := M) (b := i) (by omega) (by omega)).mp c1
      obtain rfl : i = M := by omega
      subst hcc
      exact KK
    · have c1 : ¬ M ≤ i := fun q => c1 ((nI_leI (a := M) (b := i) (by omega) (by omega)).mpr q)
      refine ww_run 7 7 (pc' := 6) (lv' := [(5, .int ((nI i) + 1)), (0, .ref 0), (1, .int (nI M)), (2, .int (nI G)), (3, .int warm), (4, .int 0)]) (st' := []) (w' := wC fr lo fa ki mo pe ch sty wset wfor law lent pfr plo pfa pki pmo ppe pch psty pwset pwfor plaw plent bytes tcodes tends tsize tat tcn tpl tok efr elo efa eki emo epe ech esty ewset ewfor elaw elent on was sat stood rose firsts waits till sitter names satOn risen pict tn brs bst row brow (upd cc ((nI i).toNatClampNeg) warm) asked so sz ce tx T) (Ps := [vp_in (nI i) 20]) rfl ⟨(vp_in_nI (by omega) (by omega)), trivial⟩ ?_
      rw [nI_clamp (n := i) (by omega)]
      rw [nI_1 i]
      refine ww_lv [1, 2, 3, 4, 5, 0] (lv' := [(0, .ref 0), (1, .int (nI M)), (2, .int (nI G)), (3, .int warm), (4, .int 0), (5, .int (nI (i + 1)))]) rfl ?_
      refine ih (i + 1) _ (by omega) (by omega) ?_
      rw [hcc, flF_s]
set_option maxHeartbeats 4000000 in
set_option maxRecDepth 100000 in
theorem ly_cm_55 {Q : Option Value → List va_E → Prop} {d : Nat} (hd : 0 ≤ d) (fr lo fa ki mo : Nat → Int32) (pe ch sty wset wfor law lent : Int32) (pfr plo pfa pki pmo : Nat → Int32) (ppe pch psty pwset pwfor plaw plent : Int32) (bytes tcodes tends : Nat → Int32) (tsize tat tcn tpl tok : Int32) (efr elo efa eki emo : Nat → Int32) (epe ech esty ewset ewfor elaw elent : Int32) (on was sat stood rose firsts waits till sitter names : Nat → Int32) (satOn risen pict tn brs bst : Int32) (row brow kept asked so sz : Nat → Int32) (ce : Nat → Nat → Int32) (tx : Nat → Option Nat) (T : List va_E)  (M G : Nat) (warm : Int32) (hM : M ≤ 20) (h1 : 0 < M) (hG : G ≤ 20) (m h : Nat) (hm : m < 200) (hh0 : h < M) (KK : WW M_X6_coldMinute d Q xz 98 [(0, .ref 0), (1, .int (nI M)), (2, .int (nI G)), (3, .int warm), (4, .int (nI (rgK M (nI (m + 1) + warm) (kept, h) G).2)), (5, .int (nI m)), (6, .int (nI G))] [] (wC fr lo fa ki mo pe ch sty wset wfor law lent pfr plo pfa pki pmo ppe pch psty pwset pwfor plaw plent bytes tcodes tends tsize tat tcn tpl tok efr elo efa eki emo epe ech esty ewset ewfor elaw elent on was sat stood rose firsts waits till sitter names satOn risen pict tn brs bst row brow ((rgK M (nI (m + 1) + warm) (kept, h) G).1) asked so sz ce tx T)) :
    ∀ (n i : Nat) , i ≤ G → G + 1 ≤ i + n → WW M_X6_coldMinute d Q xz 55 [(0, .ref 0), (1, .int (nI M)), (2, .int (nI G)), (3, .int warm), (4, .int (nI (rgK M (nI (m + 1) + warm) (kept, h) i).2)), (5, .int (nI m)), (6, .int (nI i))] [] (wC fr lo fa ki mo pe ch sty wset wfor law lent pfr plo pfa pki pmo ppe pch psty pwset pwfor plaw plent bytes tcodes tends tsize tat tcn tpl tok efr elo efa eki emo epe ech esty ewset ewfor elaw elent on was sat stood rose firsts waits till sitter names satOn risen pict tn brs bst row brow ((rgK M (nI (m + 1) + warm) (kept, h) i).1) asked so sz ce tx T) := by
  intro n
  induction n with
  | zero => intro i; intros; omega
  | succ n ih =>
    intro i  hi hn 
    have hlt : (rgK M (nI (m + 1) + warm) (kept, h) i).2 < M := rgK_lt hh0 i
    refine ww_run 29 2 (pc' := 58) (lv' := [(0, .ref 0), (1, .int (nI M)), (2, .int (nI G)), (3, .int warm), (4, .int (nI (rgK M (nI (m + 1) + warm) (kept, h) i).2)), (5, .int (nI m)), (6, .int (nI i))]) (st' := [.int (nI G), .int (nI i)]) (w' := wC fr lo fa ki mo pe ch sty wset wfor law lent pfr plo pfa pki pmo ppe pch psty pwset pwfor plaw plent bytes tcodes tends tsize tat tcn tpl tok efr elo efa eki emo epe ech esty ewset ewfor elaw elent on was sat stood rose firsts waits till sitter names satOn risen pict tn brs bst row brow ((rgK M (nI (m + 1) + warm) (kept, h) i).1) asked so sz ce tx T) (Ps := []) rfl trivial ?_
    refine ww_icmp_ge 31 rfl (tgt := 98) rfl (fun c1 => ?_) (fun c1 => ?_)
    · have c1 : G ≤ i := (nI_leI (a := G) (b := i) (by omega) (by omega)).mp c1
      obtain rfl : i = G := by omega
      exact KK
    · have c1 : ¬ G ≤ i := fun q => c1 ((nI_leI (a := G) (b := i) (by omega) (by omega)).mpr q)
      refine ww_run 32 13 (pc' := 79) (lv' := [(0, .ref 0), (1, .int (nI M)), (2, .int (nI G)), (3, .int warm), (4, .int (nI (rgK M (nI (m + 1) + warm) (kept, h) i).2)), (5, .int (nI m)), (6, .int (nI i))]) (st' := [.int (nI M), .int ((nI (rgK M (nI (m + 1) + warm) (kept, h) i).2) + 1)]) (w' := wC fr lo fa ki mo pe ch sty wset wfor law lent pfr plo pfa pki pmo ppe pch psty pwset pwfor plaw plent bytes tcodes tends tsize tat tcn tpl tok efr elo efa eki emo epe ech esty ewset ewfor elaw elent on was sat stood rose firsts waits till sitter names satOn risen pict tn brs bst row brow (upd ((rgK M (nI (m + 1) + warm) (kept, h) i).1) ((nI (rgK M (nI (m + 1) + warm) (kept, h) i).2).toNatClampNeg) (((nI m) + 1) + warm)) asked so sz ce tx T) (Ps := [vp_in (nI (rgK M (nI (m + 1) + warm) (kept, h) i).2) 20]) rfl ⟨(vp_in_nI (by omega) (by omega)), trivial⟩ ?_
      rw [nI_1 m]
      rw [nI_clamp (n := (rgK M (nI (m + 1) + warm) (kept, h) i).2) (by omega)]
      rw [nI_1 (rgK M (nI (m + 1) + warm) (kept, h) i).2]
      refine ww_icmp_ge 45 rfl (tgt := 89) rfl (fun c2 => ?_) (fun c2 => ?_)
      · have c2 : M ≤ (rgK M (nI (m + 1) + warm) (kept, h) i).2 + 1 := (nI_leI (a := M) (b := ((rgK M (nI (m + 1) + warm) (kept, h) i).2 + 1)) (by omega) (by omega)).mp c2
        refine ww_run 50 4 (pc' := 55) (lv' := [(6, .int ((nI i) + 1)), (4, .int 0), (0, .ref 0), (1, .int (nI M)), (2, .int (nI G)), (3, .int warm), (5, .int (nI m))]) (st' := []) (w' := wC fr lo fa ki mo pe ch sty wset wfor law lent pfr plo pfa pki pmo ppe pch psty pwset pwfor plaw plent bytes tcodes tends tsize tat tcn tpl tok efr elo efa eki emo epe ech esty ewset ewfor elaw elent on was sat stood rose firsts waits till sitter names satOn risen pict tn brs bst row brow (upd ((rgK M (nI (m + 1) + warm) (kept, h) i).1) (rgK M (nI (m + 1) + warm) (kept, h) i).2 ((nI (m + 1)) + warm)) asked so sz ce tx T) (Ps := []) rfl trivial ?_
        rw [nI_1 i]
        refine ww_lv [2, 3, 4, 5, 1, 6, 0] (lv' := [(0, .ref 0), (1, .int (nI M)), (2, .int (nI G)), (3, .int warm), (4, .int 0), (5, .int (nI m)), (6, .int (nI (i + 1)))]) rfl ?_
        have hh := ih (i + 1) (by omega) (by omega)
        have e1 : rgK M (nI (m + 1) + warm) (kept, h) (i + 1) = (upd (rgK M (nI (m + 1) + warm) (kept, h) i).1 (rgK M (nI (m + 1) + warm) (kept, h) i).2 (nI (m + 1) + warm), 0) := by
          rw [rgK]
          rw [if_neg (by omega)]
        rw [e1] at hh
        dsimp only at hh
        exact hh
      · have c2 : ¬ M ≤ (rgK M (nI (m + 1) + warm) (kept, h) i).2 + 1 := fun q => c2 ((nI_leI (a := M) (b := ((rgK M (nI (m + 1) + warm) (kept, h) i).2 + 1)) (by omega) (by omega)).mpr q)
        refine ww_run 46 4 (pc' := 90) (lv' := [(0, .ref 0), (1, .int (nI M)), (2, .int (nI G)), (3, .int warm), (4, .int (nI (rgK M (nI (m + 1) + warm) (kept, h) i).2)), (5, .int (nI m)), (6, .int (nI i))]) (st' := [.int ((nI (rgK M (nI (m + 1) + warm) (kept, h) i).2) + 1)]) (w' := wC fr lo fa ki mo pe ch sty wset wfor law lent pfr plo pfa pki pmo ppe pch psty pwset pwfor plaw plent bytes tcodes tends tsize tat tcn tpl tok efr elo efa eki emo epe ech esty ewset ewfor elaw elent on was sat stood rose firsts waits till sitter names satOn risen pict tn brs bst row brow (upd ((rgK M (nI (m + 1) + warm) (kept, h) i).1) (rgK M (nI (m + 1) + warm) (kept, h) i).2 ((nI (m + 1)) + warm)) asked so sz ce tx T) (Ps := []) rfl trivial ?_
        refine ww_run 51 3 (pc' := 55) (lv' := [(6, .int ((nI i) + 1)), (4, .int ((nI (rgK M (nI (m + 1) + warm) (kept, h) i).2) + 1)), (0, .ref 0), (1, .int (nI M)), (2, .int (nI G)), (3, .int warm), (5, .int (nI m))]) (st' := []) (w' := wC fr lo fa ki mo pe ch sty wset wfor law lent pfr plo pfa pki pmo ppe pch psty pwset pwfor plaw plent bytes tcodes tends tsize tat tcn tpl tok efr elo efa eki emo epe ech esty ewset ewfor elaw elent on was sat stood rose firsts waits till sitter names satOn risen pict tn brs bst row brow (upd ((rgK M (nI (m + 1) + warm) (kept, h) i).1) (rgK M (nI (m + 1) + warm) (kept, h) i).2 ((nI (m + 1)) + warm)) asked so sz ce tx T) (Ps := []) rfl trivial ?_
        rw [nI_1 i]
        refine ww_lv [2, 3, 4, 5, 1, 6, 0] (lv' := [(0, .ref 0), (1, .int (nI M)), (2, .int (nI G)), (3, .int warm), (4, .int ((nI (rgK M (nI (m + 1) + warm) (kept, h) i).2) + 1)), (5, .int (nI m)), (6, .int (nI (i + 1)))]) rfl ?_
        have hh := ih (i + 1) (by omega) (by omega)
        have e1 : rgK M (nI (m + 1) + warm) (kept, h) (i + 1) = (upd (rgK M (nI (m + 1) + warm) (kept, h) i).1 (rgK M (nI (m + 1) + warm) (kept, h) i).2 (nI (m + 1) + warm), (rgK M (nI (m + 1) + warm) (kept, h) i).2 + 1) := by
          rw [rgK]
          rw [if_pos (by omega)]
        rw [e1] at hh
        dsimp only at hh
        rw [nI_1 (rgK M (nI (m + 1) + warm) (kept, h) i).2]
        exact hh
set_option maxHeartbeats 4000000 in
set_option maxRecDepth 100000 in
theorem ly_cm_29 {Q : Option Value → List va_E → Prop} {d : Nat} (hd : 0 ≤ d) (fr lo fa ki mo : Nat → Int32) (pe ch sty wset wfor law lent : Int32) (pfr plo pfa pki pmo : Nat → Int32) (ppe pch psty pwset pwfor plaw plent : Int32) (bytes tcodes tends : Nat → Int32) (tsize tat tcn tpl tok : Int32) (efr elo efa eki emo : Nat → Int32) (epe ech esty ewset ewfor elaw elent : Int32) (on was sat stood rose firsts waits till sitter names : Nat → Int32) (satOn risen pict tn brs bst : Int32) (row brow asked so sz : Nat → Int32) (ce : Nat → Nat → Int32) (tx : Nat → Option Nat) (T : List va_E)  (M G : Nat) (warm : Int32) (hM : M ≤ 20) (h1 : 0 < M) (hG : G ≤ 20) (V : Int32) (hQ : ∀ kept, Q (some (.int V)) (wC fr lo fa ki mo pe ch sty wset wfor law lent pfr plo pfa pki pmo ppe pch psty pwset pwfor plaw plent bytes tcodes tends tsize tat tcn tpl tok efr elo efa eki emo epe ech esty ewset ewfor elaw elent on was sat stood rose firsts waits till sitter names satOn risen pict tn brs bst row brow kept asked so sz ce tx T)) :
    ∀ (n i : Nat) (kept : Nat → Int32) (h : Nat), i ≤ 200 → 200 + 1 ≤ i + n → h < M → rgM M G warm (200 - i) i (kept, h) = V → WW M_X6_coldMinute d Q xz 29 [(0, .ref 0), (1, .int (nI M)), (2, .int (nI G)), (3, .int warm), (4, .int (nI h)), (5, .int (nI i))] [] (wC fr lo fa ki mo pe ch sty wset wfor law lent pfr plo pfa pki pmo ppe pch psty pwset pwfor plaw plent bytes tcodes tends tsize tat tcn tpl tok efr elo efa eki emo epe ech esty ewset ewfor elaw elent on was sat stood rose firsts waits till sitter names satOn risen pict tn brs bst row brow kept asked so sz ce tx T) := by
  intro n
  induction n with
  | zero => intro i; intros; omega
  | succ n ih =>
    intro i kept h hi hn hh0 hv
    refine ww_run 16 2 (pc' := 34) (lv' := [(0, .ref 0), (1, .int (nI M)), (2, .int (nI G)), (3, .int warm), (4, .int (nI h)), (5, .int (nI i))]) (st' := [.int 200, .int (nI i)]) (w' := wC fr lo fa ki mo pe ch sty wset wfor law lent pfr plo pfa pki pmo ppe pch psty pwset pwfor plaw plent bytes tcodes tends tsize tat tcn tpl tok efr elo efa eki emo epe ech esty ewset ewfor elaw elent on was sat stood rose firsts waits till sitter names satOn risen pict tn brs bst row brow kept asked so sz ce tx T) (Ps := []) rfl trivial ?_
    refine ww_icmp_ge 18 rfl (tgt := 104) rfl (fun c1 => ?_) (fun c1 => ?_)
    · have c1 : 200 ≤ i := (nI_leI (a := 200) (b := i) (by omega) (by omega)).mp c1
      refine ww_run 56 1 (pc' := 105) (lv' := [(0, .ref 0), (1, .int (nI M)), (2, .int (nI G)), (3, .int warm), (4, .int (nI h)), (5, .int (nI i))]) (st' := [.int (-1)]) (w' := wC fr lo fa ki mo pe ch sty wset wfor law lent pfr plo pfa pki pmo ppe pch psty pwset pwfor plaw plent bytes tcodes tends tsize tat tcn tpl tok efr elo efa eki emo epe ech esty ewset ewfor elaw elent on was sat stood rose firsts waits till sitter names satOn risen pict tn brs bst row brow kept asked so sz ce tx T) (Ps := []) rfl trivial ?_
      refine ww_iret 57 rfl rfl ?_
      obtain rfl : i = 200 := by omega
      rw [Nat.sub_self] at hv
      simp only [rgM] at hv
      rw [hv]
      exact hQ kept
    · have c1 : ¬ 200 ≤ i := fun q => c1 ((nI_leI (a := 200) (b := i) (by omega) (by omega)).mpr q)
      refine ww_run 19 5 (pc' := 46) (lv' := [(0, .ref 0), (1, .int (nI M)), (2, .int (nI G)), (3, .int warm), (4, .int (nI h)), (5, .int (nI i))]) (st' := [.int (nI i), .int (kept (nI h).toNatClampNeg)]) (w' := wC fr lo fa ki mo pe ch sty wset wfor law lent pfr plo pfa pki pmo ppe pch psty pwset pwfor plaw plent bytes tcodes tends tsize tat tcn tpl tok efr elo efa eki emo epe ech esty ewset ewfor elaw elent on was sat stood rose firsts waits till sitter names satOn risen pict tn brs bst row brow kept asked so sz ce tx T) (Ps := [vp_in (nI h) 20]) rfl ⟨(vp_in_nI (by omega) (by omega)), trivial⟩ ?_
      rw [nI_clamp (n := h) (by omega)]
      refine ww_icmp_gt 24 rfl (tgt := 52) rfl (fun c2 => ?_) (fun c2 => ?_)
      · refine ww_run 27 2 (pc' := 55) (lv' := [(6, .int 0), (0, .ref 0), (1, .int (nI M)), (2, .int (nI G)), (3, .int warm), (4, .int (nI h)), (5, .int (nI i))]) (st' := []) (w' := wC fr lo fa ki mo pe ch sty wset wfor law lent pfr plo pfa pki pmo ppe pch psty pwset pwfor plaw plent bytes tcodes tends tsize tat tcn tpl tok efr elo efa eki emo epe ech esty ewset ewfor elaw elent on was sat stood rose firsts waits till sitter names satOn risen pict tn brs bst row brow kept asked so sz ce tx T) (Ps := []) rfl trivial ?_
        refine ww_lv [1, 2, 3, 4, 5, 6, 0] (lv' := [(0, .ref 0), (1, .int (nI M)), (2, .int (nI G)), (3, .int warm), (4, .int (nI h)), (5, .int (nI i)), (6, .int 0)]) rfl ?_
        refine ly_cm_55 (by omega) fr lo fa ki mo pe ch sty wset wfor law lent pfr plo pfa pki pmo ppe pch psty pwset pwfor plaw plent bytes tcodes tends tsize tat tcn tpl tok efr elo efa eki emo epe ech esty ewset ewfor elaw elent on was sat stood rose firsts waits till sitter names satOn risen pict tn brs bst row brow kept asked so sz ce tx T M G warm hM h1 hG i h (by omega) hh0 ?_ (G + 1) 0 (by omega) (by omega)
        refine ww_run 54 2 (pc' := 29) (lv' := [(5, .int ((nI i) + 1)), (0, .ref 0), (1, .int (nI M)), (2, .int (nI G)), (3, .int warm), (4, .int (nI (rgK M (nI (i + 1) + warm) (kept, h) G).2)), (6, .int (nI G))]) (st' := []) (w' := wC fr lo fa ki mo pe ch sty wset wfor law lent pfr plo pfa pki pmo ppe pch psty pwset pwfor plaw plent bytes tcodes tends tsize tat tcn tpl tok efr elo efa eki emo epe ech esty ewset ewfor elaw elent on was sat stood rose firsts waits till sitter names satOn risen pict tn brs bst row brow ((rgK M (nI (i + 1) + warm) (kept, h) G).1) asked so sz ce tx T) (Ps := []) rfl trivial ?_
        rw [nI_1 i]
        refine ww_lv [1, 2, 3, 4, 5, 0] (lv' := [(0, .ref 0), (1, .int (nI M)), (2, .int (nI G)), (3, .int warm), (4, .int (nI (rgK M (nI (i + 1) + warm) (kept, h) G).2)), (5, .int (nI (i + 1)))]) rfl ?_
        refine ih (i + 1) (rgK M (nI (i + 1) + warm) (kept, h) G).1 (rgK M (nI (i + 1) + warm) (kept, h) G).2 (by omega) (by omega) (rgK_lt hh0 G) ?_
        rw [show 200 - i = (200 - (i + 1)) + 1 by omega] at hv
        simp only [rgM] at hv
        rw [if_neg (Int32.not_le.mpr (by first | exact c2 | exact Int32.not_le.mp c2))] at hv
        exact hv
      · refine ww_run 25 1 (pc' := 51) (lv' := [(0, .ref 0), (1, .int (nI M)), (2, .int (nI G)), (3, .int warm), (4, .int (nI h)), (5, .int (nI i))]) (st' := [.int (nI i)]) (w' := wC fr lo fa ki mo pe ch sty wset wfor law lent pfr plo pfa pki pmo ppe pch psty pwset pwfor plaw plent bytes tcodes tends tsize tat tcn tpl tok efr elo efa eki emo epe ech esty ewset ewfor elaw elent on was sat stood rose firsts waits till sitter names satOn risen pict tn brs bst row brow kept asked so sz ce tx T) (Ps := []) rfl trivial ?_
        refine ww_iret 26 rfl rfl ?_
        rw [show 200 - i = (200 - (i + 1)) + 1 by omega] at hv
        simp only [rgM] at hv
        rw [if_pos (by first | exact c2 | exact Int32.not_lt.mp c2)] at hv
        rw [hv]
        exact hQ kept
set_option maxHeartbeats 4000000 in
set_option maxRecDepth 100000 in
theorem x_coldMinute (fr lo fa ki mo : Nat → Int32) (pe ch sty wset wfor law lent : Int32) (pfr plo pfa pki pmo : Nat → Int32) (ppe pch psty pwset pwfor plaw plent : Int32) (bytes tcodes tends : Nat → Int32) (tsize tat tcn tpl tok : Int32) (efr elo efa eki emo : Nat → Int32) (epe ech esty ewset ewfor elaw elent : Int32) (on was sat stood rose firsts waits till sitter names : Nat → Int32) (satOn risen pict tn brs bst : Int32) (row brow kept asked so sz : Nat → Int32) (ce : Nat → Nat → Int32) (tx : Nat → Option Nat) (T : List va_E) {L : Nat}  (M G : Nat) (warm : Int32) (hM : M ≤ 20) (h1 : 0 < M) (hG : G ≤ 20) : Co M_X6_coldMinute 0 0 0 [.ref 0, .int (nI M), .int (nI G), .int warm] (wC fr lo fa ki mo pe ch sty wset wfor law lent pfr plo pfa pki pmo ppe pch psty pwset pwfor plaw plent bytes tcodes tends tsize tat tcn tpl tok efr elo efa eki emo epe ech esty ewset ewfor elaw elent on was sat stood rose firsts waits till sitter names satOn risen pict tn brs bst row brow kept asked so sz ce tx T) (fun r w' => r = some (.int (rgM M G warm 200 0 (flF kept warm M, 0))) ∧ ∃ kept', w' = wC fr lo fa ki mo pe ch sty wset wfor law lent pfr plo pfa pki pmo ppe pch psty pwset pwfor plaw plent bytes tcodes tends tsize tat tcn tpl tok efr elo efa eki emo epe ech esty ewset ewfor elaw elent on was sat stood rose firsts waits till sitter names satOn risen pict tn brs bst row brow kept' asked so sz ce tx T) := by
  refine Co.of ok_X6_coldMinute rfl ?_
  refine ww_run 0 4 (pc' := 6) (lv' := [(5, .int 0), (4, .int 0), (0, .ref 0), (1, .int (nI M)), (2, .int (nI G)), (3, .int warm)]) (st' := []) (w' := wC fr lo fa ki mo pe ch sty wset wfor law lent pfr plo pfa pki pmo ppe pch psty pwset pwfor plaw plent bytes tcodes tends tsize tat tcn tpl tok efr elo efa eki emo epe ech esty ewset ewfor elaw elent on was sat stood rose firsts waits till sitter names satOn risen pict tn brs bst row brow kept asked so sz ce tx T) (Ps := []) rfl trivial ?_
  refine ww_lv [2, 3, 4, 5, 1, 0] (lv' := [(0, .ref 0), (1, .int (nI M)), (2, .int (nI G)), (3, .int warm), (4, .int 0), (5, .int 0)]) rfl ?_
  refine ly_cm_6 (by omega) fr lo fa ki mo pe ch sty wset wfor law lent pfr plo pfa pki pmo ppe pch psty pwset pwfor plaw plent bytes tcodes tends tsize tat tcn tpl tok efr elo efa eki emo epe ech esty ewset ewfor elaw elent on was sat stood rose firsts waits till sitter names satOn risen pict tn brs bst row brow kept asked so sz ce tx T M G warm hM h1 hG ?_ (M + 1) 0 kept (by omega) (by omega) (by rw [flF_0])
  refine ww_run 14 2 (pc' := 29) (lv' := [(5, .int 0), (0, .ref 0), (1, .int (nI M)), (2, .int (nI G)), (3, .int warm), (4, .int 0)]) (st' := []) (w' := wC fr lo fa ki mo pe ch sty wset wfor law lent pfr plo pfa pki pmo ppe pch psty pwset pwfor plaw plent bytes tcodes tends tsize tat tcn tpl tok efr elo efa eki emo epe ech esty ewset ewfor elaw elent on was sat stood rose firsts waits till sitter names satOn risen pict tn brs bst row brow (flF kept warm M) asked so sz ce tx T) (Ps := []) rfl trivial ?_
  refine ww_lv [1, 2, 3, 4, 5, 0] (lv' := [(0, .ref 0), (1, .int (nI M)), (2, .int (nI G)), (3, .int warm), (4, .int 0), (5, .int 0)]) rfl ?_
  exact ly_cm_29 (by omega) fr lo fa ki mo pe ch sty wset wfor law lent pfr plo pfa pki pmo ppe pch psty pwset pwfor plaw plent bytes tcodes tends tsize tat tcn tpl tok efr elo efa eki emo epe ech esty ewset ewfor elaw elent on was sat stood rose firsts waits till sitter names satOn risen pict tn brs bst row brow asked so sz ce tx T M G warm hM h1 hG (rgM M G warm 200 0 (flF kept warm M, 0)) (fun kept => ⟨rfl, kept, rfl⟩) 201 0 _ 0 (by omega) (by omega) h1 rfl
