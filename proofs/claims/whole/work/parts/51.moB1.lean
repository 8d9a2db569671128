theorem in3 {x : Int32} (h : mIn x 0 2) : x = 0 ∨ x = 1 ∨ x = 2 := by
  obtain ⟨j, hj, rfl⟩ := nI_of2 (M := 2) (n := 2) rfl (Int32.not_lt.mpr h.1) h.2
  rcases (show j = 0 ∨ j = 1 ∨ j = 2 by omega) with rfl | rfl | rfl
  · exact Or.inl rfl
  · exact Or.inr (Or.inl rfl)
  · exact Or.inr (Or.inr rfl)
/-- a wish that may be -/
abbrev wOK (what v : Int32) : Prop := (what = 0 ∧ mIn v 0 29) ∨ (what = 1 ∧ mIn v 1 9) ∨ (what = 2 ∧ mIn v 0 9)
def wGet (fr lo fa : Nat → Int32) (what : Int32) (p : Nat) : Int32 := if what = 0 then fr p else if what = 1 then lo p else fa p
abbrev hOK (what v : Int32) : Prop := (what = 0 ∧ mIn v 0 2) ∨ (what = 1 ∧ mIn v 0 63) ∨ (what = 2 ∧ mIn v 0 30)
def hGet (sty wset wfor what : Int32) : Int32 := if what = 0 then sty else if what = 1 then wset else wfor
set_option maxHeartbeats 4000000 in
set_option maxRecDepth 100000 in
theorem m_wish (ki mo ho cd sr stk names till sitter on was sat stood rose turn : Nat → Int32) (ch ru lent : Int32) (J : Nat → Int32) (K : Nat → Nat → Int32) (fr lo fa : Nat → Int32) (P : Nat) (hP : P ≤ 5) (pp what v : Int32) : Co M_X7_wish 2 0 0 [.ref 0, .int pp, .int what, .int v] (wMv (wiF fr lo fa) ki mo ho cd sr stk names till sitter on was sat stood rose turn (nI P) ch ru lent J K) (fun r w' => ((¬ mIn pp 0 (nI P - 1)) ∧ r = some (.int (-5)) ∧ w' = wMv (wiF fr lo fa) ki mo ho cd sr stk names till sitter on was sat stood rose turn (nI P) ch ru lent J K) ∨ ((mIn pp 0 (nI P - 1) ∧ ¬ wOK what v) ∧ r = some (.int (-7)) ∧ w' = wMv (wiF fr lo fa) ki mo ho cd sr stk names till sitter on was sat stood rose turn (nI P) ch ru lent J K) ∨ ((mIn pp 0 (nI P - 1) ∧ wOK what v) ∧ r = some (.int (wGet fr lo fa what pp.toNatClampNeg)) ∧ w' = wMv (wiF (if what = 0 then upd fr pp.toNatClampNeg v else fr) (if what = 1 then upd lo pp.toNatClampNeg v else lo) (if what = 2 then upd fa pp.toNatClampNeg v else fa)) ki mo ho cd sr stk names till sitter on was sat stood rose turn (nI P) ch ru lent J K)) := by
  refine Co.of ok_X7_wish rfl ?_
  refine ww_run 0 2 (pc' := 2) (lv' := [(0, .ref 0), (1, .int pp), (2, .int what), (3, .int v)]) (st' := [.int pp, .ref 0]) (w' := wMv (wiF fr lo fa) ki mo ho cd sr stk names till sitter on was sat stood rose turn (nI P) ch ru lent J K) (Ps := []) rfl trivial ?_
  refine ww_cVi 2 ok_X7_isOne (c_X7_isOne (wiF fr lo fa) ki mo ho cd sr stk names till sitter on was sat stood rose turn (nI P) ch ru lent J K pp) lk_X7_115 rfl (by omega) (rest := []) rfl (Nat.le_of_ble_eq_true rfl) rfl rfl rfl rfl ?_
  refine ww_if_ne 3 rfl (tgt := 11) rfl (fun c1 => ?_) (fun c1 => ?_)
  · rw [b2i_ne0] at c1
    refine ww_run 6 3 (pc' := 14) (lv' := [(0, .ref 0), (1, .int pp), (2, .int what), (3, .int v)]) (st' := [.int 2, .int 0, .int what]) (w' := wMv (wiF fr lo fa) ki mo ho cd sr stk names till sitter on was sat stood rose turn (nI P) ch ru lent J K) (Ps := []) rfl trivial ?_
    refine ww_cSi 9 ok_X7_in (Co.fr0 (c_X7_in what 0 2) rfl) lk_X7_108 rfl (by omega) (rest := []) rfl (Nat.le_of_ble_eq_true rfl) rfl ?_
    refine ww_if_eq 10 rfl (tgt := 48) rfl (fun c2 => ?_) (fun c2 => ?_)
    · rw [b2i_eq0] at c2
      refine ww_run 25 1 (pc' := 50) (lv' := [(0, .ref 0), (1, .int pp), (2, .int what), (3, .int v)]) (st' := [.int (-7)]) (w' := wMv (wiF fr lo fa) ki mo ho cd sr stk names till sitter on was sat stood rose turn (nI P) ch ru lent J K) (Ps := []) rfl trivial ?_
      refine ww_iret 26 rfl rfl ?_
      exact Or.inr (Or.inl ⟨by unfold wOK; grind, rfl, rfl⟩)
    · rw [b2i_ne0] at c2
      obtain ⟨p, hp, rfl⟩ := one_nI (by omega) c1
      rcases in3 c2 with rfl | rfl | rfl
      · skip
        refine ww_run 11 3 (pc' := 23) (lv' := [(0, .ref 0), (1, .int (nI p)), (2, .int (nI 0)), (3, .int v)]) (st' := [.int 1, .int (nI 0), .int v]) (w' := wMv (wiF fr lo fa) ki mo ho cd sr stk names till sitter on was sat stood rose turn (nI P) ch ru lent J K) (Ps := []) rfl trivial ?_
        refine ww_icmp_ne 14 rfl (tgt := 30) rfl (fun c3 => ?_) (fun c3 => ?_)
        · have c3 : ¬ 0 = 1 := fun q => c3 ((nI_eq (a := 0) (b := 1) (by omega) (by omega)).mpr q)
          refine ww_run 17 2 (pc' := 32) (lv' := [(0, .ref 0), (1, .int (nI p)), (2, .int (nI 0)), (3, .int v)]) (st' := [.int (nI 0), .int 0, .int v]) (w' := wMv (wiF fr lo fa) ki mo ho cd sr stk names till sitter on was sat stood rose turn (nI P) ch ru lent J K) (Ps := []) rfl trivial ?_
          refine ww_if_ne 19 rfl (tgt := 40) rfl (fun c4 => ?_) (fun c4 => ?_)
          · exact absurd c4 (by decide)
          · have c4 : 0 = 0 := (nI_eq (a := 0) (b := 0) (by omega) (by omega)).mp c4
            refine ww_run 20 2 (pc' := 42) (lv' := [(0, .ref 0), (1, .int (nI p)), (2, .int (nI 0)), (3, .int v)]) (st' := [.int 29, .int 0, .int v]) (w' := wMv (wiF fr lo fa) ki mo ho cd sr stk names till sitter on was sat stood rose turn (nI P) ch ru lent J K) (Ps := []) rfl trivial ?_
            refine ww_cSi 23 ok_X7_in (Co.fr0 (c_X7_in v 0 29) rfl) lk_X7_108 rfl (by omega) (rest := []) rfl (Nat.le_of_ble_eq_true rfl) rfl ?_
            refine ww_if_ne 24 rfl (tgt := 51) rfl (fun c5 => ?_) (fun c5 => ?_)
            · rw [b2i_ne0] at c5
              refine ww_run 27 9 (pc' := 63) (lv' := [(4, .int ((wiF fr lo fa) ((3 * (nI p)) + (nI 0)).toNatClampNeg)), (0, .ref 0), (1, .int (nI p)), (2, .int (nI 0)), (3, .int v)]) (st' := []) (w' := wMv (wiF fr lo fa) ki mo ho cd sr stk names till sitter on was sat stood rose turn (nI P) ch ru lent J K) (Ps := [vp_in ((3 * (nI p)) + (nI 0)) 15]) rfl ⟨(by rw [show (3 : Int32) * nI p = nI (3 * p) from pk_mul 3 p, nI_add (3 * p) 0]; exact vp_in_nI (by omega) (by omega)), trivial⟩ ?_
              rw [show (3 : Int32) * nI p = nI (3 * p) from pk_mul 3 p]
              rw [nI_add (3 * p) 0]
              rw [nI_clamp (n := (3 * p + 0)) (by omega)]
              rw [Nat.add_zero]
              rw [wi0]
              refine ww_run 36 10 (pc' := 76) (lv' := [(4, .int (fr p)), (0, .ref 0), (1, .int (nI p)), (2, .int (nI 0)), (3, .int v)]) (st' := [.int (fr p)]) (w' := wMv (upd (wiF fr lo fa) (((3 * (nI p)) + (nI 0)).toNatClampNeg) v) ki mo ho cd sr stk names till sitter on was sat stood rose turn (nI P) ch ru lent J K) (Ps := [vp_in ((3 * (nI p)) + (nI 0)) 15]) rfl ⟨(by rw [show (3 : Int32) * nI p = nI (3 * p) from pk_mul 3 p, nI_add (3 * p) 0]; exact vp_in_nI (by omega) (by omega)), trivial⟩ ?_
              rw [show (3 : Int32) * nI p = nI (3 * p) from pk_mul 3 p]
              rw [nI_add (3 * p) 0]
              rw [nI_clamp (n := (3 * p + 0)) (by omega)]
              rw [Nat.add_zero]
              rw [wi_u0]
              refine ww_iret 46 rfl rfl ?_
              refine Or.inr (Or.inr ⟨⟨c1, Or.inl ⟨rfl, c5⟩⟩, ?_, ?_⟩)
              · rw [nI_clamp (n := p) (by omega)]; rfl
              · rw [nI_clamp (n := p) (by omega)]; first | rfl | (rw [wi_u1]; rfl) | (rw [wi_u2]; rfl)
            · rw [b2i_eq0] at c5
              refine ww_run 25 1 (pc' := 50) (lv' := [(0, .ref 0), (1, .int (nI p)), (2, .int (nI 0)), (3, .int v)]) (st' := [.int (-7)]) (w' := wMv (wiF fr lo fa) ki mo ho cd sr stk names till sitter on was sat stood rose turn (nI P) ch ru lent J K) (Ps := []) rfl trivial ?_
              refine ww_iret 26 rfl rfl ?_
              exact Or.inr (Or.inl ⟨by unfold wOK; grind, rfl, rfl⟩)
        · exact absurd c3 (by decide)
      · skip
        refine ww_run 11 3 (pc' := 23) (lv' := [(0, .ref 0), (1, .int (nI p)), (2, .int (nI 1)), (3, .int v)]) (st' := [.int 1, .int (nI 1), .int v]) (w' := wMv (wiF fr lo fa) ki mo ho cd sr stk names till sitter on was sat stood rose turn (nI P) ch ru lent J K) (Ps := []) rfl trivial ?_
        refine ww_icmp_ne 14 rfl (tgt := 30) rfl (fun c6 => ?_) (fun c6 => ?_)
        · exact absurd c6 (by decide)
        · have c6 : 1 = 1 := (nI_eq (a := 1) (b := 1) (by omega) (by omega)).mp c6
          refine ww_run 15 2 (pc' := 31) (lv' := [(0, .ref 0), (1, .int (nI p)), (2, .int (nI 1)), (3, .int v)]) (st' := [.int 1, .int v]) (w' := wMv (wiF fr lo fa) ki mo ho cd sr stk names till sitter on was sat stood rose turn (nI P) ch ru lent J K) (Ps := []) rfl trivial ?_
          refine ww_run 18 1 (pc' := 32) (lv' := [(0, .ref 0), (1, .int (nI p)), (2, .int (nI 1)), (3, .int v)]) (st' := [.int (nI 1), .int 1, .int v]) (w' := wMv (wiF fr lo fa) ki mo ho cd sr stk names till sitter on was sat stood rose turn (nI P) ch ru lent J K) (Ps := []) rfl trivial ?_
          refine ww_if_ne 19 rfl (tgt := 40) rfl (fun c7 => ?_) (fun c7 => ?_)
          · have c7 : ¬ 1 = 0 := fun q => c7 ((nI_eq (a := 1) (b := 0) (by omega) (by omega)).mpr q)
            refine ww_run 22 1 (pc' := 42) (lv' := [(0, .ref 0), (1, .int (nI p)), (2, .int (nI 1)), (3, .int v)]) (st' := [.int 9, .int 1, .int v]) (w' := wMv (wiF fr lo fa) ki mo ho cd sr stk names till sitter on was sat stood rose turn (nI P) ch ru lent J K) (Ps := []) rfl trivial ?_
            refine ww_cSi 23 ok_X7_in (Co.fr0 (c_X7_in v 1 9) rfl) lk_X7_108 rfl (by omega) (rest := []) rfl (Nat.le_of_ble_eq_true rfl) rfl ?_
            refine ww_if_ne 24 rfl (tgt := 51) rfl (fun c8 => ?_) (fun c8 => ?_)
            · rw [b2i_ne0] at c8
              refine ww_run 27 9 (pc' := 63) (lv' := [(4, .int ((wiF fr lo fa) ((3 * (nI p)) + (nI 1)).toNatClampNeg)), (0, .ref 0), (1, .int (nI p)), (2, .int (nI 1)), (3, .int v)]) (st' := []) (w' := wMv (wiF fr lo fa) ki mo ho cd sr stk names till sitter on was sat stood rose turn (nI P) ch ru lent J K) (Ps := [vp_in ((3 * (nI p)) + (nI 1)) 15]) rfl ⟨(by rw [show (3 : Int32) * nI p = nI (3 * p) from pk_mul 3 p, nI_add (3 * p) 1]; exact vp_in_nI (by omega) (by omega)), trivial⟩ ?_
              rw [show (3 : Int32) * nI p = nI (3 * p) from pk_mul 3 p]
              rw [nI_add (3 * p) 1]
              rw [nI_clamp (n := (3 * p + 1)) (by omega)]
              rw [wi1]
              refine ww_run 36 10 (pc' := 76) (lv' := [(4, .int (lo p)), (0, .ref 0), (1, .int (nI p)), (2, .int (nI 1)), (3, .int v)]) (st' := [.int (lo p)]) (w' := wMv (upd (wiF fr lo fa) (((3 * (nI p)) + (nI 1)).toNatClampNeg) v) ki mo ho cd sr stk names till sitter on was sat stood rose turn (nI P) ch ru lent J K) (Ps := [vp_in ((3 * (nI p)) + (nI 1)) 15]) rfl ⟨(by rw [show (3 : Int32) * nI p = nI (3 * p) from pk_mul 3 p, nI_add (3 * p) 1]; exact vp_in_nI (by omega) (by omega)), trivial⟩ ?_
              rw [show (3 : Int32) * nI p = nI (3 * p) from pk_mul 3 p]
              rw [nI_add (3 * p) 1]
              rw [nI_clamp (n := (3 * p + 1)) (by omega)]
              refine ww_iret 46 rfl rfl ?_
              refine Or.inr (Or.inr ⟨⟨c1, Or.inr (Or.inl ⟨rfl, c8⟩)⟩, ?_, ?_⟩)
              · rw [nI_clamp (n := p) (by omega)]; rfl
              · rw [nI_clamp (n := p) (by omega)]; first | rfl | (rw [wi_u1]; rfl) | (rw [wi_u2]; rfl)
            · rw [b2i_eq0] at c8
              refine ww_run 25 1 (pc' := 50) (lv' := [(0, .ref 0), (1, .int (nI p)), (2, .int (nI 1)), (3, .int v)]) (st' := [.int (-7)]) (w' := wMv (wiF fr lo fa) ki mo ho cd sr stk names till sitter on was sat stood rose turn (nI P) ch ru lent J K) (Ps := []) rfl trivial ?_
              refine ww_iret 26 rfl rfl ?_
              exact Or.inr (Or.inl ⟨by unfold wOK; grind, rfl, rfl⟩)
          · exact absurd c7 (by decide)
      · skip
        refine ww_run 11 3 (pc' := 23) (lv' := [(0, .ref 0), (1, .int (nI p)), (2, .int (nI 2)), (3, .int v)]) (st' := [.int 1, .int (nI 2), .int v]) (w' := wMv (wiF fr lo fa) ki mo ho cd sr stk names till sitter on was sat stood rose turn (nI P) ch ru lent J K) (Ps := []) rfl trivial ?_
        refine ww_icmp_ne 14 rfl (tgt := 30) rfl (fun c9 => ?_) (fun c9 => ?_)
        · have c9 : ¬ 2 = 1 := fun q => c9 ((nI_eq (a := 2) (b := 1) (by omega) (by omega)).mpr q)
          refine ww_run 17 2 (pc' := 32) (lv' := [(0, .ref 0), (1, .int (nI p)), (2, .int (nI 2)), (3, .int v)]) (st' := [.int (nI 2), .int 0, .int v]) (w' := wMv (wiF fr lo fa) ki mo ho cd sr stk names till sitter on was sat stood rose turn (nI P) ch ru lent J K) (Ps := []) rfl trivial ?_
          refine ww_if_ne 19 rfl (tgt := 40) rfl (fun c10 => ?_) (fun c10 => ?_)
          · have c10 : ¬ 2 = 0 := fun q => c10 ((nI_eq (a := 2) (b := 0) (by omega) (by omega)).mpr q)
            refine ww_run 22 1 (pc' := 42) (lv' := [(0, .ref 0), (1, .int (nI p)), (2, .int (nI 2)), (3, .int v)]) (st' := [.int 9, .int 0, .int v]) (w' := wMv (wiF fr lo fa) ki mo ho cd sr stk names till sitter on was sat stood rose turn (nI P) ch ru lent J K) (Ps := []) rfl trivial ?_
            refine ww_cSi 23 ok_X7_in (Co.fr0 (c_X7_in v 0 9) rfl) lk_X7_108 rfl (by omega) (rest := []) rfl (Nat.le_of_ble_eq_true rfl) rfl ?_
            refine ww_if_ne 24 rfl (tgt := 51) rfl (fun c11 => ?_) (fun c11 => ?_)
            · rw [b2i_ne0] at c11
              refine ww_run 27 9 (pc' := 63) (lv' := [(4, .int ((wiF fr lo fa) ((3 * (nI p)) + (nI 2)).toNatClampNeg)), (0, .ref 0), (1, .int (nI p)), (2, .int (nI 2)), (3, .int v)]) (st' := []) (w' := wMv (wiF fr lo fa) ki mo ho cd sr stk names till sitter on was sat stood rose turn (nI P) ch ru lent J K) (Ps := [vp_in ((3 * (nI p)) + (nI 2)) 15]) rfl ⟨(by rw [show (3 : Int32) * nI p = nI (3 * p) from pk_mul 3 p, nI_add (3 * p) 2]; exact vp_in_nI (by omega) (by omega)), trivial⟩ ?_
              rw [show (3 : Int32) * nI p = nI (3 * p) from pk_mul 3 p]
              rw [nI_add (3 * p) 2]
              rw [nI_clamp (n := (3 * p + 2)) (by omega)]
              rw [wi2]
              refine ww_run 36 10 (pc' := 76) (lv' := [(4, .int (fa p)), (0, .ref 0), (1, .int (nI p)), (2, .int (nI 2)), (3, .int v)]) (st' := [.int (fa p)]) (w' := wMv (upd (wiF fr lo fa) (((3 * (nI p)) + (nI 2)).toNatClampNeg) v) ki mo ho cd sr stk names till sitter on was sat stood rose turn (nI P) ch ru lent J K) (Ps := [vp_in ((3 * (nI p)) + (nI 2)) 15]) rfl ⟨(by rw [show (3 : Int32) * nI p = nI (3 * p) from pk_mul 3 p, nI_add (3 * p) 2]; exact vp_in_nI (by omega) (by omega)), trivial⟩ ?_
              rw [show (3 : Int32) * nI p = nI (3 * p) from pk_mul 3 p]
              rw [nI_add (3 * p) 2]
              rw [nI_clamp (n := (3 * p + 2)) (by omega)]
              refine ww_iret 46 rfl rfl ?_
              refine Or.inr (Or.inr ⟨⟨c1, Or.inr (Or.inr ⟨rfl, c11⟩)⟩, ?_, ?_⟩)
              · rw [nI_clamp (n := p) (by omega)]; rfl
              · rw [nI_clamp (n := p) (by omega)]; first | rfl | (rw [wi_u1]; rfl) | (rw [wi_u2]; rfl)
            · rw [b2i_eq0] at c11
              refine ww_run 25 1 (pc' := 50) (lv' := [(0, .ref 0), (1, .int (nI p)), (2, .int (nI 2)), (3, .int v)]) (st' := [.int (-7)]) (w' := wMv (wiF fr lo fa) ki mo ho cd sr stk names till sitter on was sat stood rose turn (nI P) ch ru lent J K) (Ps := []) rfl trivial ?_
              refine ww_iret 26 rfl rfl ?_
              exact Or.inr (Or.inl ⟨by unfold wOK; grind, rfl, rfl⟩)
          · exact absurd c10 (by decide)
        · exact absurd c9 (by decide)
  · rw [b2i_eq0] at c1
    refine ww_run 4 1 (pc' := 10) (lv' := [(0, .ref 0), (1, .int pp), (2, .int what), (3, .int v)]) (st' := [.int (-5)]) (w' := wMv (wiF fr lo fa) ki mo ho cd sr stk names till sitter on was sat stood rose turn (nI P) ch ru lent J K) (Ps := []) rfl trivial ?_
    refine ww_iret 5 rfl rfl ?_
    exact Or.inl ⟨by grind, rfl, rfl⟩
set_option maxHeartbeats 4000000 in
set_option maxRecDepth 100000 in
theorem m_oneTold (ki mo ho cd sr stk names till sitter on was sat stood rose turn : Nat → Int32) (ch ru lent : Int32) (J : Nat → Int32) (K : Nat → Nat → Int32) (fr lo fa : Nat → Int32) (P : Nat) (hP : P ≤ 5) (pp what : Int32) : Co M_X7_oneTold 2 0 0 [.ref 0, .int pp, .int what] (wMv (wiF fr lo fa) ki mo ho cd sr stk names till sitter on was sat stood rose turn (nI P) ch ru lent J K) (Qi (if ¬ mIn pp 0 (nI P - 1) then -5 else if ¬ mIn what 0 2 then -7 else wGet fr lo fa what pp.toNatClampNeg) (wMv (wiF fr lo fa) ki mo ho cd sr stk names till sitter on was sat stood rose turn (nI P) ch ru lent J K)) := by
  refine Co.of ok_X7_oneTold rfl ?_
  refine ww_run 0 2 (pc' := 2) (lv' := [(0, .ref 0), (1, .int pp), (2, .int what)]) (st' := [.int pp, .ref 0]) (w' := wMv (wiF fr lo fa) ki mo ho cd sr stk names till sitter on was sat stood rose turn (nI P) ch ru lent J K) (Ps := []) rfl trivial ?_
  refine ww_cVi 2 ok_X7_isOne (c_X7_isOne (wiF fr lo fa) ki mo ho cd sr stk names till sitter on was sat stood rose turn (nI P) ch ru lent J K pp) lk_X7_115 rfl (by omega) (rest := []) rfl (Nat.le_of_ble_eq_true rfl) rfl rfl rfl rfl ?_
  refine ww_if_ne 3 rfl (tgt := 13) rfl (fun c1 => ?_) (fun c1 => ?_)
  · rw [b2i_ne0] at c1
    refine ww_run 6 3 (pc' := 16) (lv' := [(0, .ref 0), (1, .int pp), (2, .int what)]) (st' := [.int 2, .int 0, .int what]) (w' := wMv (wiF fr lo fa) ki mo ho cd sr stk names till sitter on was sat stood rose turn (nI P) ch ru lent J K) (Ps := []) rfl trivial ?_
    refine ww_cSi 9 ok_X7_in (Co.fr0 (c_X7_in what 0 2) rfl) lk_X7_108 rfl (by omega) (rest := []) rfl (Nat.le_of_ble_eq_true rfl) rfl ?_
    refine ww_if_eq 10 rfl (tgt := 35) rfl (fun c2 => ?_) (fun c2 => ?_)
    · rw [b2i_eq0] at c2
      refine ww_run 20 1 (pc' := 37) (lv' := [(0, .ref 0), (1, .int pp), (2, .int what)]) (st' := [.int (-7)]) (w' := wMv (wiF fr lo fa) ki mo ho cd sr stk names till sitter on was sat stood rose turn (nI P) ch ru lent J K) (Ps := []) rfl trivial ?_
      refine ww_iret 21 rfl rfl ?_
      exact ⟨by rw [if_neg (fun q => q c1), if_pos c2], rfl⟩
    · rw [b2i_ne0] at c2
      obtain ⟨p, hp, rfl⟩ := one_nI (by omega) c1
      rcases in3 c2 with rfl | rfl | rfl
      · skip
        refine ww_run 11 9 (pc' := 37) (lv' := [(0, .ref 0), (1, .int (nI p)), (2, .int (nI 0))]) (st' := [.int ((wiF fr lo fa) ((3 * (nI p)) + (nI 0)).toNatClampNeg)]) (w' := wMv (wiF fr lo fa) ki mo ho cd sr stk names till sitter on was sat stood rose turn (nI P) ch ru lent J K) (Ps := [vp_in ((3 * (nI p)) + (nI 0)) 15]) rfl ⟨(by rw [show (3 : Int32) * nI p = nI (3 * p) from pk_mul 3 p, nI_add (3 * p) 0]; exact vp_in_nI (by omega) (by omega)), trivial⟩ ?_
        rw [show (3 : Int32) * nI p = nI (3 * p) from pk_mul 3 p]
        rw [nI_add (3 * p) 0]
        rw [nI_clamp (n := (3 * p + 0)) (by omega)]
        rw [Nat.add_zero]
        rw [wi0]
        refine ww_iret 21 rfl rfl ?_
        exact ⟨by rw [if_neg (fun q => q c1), if_neg (fun q => q c2), nI_clamp (n := p) (by omega)]; rfl, rfl⟩
      · skip
        refine ww_run 11 9 (pc' := 37) (lv' := [(0, .ref 0), (1, .int (nI p)), (2, .int (nI 1))]) (st' := [.int ((wiF fr lo fa) ((3 * (nI p)) + (nI 1)).toNatClampNeg)]) (w' := wMv (wiF fr lo fa) ki mo ho cd sr stk names till sitter on was sat stood rose turn (nI P) ch ru lent J K) (Ps := [vp_in ((3 * (nI p)) + (nI 1)) 15]) rfl ⟨(by rw [show (3 : Int32) * nI p = nI (3 * p) from pk_mul 3 p, nI_add (3 * p) 1]; exact vp_in_nI (by omega) (by omega)), trivial⟩ ?_
        rw [show (3 : Int32) * nI p = nI (3 * p) from pk_mul 3 p]
        rw [nI_add (3 * p) 1]
        rw [nI_clamp (n := (3 * p + 1)) (by omega)]
        rw [wi1]
        refine ww_iret 21 rfl rfl ?_
        exact ⟨by rw [if_neg (fun q => q c1), if_neg (fun q => q c2), nI_clamp (n := p) (by omega)]; rfl, rfl⟩
      · skip
        refine ww_run 11 9 (pc' := 37) (lv' := [(0, .ref 0), (1, .int (nI p)), (2, .int (nI 2))]) (st' := [.int ((wiF fr lo fa) ((3 * (nI p)) + (nI 2)).toNatClampNeg)]) (w' := wMv (wiF fr lo fa) ki mo ho cd sr stk names till sitter on was sat stood rose turn (nI P) ch ru lent J K) (Ps := [vp_in ((3 * (nI p)) + (nI 2)) 15]) rfl ⟨(by rw [show (3 : Int32) * nI p = nI (3 * p) from pk_mul 3 p, nI_add (3 * p) 2]; exact vp_in_nI (by omega) (by omega)), trivial⟩ ?_
        rw [show (3 : Int32) * nI p = nI (3 * p) from pk_mul 3 p]
        rw [nI_add (3 * p) 2]
        rw [nI_clamp (n := (3 * p + 2)) (by omega)]
        rw [wi2]
        refine ww_iret 21 rfl rfl ?_
        exact ⟨by rw [if_neg (fun q => q c1), if_neg (fun q => q c2), nI_clamp (n := p) (by omega)]; rfl, rfl⟩
  · rw [b2i_eq0] at c1
    refine ww_run 4 2 (pc' := 37) (lv' := [(0, .ref 0), (1, .int pp), (2, .int what)]) (st' := [.int (-5)]) (w' := wMv (wiF fr lo fa) ki mo ho cd sr stk names till sitter on was sat stood rose turn (nI P) ch ru lent J K) (Ps := []) rfl trivial ?_
    refine ww_iret 21 rfl rfl ?_
    exact ⟨by rw [if_pos c1], rfl⟩
set_option maxHeartbeats 4000000 in
set_option maxRecDepth 100000 in
theorem m_house (wi ki mo cd sr stk names till sitter on was sat stood rose turn : Nat → Int32) (pe ch ru lent : Int32) (J : Nat → Int32) (K : Nat → Nat → Int32) (sty wset wfor : Int32) (what v : Int32) : Co M_X7_house 1 0 0 [.ref 0, .int what, .int v] (wMv wi ki mo (hoF sty wset wfor) cd sr stk names till sitter on was sat stood rose turn pe ch ru lent J K) (fun r w' => ((¬ mIn what 0 2) ∧ r = some (.int (-1)) ∧ w' = wMv wi ki mo (hoF sty wset wfor) cd sr stk names till sitter on was sat stood rose turn pe ch ru lent J K) ∨ ((mIn what 0 2 ∧ ¬ hOK what v) ∧ r = some (.int (-2)) ∧ w' = wMv wi ki mo (hoF sty wset wfor) cd sr stk names till sitter on was sat stood rose turn pe ch ru lent J K) ∨ ((mIn what 0 2 ∧ hOK what v) ∧ r = some (.int (hGet sty wset wfor what)) ∧ w' = wMv wi ki mo (hoF (if what = 0 then v else sty) (if what = 1 then v else wset) (if what = 2 then v else wfor)) cd sr stk names till sitter on was sat stood rose turn pe ch ru lent J K)) := by
  refine Co.of ok_X7_house rfl ?_
  refine ww_run 0 3 (pc' := 3) (lv' := [(0, .ref 0), (1, .int what), (2, .int v)]) (st' := [.int 2, .int 0, .int what]) (w' := wMv wi ki mo (hoF sty wset wfor) cd sr stk names till sitter on was sat stood rose turn pe ch ru lent J K) (Ps := []) rfl trivial ?_
  refine ww_cSi 3 ok_X7_in (Co.fr0 (c_X7_in what 0 2) rfl) lk_X7_108 rfl (by omega) (rest := []) rfl (Nat.le_of_ble_eq_true rfl) rfl ?_
  refine ww_if_ne 4 rfl (tgt := 11) rfl (fun c1 => ?_) (fun c1 => ?_)
  · rw [b2i_ne0] at c1
    rcases in3 c1 with rfl | rfl | rfl
    · skip
      refine ww_run 7 3 (pc' := 14) (lv' := [(0, .ref 0), (1, .int 0), (2, .int v)]) (st' := [.int 0, .int 0, .int v]) (w' := wMv wi ki mo (hoF sty wset wfor) cd sr stk names till sitter on was sat stood rose turn pe ch ru lent J K) (Ps := []) rfl trivial ?_
      refine ww_if_ne 10 rfl (tgt := 21) rfl (fun c2 => ?_) (fun c2 => ?_)
      · exact absurd c2 (by decide)
      · refine ww_run 11 2 (pc' := 33) (lv' := [(0, .ref 0), (1, .int 0), (2, .int v)]) (st' := [.int 2, .int 0, .int v]) (w' := wMv wi ki mo (hoF sty wset wfor) cd sr stk names till sitter on was sat stood rose turn pe ch ru lent J K) (Ps := []) rfl trivial ?_
        refine ww_cSi 19 ok_X7_in (Co.fr0 (c_X7_in v 0 2) rfl) lk_X7_108 rfl (by omega) (rest := []) rfl (Nat.le_of_ble_eq_true rfl) rfl ?_
        refine ww_if_ne 20 rfl (tgt := 42) rfl (fun c3 => ?_) (fun c3 => ?_)
        · rw [b2i_ne0] at c3
          refine ww_run 23 10 (pc' := 56) (lv' := [(3, .int sty), (0, .ref 0), (1, .int 0), (2, .int v)]) (st' := []) (w' := wMv wi ki mo (upd (hoF sty wset wfor) 0 v) cd sr stk names till sitter on was sat stood rose turn pe ch ru lent J K) (Ps := [vp_in 0 3, vp_in 0 3]) rfl ⟨(vp_in_nI (n := 0) (by decide) (by decide)), (vp_in_nI (n := 0) (by decide) (by decide)), trivial⟩ ?_
          rw [ho_u0]
          refine ww_run 33 1 (pc' := 57) (lv' := [(3, .int sty), (0, .ref 0), (1, .int 0), (2, .int v)]) (st' := [.int sty]) (w' := wMv wi ki mo (hoF v wset wfor) cd sr stk names till sitter on was sat stood rose turn pe ch ru lent J K) (Ps := []) rfl trivial ?_
          refine ww_iret 34 rfl rfl ?_
          refine Or.inr (Or.inr ⟨⟨c1, Or.inl ⟨rfl, c3⟩⟩, ?_, ?_⟩)
          · simp [hGet]
          · simp
        · rw [b2i_eq0] at c3
          refine ww_run 21 1 (pc' := 41) (lv' := [(0, .ref 0), (1, .int 0), (2, .int v)]) (st' := [.int (-2)]) (w' := wMv wi ki mo (hoF sty wset wfor) cd sr stk names till sitter on was sat stood rose turn pe ch ru lent J K) (Ps := []) rfl trivial ?_
          refine ww_iret 22 rfl rfl ?_
          exact Or.inr (Or.inl ⟨by unfold hOK; grind, rfl, rfl⟩)
    · skip
      refine ww_run 7 3 (pc' := 14) (lv' := [(0, .ref 0), (1, .int 1), (2, .int v)]) (st' := [.int 1, .int 0, .int v]) (w' := wMv wi ki mo (hoF sty wset wfor) cd sr stk names till sitter on was sat stood rose turn pe ch ru lent J K) (Ps := []) rfl trivial ?_
      refine ww_if_ne 10 rfl (tgt := 21) rfl (fun c4 => ?_) (fun c4 => ?_)
      · refine ww_run 13 2 (pc' := 23) (lv' := [(0, .ref 0), (1, .int 1), (2, .int v)]) (st' := [.int 1, .int 1, .int 0, .int v]) (w' := wMv wi ki mo (hoF sty wset wfor) cd sr stk names till sitter on was sat stood rose turn pe ch ru lent J K) (Ps := []) rfl trivial ?_
        refine ww_icmp_ne 15 rfl (tgt := 31) rfl (fun c5 => ?_) (fun c5 => ?_)
        · exact absurd c5 (by decide)
        · refine ww_run 16 2 (pc' := 33) (lv' := [(0, .ref 0), (1, .int 1), (2, .int v)]) (st' := [.int 63, .int 0, .int v]) (w' := wMv wi ki mo (hoF sty wset wfor) cd sr stk names till sitter on was sat stood rose turn pe ch ru lent J K) (Ps := []) rfl trivial ?_
          refine ww_cSi 19 ok_X7_in (Co.fr0 (c_X7_in v 0 63) rfl) lk_X7_108 rfl (by omega) (rest := []) rfl (Nat.le_of_ble_eq_true rfl) rfl ?_
          refine ww_if_ne 20 rfl (tgt := 42) rfl (fun c6 => ?_) (fun c6 => ?_)
          · rw [b2i_ne0] at c6
            refine ww_run 23 10 (pc' := 56) (lv' := [(3, .int wset), (0, .ref 0), (1, .int 1), (2, .int v)]) (st' := []) (w' := wMv wi ki mo (upd (hoF sty wset wfor) 1 v) cd sr stk names till sitter on was sat stood rose turn pe ch ru lent J K) (Ps := [vp_in 1 3, vp_in 1 3]) rfl ⟨(vp_in_nI (n := 1) (by decide) (by decide)), (vp_in_nI (n := 1) (by decide) (by decide)), trivial⟩ ?_
            rw [ho_u1]
            refine ww_run 33 1 (pc' := 57) (lv' := [(3, .int wset), (0, .ref 0), (1, .int 1), (2, .int v)]) (st' := [.int wset]) (w' := wMv wi ki mo (hoF sty v wfor) cd sr stk names till sitter on was sat stood rose turn pe ch ru lent J K) (Ps := []) rfl trivial ?_
            refine ww_iret 34 rfl rfl ?_
            refine Or.inr (Or.inr ⟨⟨c1, Or.inr (Or.inl ⟨rfl, c6⟩)⟩, ?_, ?_⟩)
            · simp [hGet]
            · simp
          · rw [b2i_eq0] at c6
            refine ww_run 21 1 (pc' := 41) (lv' := [(0, .ref 0), (1, .int 1), (2, .int v)]) (st' := [.int (-2)]) (w' := wMv wi ki mo (hoF sty wset wfor) cd sr stk names till sitter on was sat stood rose turn pe ch ru lent J K) (Ps := []) rfl trivial ?_
            refine ww_iret 22 rfl rfl ?_
            exact Or.inr (Or.inl ⟨by unfold hOK; grind, rfl, rfl⟩)
      · exact absurd c4 (by decide)
    · skip
      refine ww_run 7 3 (pc' := 14) (lv' := [(0, .ref 0), (1, .int 2), (2, .int v)]) (st' := [.int 2, .int 0, .int v]) (w' := wMv wi ki mo (hoF sty wset wfor) cd sr stk names till sitter on was sat stood rose turn pe ch ru lent J K) (Ps := []) rfl trivial ?_
      refine ww_if_ne 10 rfl (tgt := 21) rfl (fun c7 => ?_) (fun c7 => ?_)
      · refine ww_run 13 2 (pc' := 23) (lv' := [(0, .ref 0), (1, .int 2), (2, .int v)]) (st' := [.int 1, .int 2, .int 0, .int v]) (w' := wMv wi ki mo (hoF sty wset wfor) cd sr stk names till sitter on was sat stood rose turn pe ch ru lent J K) (Ps := []) rfl trivial ?_
        refine ww_icmp_ne 15 rfl (tgt := 31) rfl (fun c8 => ?_) (fun c8 => ?_)
        · refine ww_run 18 1 (pc' := 33) (lv' := [(0, .ref 0), (1, .int 2), (2, .int v)]) (st' := [.int 30, .int 0, .int v]) (w' := wMv wi ki mo (hoF sty wset wfor) cd sr stk names till sitter on was sat stood rose turn pe ch ru lent J K) (Ps := []) rfl trivial ?_
          refine ww_cSi 19 ok_X7_in (Co.fr0 (c_X7_in v 0 30) rfl) lk_X7_108 rfl (by omega) (rest := []) rfl (Nat.le_of_ble_eq_true rfl) rfl ?_
          refine ww_if_ne 20 rfl (tgt := 42) rfl (fun c9 => ?_) (fun c9 => ?_)
          · rw [b2i_ne0] at c9
            refine ww_run 23 10 (pc' := 56) (lv' := [(3, .int wfor), (0, .ref 0), (1, .int 2), (2, .int v)]) (st' := []) (w' := wMv wi ki mo (upd (hoF sty wset wfor) 2 v) cd sr stk names till sitter on was sat stood rose turn pe ch ru lent J K) (Ps := [vp_in 2 3, vp_in 2 3]) rfl ⟨(vp_in_nI (n := 2) (by decide) (by decide)), (vp_in_nI (n := 2) (by decide) (by decide)), trivial⟩ ?_
            refine ww_arr 4 (hoF sty wset v) rfl (fun j hj => by rcases (show j = 0 ∨ j = 1 ∨ j = 2 by omega) with rfl | rfl | rfl <;> simp [upd, hoF]) (w1 := wMv wi ki mo (hoF sty wset v) cd sr stk names till sitter on was sat stood rose turn pe ch ru lent J K) rfl ?_
            refine ww_run 33 1 (pc' := 57) (lv' := [(3, .int wfor), (0, .ref 0), (1, .int 2), (2, .int v)]) (st' := [.int wfor]) (w' := wMv wi ki mo (hoF sty wset v) cd sr stk names till sitter on was sat stood rose turn pe ch ru lent J K) (Ps := []) rfl trivial ?_
            refine ww_iret 34 rfl rfl ?_
            refine Or.inr (Or.inr ⟨⟨c1, Or.inr (Or.inr ⟨rfl, c9⟩)⟩, ?_, ?_⟩)
            · simp [hGet]
            · simp
          · rw [b2i_eq0] at c9
            refine ww_run 21 1 (pc' := 41) (lv' := [(0, .ref 0), (1, .int 2), (2, .int v)]) (st' := [.int (-2)]) (w' := wMv wi ki mo (hoF sty wset wfor) cd sr stk names till sitter on was sat stood rose turn pe ch ru lent J K) (Ps := []) rfl trivial ?_
            refine ww_iret 22 rfl rfl ?_
            exact Or.inr (Or.inl ⟨by unfold hOK; grind, rfl, rfl⟩)
        · exact absurd c8 (by decide)
      · exact absurd c7 (by decide)
  · rw [b2i_eq0] at c1
    refine ww_run 5 1 (pc' := 10) (lv' := [(0, .ref 0), (1, .int what), (2, .int v)]) (st' := [.int (-1)]) (w' := wMv wi ki mo (hoF sty wset wfor) cd sr stk names till sitter on was sat stood rose turn pe ch ru lent J K) (Ps := []) rfl trivial ?_
    refine ww_iret 6 rfl rfl ?_
    exact Or.inl ⟨by grind, rfl, rfl⟩
def cntV (sty wset wfor pe ch te ru tn what : Int32) : Int32 := if what = 3 then pe else if what = 4 then ch else if what = 5 then te else if what = 6 then ru else if what = 7 then tn else if mIn what 0 2 then hGet sty wset wfor what else -2
set_option maxHeartbeats 4000000 in
set_option maxRecDepth 100000 in
theorem m_count (wi ki mo cd sr stk names till sitter on was sat stood rose turn : Nat → Int32) (pe ch ru lent : Int32) (J : Nat → Int32) (K : Nat → Nat → Int32) (sty wset wfor : Int32) (what : Int32) : Co M_X7_count 1 0 0 [.ref 0, .int what] (wMv wi ki mo (hoF sty wset wfor) cd sr stk names till sitter on was sat stood rose turn pe ch ru lent J K) (Qi (cntV sty wset wfor pe ch (J 10) ru (J 7) what) (wMv wi ki mo (hoF sty wset wfor) cd sr stk names till sitter on was sat stood rose turn pe ch ru lent J K)) := by
  refine Co.of ok_X7_count rfl ?_
  refine ww_run 0 1 (pc' := 1) (lv' := [(0, .ref 0), (1, .int what)]) (st' := [.int what]) (w' := wMv wi ki mo (hoF sty wset wfor) cd sr stk names till sitter on was sat stood rose turn pe ch ru lent J K) (Ps := []) rfl trivial ?_
  by_cases q0 : what = 3
  · refine ww_tabI 1 rfl (by rw [q0]; decide) (by rw [q0]; decide) (off := 35) (by rw [q0]; rfl) (tgt := 36) rfl ?_
    refine ww_run 2 2 (pc' := 40) (lv' := [(0, .ref 0), (1, .int what)]) (st' := [.int pe]) (w' := wMv wi ki mo (hoF sty wset wfor) cd sr stk names till sitter on was sat stood rose turn pe ch ru lent J K) (Ps := []) rfl trivial ?_
    refine ww_iret 4 rfl rfl ?_
    exact ⟨by unfold cntV; simp [*], rfl⟩
  by_cases q1 : what = 4
  · refine ww_tabI 1 rfl (by rw [q1]; decide) (by rw [q1]; decide) (off := 40) (by rw [q1]; rfl) (tgt := 41) rfl ?_
    refine ww_run 5 2 (pc' := 45) (lv' := [(0, .ref 0), (1, .int what)]) (st' := [.int ch]) (w' := wMv wi ki mo (hoF sty wset wfor) cd sr stk names till sitter on was sat stood rose turn pe ch ru lent J K) (Ps := []) rfl trivial ?_
    refine ww_iret 7 rfl rfl ?_
    exact ⟨by unfold cntV; simp [*], rfl⟩
  by_cases q2 : what = 5
  · refine ww_tabI 1 rfl (by rw [q2]; decide) (by rw [q2]; decide) (off := 45) (by rw [q2]; rfl) (tgt := 46) rfl ?_
    refine ww_run 8 2 (pc' := 50) (lv' := [(0, .ref 0), (1, .int what)]) (st' := [.int (J 10)]) (w' := wMv wi ki mo (hoF sty wset wfor) cd sr stk names till sitter on was sat stood rose turn pe ch ru lent J K) (Ps := []) rfl trivial ?_
    refine ww_iret 10 rfl rfl ?_
    exact ⟨by unfold cntV; simp [*], rfl⟩
  by_cases q3 : what = 6
  · refine ww_tabI 1 rfl (by rw [q3]; decide) (by rw [q3]; decide) (off := 50) (by rw [q3]; rfl) (tgt := 51) rfl ?_
    refine ww_run 11 2 (pc' := 55) (lv' := [(0, .ref 0), (1, .int what)]) (st' := [.int ru]) (w' := wMv wi ki mo (hoF sty wset wfor) cd sr stk names till sitter on was sat stood rose turn pe ch ru lent J K) (Ps := []) rfl trivial ?_
    refine ww_iret 13 rfl rfl ?_
    exact ⟨by unfold cntV; simp [*], rfl⟩
  by_cases q4 : what = 7
  · refine ww_tabI 1 rfl (by rw [q4]; decide) (by rw [q4]; decide) (off := 55) (by rw [q4]; rfl) (tgt := 56) rfl ?_
    refine ww_run 14 2 (pc' := 60) (lv' := [(0, .ref 0), (1, .int what)]) (st' := [.int (J 7)]) (w' := wMv wi ki mo (hoF sty wset wfor) cd sr stk names till sitter on was sat stood rose turn pe ch ru lent J K) (Ps := []) rfl trivial ?_
    refine ww_iret 16 rfl rfl ?_
    exact ⟨by unfold cntV; simp [*], rfl⟩
  refine ww_tabO 1 rfl (by have z0 := lv_neT q0 (a := 3) rfl; have z1 := lv_neT q1 (a := 4) rfl; have z2 := lv_neT q2 (a := 5) rfl; have z3 := lv_neT q3 (a := 6) rfl; have z4 := lv_neT q4 (a := 7) rfl; omega) (tgt := 61) rfl ?_
  refine ww_run 17 3 (pc' := 64) (lv' := [(0, .ref 0), (1, .int what)]) (st' := [.int 2, .int 0, .int what]) (w' := wMv wi ki mo (hoF sty wset wfor) cd sr stk names till sitter on was sat stood rose turn pe ch ru lent J K) (Ps := []) rfl trivial ?_
  refine ww_cSi 20 ok_X7_in (Co.fr0 (c_X7_in what 0 2) rfl) lk_X7_108 rfl (by omega) (rest := []) rfl (Nat.le_of_ble_eq_true rfl) rfl ?_
  refine ww_if_eq 21 rfl (tgt := 79) rfl (fun c1 => ?_) (fun c1 => ?_)
  · rw [b2i_eq0] at c1
    refine ww_run 27 1 (pc' := 81) (lv' := [(0, .ref 0), (1, .int what)]) (st' := [.int (-2)]) (w' := wMv wi ki mo (hoF sty wset wfor) cd sr stk names till sitter on was sat stood rose turn pe ch ru lent J K) (Ps := []) rfl trivial ?_
    refine ww_iret 28 rfl rfl ?_
    exact ⟨by unfold cntV; rw [if_neg q0, if_neg q1, if_neg q2, if_neg q3, if_neg q4, if_neg c1], rfl⟩
  · rw [b2i_ne0] at c1
    rcases in3 c1 with rfl | rfl | rfl
    · skip
      refine ww_run 22 5 (pc' := 81) (lv' := [(0, .ref 0), (1, .int 0)]) (st' := [.int sty]) (w' := wMv wi ki mo (hoF sty wset wfor) cd sr stk names till sitter on was sat stood rose turn pe ch ru lent J K) (Ps := [vp_in 0 3]) rfl ⟨(vp_in_nI (n := 0) (by decide) (by decide)), trivial⟩ ?_
      refine ww_iret 28 rfl rfl ?_
      exact ⟨by unfold cntV; rw [if_neg (by decide), if_neg (by decide), if_neg (by decide), if_neg (by decide), if_neg (by decide), if_pos c1]; simp [hGet], rfl⟩
    · skip
      refine ww_run 22 5 (pc' := 81) (lv' := [(0, .ref 0), (1, .int 1)]) (st' := [.int wset]) (w' := wMv wi ki mo (hoF sty wset wfor) cd sr stk names till sitter on was sat stood rose turn pe ch ru lent J K) (Ps := [vp_in 1 3]) rfl ⟨(vp_in_nI (n := 1) (by decide) (by decide)), trivial⟩ ?_
      refine ww_iret 28 rfl rfl ?_
      exact ⟨by unfold cntV; rw [if_neg (by decide), if_neg (by decide), if_neg (by decide), if_neg (by decide), if_neg (by decide), if_pos c1]; simp [hGet], rfl⟩
    · skip
      refine ww_run 22 5 (pc' := 81) (lv' := [(0, .ref 0), (1, .int 2)]) (st' := [.int wfor]) (w' := wMv wi ki mo (hoF sty wset wfor) cd sr stk names till sitter on was sat stood rose turn pe ch ru lent J K) (Ps := [vp_in 2 3]) rfl ⟨(vp_in_nI (n := 2) (by decide) (by decide)), trivial⟩ ?_
      refine ww_iret 28 rfl rfl ?_
      exact ⟨by unfold cntV; rw [if_neg (by decide), if_neg (by decide), if_neg (by decide), if_neg (by decide), if_neg (by decide), if_pos c1]; simp [hGet], rfl⟩
set_option maxHeartbeats 4000000 in
set_option maxRecDepth 100000 in
theorem c_X7_isByte  (x : Int32) : Co M_X7_isByte 1 0 0 [.int x] (wZero ) (Qi (b2i (mIn x 0 255)) wZero ) := by
  refine Co.of ok_X7_isByte rfl ?_
  refine ww_run 0 3 (pc' := 5) (lv' := [(0, .int x)]) (st' := [.int 255, .int 0, .int x]) (w' := wZero ) (Ps := []) rfl trivial ?_
  refine ww_cSi 3 ok_X7_in (Co.fr0 (c_X7_in x 0 255) rfl) lk_X7_108 rfl (by omega) (rest := []) rfl (Nat.le_of_ble_eq_true rfl) rfl ?_
  refine ww_zret 4 rfl rfl (b2i_nar _) ?_
  exact ⟨rfl, rfl⟩
abbrev wMt (tp : Nat → Int32) (tn : Int32) (J : Nat → Int32) (K : Nat → Nat → Int32) : List va_E :=
  [.inr (6, [.int (J 0), .ref 1, .int (J 2), .ref 2, .ref 3, .ref 4, .ref 5, .int tn, .ref 6, .ref 7, .int (J 10), .int (J 11), .int (J 12), .int (J 13), .int (J 14), .int (J 15), .ref 8, .ref 9, .ref 10, .ref 11, .ref 12, .ref 13, .ref 14, .int (J 23), .int (J 24), .int (J 25), .int (J 26), .ref 15, .ref 16, .int (J 29), .int (J 30), .int (J 31), .ref 17, .ref 18, .ref 19, .ref 20, .ref 21, .ref 22, .ref 23, .ref 24, .ref 25, .ref 26, .int (J 42), .ref 27, .int (J 44), .int (J 45), .ref 28]),
   iA 15 (K 1),
   iA 6 (K 3),
   iA 6 (K 4),
   iA 3 (K 5),
   iA 160 tp,
   iA 1200 (K 8),
   iA 24 (K 9),
   iA 15 (K 16),
   iA 3 (K 17),
   iA 12 (K 18),
   iA 4 (K 19),
   iA 4 (K 20),
   iA 160 (K 21),
   iA 50 (K 22),
   iA 96 (K 27),
   iA 200 (K 28),
   iA 200 (K 32),
   iA 6 (K 33),
   iA 6 (K 34),
   iA 6 (K 35),
   iA 5 (K 36),
   iA 5 (K 37),
   iA 5 (K 38),
   iA 5 (K 39),
   iA 5 (K 40),
   iA 5 (K 41),
   iA 5 (K 43),
   iA 20 (K 46)]
/-- bytes that come behind others -/
def fdS (a b c d e : Int32) (j : Nat) : Int32 := if j = 0 then a else if j = 1 then b else if j = 2 then c else if j = 3 then d else e
def fdT (tp : Nat → Int32) (N : Nat) (s : Nat → Int32) : Nat → (Nat → Int32)
  | 0 => tp
  | i + 1 => upd (fdT tp N s i) (N + i) (s i)
def fdOK (n a b c d e : Int32) : Prop := mIn n 1 5 ∧ mIn a 0 255 ∧ mIn b 0 255 ∧ mIn c 0 255 ∧ mIn d 0 255 ∧ mIn e 0 255
set_option maxHeartbeats 4000000 in
set_option maxRecDepth 100000 in
theorem l_X7_feed_68 {Q : Option Value → List va_E → Prop} {d : Nat} (hd : 0 ≤ d) (tp J : Nat → Int32) (K : Nat → Nat → Int32)  (N k : Nat) (a b c d0 e : Int32) (hk : k ≤ 5) (hN : N + k ≤ 160) (KK : WW M_X7_feed d Q xz 142 [(0, .ref 0), (1, .int (nI k)), (2, .int a), (3, .int b), (4, .int c), (5, .int d0), (6, .int e), (7, .int (nI k))] [] (wMt (fdT tp N (fdS a b c d0 e) k) (nI (N + k)) J K)) :
    ∀ (n i : Nat) , i ≤ k → k + 1 ≤ i + n → WW M_X7_feed d Q xz 68 [(0, .ref 0), (1, .int (nI k)), (2, .int a), (3, .int b), (4, .int c), (5, .int d0), (6, .int e), (7, .int (nI i))] [] (wMt (fdT tp N (fdS a b c d0 e) i) (nI (N + i)) J K) := by
  intro n
  induction n with
  | zero => intro i; intros; omega
  | succ n ih =>
    intro i  hi hn 
    refine ww_run 32 2 (pc' := 71) (lv' := [(0, .ref 0), (1, .int (nI k)), (2, .int a), (3, .int b), (4, .int c), (5, .int d0), (6, .int e), (7, .int (nI i))]) (st' := [.int (nI k), .int (nI i)]) (w' := wMt (fdT tp N (fdS a b c d0 e) i) (nI (N + i)) J K) (Ps := []) rfl trivial ?_
    refine ww_icmp_ge 34 rfl (tgt := 142) rfl (fun c1 => ?_) (fun c1 => ?_)
    · have c1 : k ≤ i := (nI_leI (a := k) (b := i) (by omega) (by omega)).mp c1
      obtain rfl : i = k := by omega
      exact KK
    · have c1 : ¬ k ≤ i := fun q => c1 ((nI_leI (a := k) (b := i) (by omega) (by omega)).mpr q)
      refine ww_run 35 5 (pc' := 84) (lv' := [(0, .ref 0), (1, .int (nI k)), (2, .int a), (3, .int b), (4, .int c), (5, .int d0), (6, .int e), (7, .int (nI i))]) (st' := [.int (nI i), .int (nI (N + i)), .ref 5]) (w' := wMt (fdT tp N (fdS a b c d0 e) i) (nI (N + i)) J K) (Ps := []) rfl trivial ?_
      refine ww_if_ne 40 rfl (tgt := 91) rfl (fun c2 => ?_) (fun c2 => ?_)
      · have c2 : ¬ i = 0 := fun q => c2 ((nI_eq (a := i) (b := 0) (by omega) (by omega)).mpr q)
        refine ww_run 43 2 (pc' := 94) (lv' := [(0, .ref 0), (1, .int (nI k)), (2, .int a), (3, .int b), (4, .int c), (5, .int d0), (6, .int e), (7, .int (nI i))]) (st' := [.int 1, .int (nI i), .int (nI (N + i)), .ref 5]) (w' := wMt (fdT tp N (fdS a b c d0 e) i) (nI (N + i)) J K) (Ps := []) rfl trivial ?_
        refine ww_icmp_ne 45 rfl (tgt := 101) rfl (fun c3 => ?_) (fun c3 => ?_)
        · have c3 : ¬ i = 1 := fun q => c3 ((nI_eq (a := i) (b := 1) (by omega) (by omega)).mpr q)
          refine ww_run 48 2 (pc' := 104) (lv' := [(0, .ref 0), (1, .int (nI k)), (2, .int a), (3, .int b), (4, .int c), (5, .int d0), (6, .int e), (7, .int (nI i))]) (st' := [.int 2, .int (nI i), .int (nI (N + i)), .ref 5]) (w' := wMt (fdT tp N (fdS a b c d0 e) i) (nI (N + i)) J K) (Ps := []) rfl trivial ?_
          refine ww_icmp_ne 50 rfl (tgt := 112) rfl (fun c4 => ?_) (fun c4 => ?_)
          · have c4 : ¬ i = 2 := fun q => c4 ((nI_eq (a := i) (b := 2) (by omega) (by omega)).mpr q)
            refine ww_run 53 2 (pc' := 115) (lv' := [(0, .ref 0), (1, .int (nI k)), (2, .int a), (3, .int b), (4, .int c), (5, .int d0), (6, .int e), (7, .int (nI i))]) (st' := [.int 3, .int (nI i), .int (nI (N + i)), .ref 5]) (w' := wMt (fdT tp N (fdS a b c d0 e) i) (nI (N + i)) J K) (Ps := []) rfl trivial ?_
            refine ww_icmp_ne 55 rfl (tgt := 123) rfl (fun c5 => ?_) (fun c5 => ?_)
            · have c5 : ¬ i = 3 := fun q => c5 ((nI_eq (a := i) (b := 3) (by omega) (by omega)).mpr q)
              refine ww_run 58 10 (pc' := 68) (lv' := [(7, .int ((nI i) + 1)), (0, .ref 0), (1, .int (nI k)), (2, .int a), (3, .int b), (4, .int c), (5, .int d0), (6, .int e)]) (st' := []) (w' := wMt (upd (fdT tp N (fdS a b c d0 e) i) ((nI (N + i)).toNatClampNeg) e) ((nI (N + i)) + 1) J K) (Ps := [vp_in (nI (N + i)) 160]) rfl ⟨(vp_in_nI (by omega) (by omega)), trivial⟩ ?_
              rw [nI_clamp (n := (N + i)) (by omega)]
              rw [nI_1 i]
              rw [nI_1 (N + i)]
              refine ww_lv [1, 2, 3, 4, 5, 6, 7, 0] (lv' := [(0, .ref 0), (1, .int (nI k)), (2, .int a), (3, .int b), (4, .int c), (5, .int d0), (6, .int e), (7, .int (nI (i + 1)))]) rfl ?_
              rw [show N + i + 1 = N + (i + 1) by omega]
              have hh := ih (i + 1) (by omega) (by omega)
              have e1 : fdT tp N (fdS a b c d0 e) (i + 1) = upd (fdT tp N (fdS a b c d0 e) i) (N + i) e := by simp only [fdT]; congr 1; unfold fdS; simp [*]
              rw [e1] at hh
              exact hh
            · have c5 : i = 3 := (nI_eq (a := i) (b := 3) (by omega) (by omega)).mp c5
              refine ww_run 56 2 (pc' := 125) (lv' := [(0, .ref 0), (1, .int (nI k)), (2, .int a), (3, .int b), (4, .int c), (5, .int d0), (6, .int e), (7, .int (nI i))]) (st' := [.int d0, .int (nI (N + i)), .ref 5]) (w' := wMt (fdT tp N (fdS a b c d0 e) i) (nI (N + i)) J K) (Ps := []) rfl trivial ?_
              refine ww_run 59 9 (pc' := 68) (lv' := [(7, .int ((nI i) + 1)), (0, .ref 0), (1, .int (nI k)), (2, .int a), (3, .int b), (4, .int c), (5, .int d0), (6, .int e)]) (st' := []) (w' := wMt (upd (fdT tp N (fdS a b c d0 e) i) ((nI (N + i)).toNatClampNeg) d0) ((nI (N + i)) + 1) J K) (Ps := [vp_in (nI (N + i)) 160]) rfl ⟨(vp_in_nI (by omega) (by omega)), trivial⟩ ?_
              rw [nI_clamp (n := (N + i)) (by omega)]
              rw [nI_1 i]
              rw [nI_1 (N + i)]
              refine ww_lv [1, 2, 3, 4, 5, 6, 7, 0] (lv' := [(0, .ref 0), (1, .int (nI k)), (2, .int a), (3, .int b), (4, .int c), (5, .int d0), (6, .int e), (7, .int (nI (i + 1)))]) rfl ?_
              rw [show N + i + 1 = N + (i + 1) by omega]
              have hh := ih (i + 1) (by omega) (by omega)
              have e1 : fdT tp N (fdS a b c d0 e) (i + 1) = upd (fdT tp N (fdS a b c d0 e) i) (N + i) d0 := by simp only [fdT]; congr 1; unfold fdS; simp [*]
              rw [e1] at hh
              exact hh
          · have c4 : i = 2 := (nI_eq (a := i) (b := 2) (by omega) (by omega)).mp c4
            refine ww_run 51 2 (pc' := 125) (lv' := [(0, .ref 0), (1, .int (nI k)), (2, .int a), (3, .int b), (4, .int c), (5, .int d0), (6, .int e), (7, .int (nI i))]) (st' := [.int c, .int (nI (N + i)), .ref 5]) (w' := wMt (fdT tp N (fdS a b c d0 e) i) (nI (N + i)) J K) (Ps := []) rfl trivial ?_
            refine ww_run 59 9 (pc' := 68) (lv' := [(7, .int ((nI i) + 1)), (0, .ref 0), (1, .int (nI k)), (2, .int a), (3, .int b), (4, .int c), (5, .int d0), (6, .int e)]) (st' := []) (w' := wMt (upd (fdT tp N (fdS a b c d0 e) i) ((nI (N + i)).toNatClampNeg) c) ((nI (N + i)) + 1) J K) (Ps := [vp_in (nI (N + i)) 160]) rfl ⟨(vp_in_nI (by omega) (by omega)), trivial⟩ ?_
            rw [nI_clamp (n := (N + i)) (by omega)]
            rw [nI_1 i]
            rw [nI_1 (N + i)]
            refine ww_lv [1, 2, 3, 4, 5, 6, 7, 0] (lv' := [(0, .ref 0), (1, .int (nI k)), (2, .int a), (3, .int b), (4, .int c), (5, .int d0), (6, .int e), (7, .int (nI (i + 1)))]) rfl ?_
            rw [show N + i + 1 = N + (i + 1) by omega]
            have hh := ih (i + 1) (by omega) (by omega)
            have e1 : fdT tp N (fdS a b c d0 e) (i + 1) = upd (fdT tp N (fdS a b c d0 e) i) (N + i) c := by simp only [fdT]; congr 1; unfold fdS; simp [*]
            rw [e1] at hh
            exact hh
        · have c3 : i = 1 := (nI_eq (a := i) (b := 1) (by omega) (by omega)).mp c3
          refine ww_run 46 2 (pc' := 125) (lv' := [(0, .ref 0), (1, .int (nI k)), (2, .int a), (3, .int b), (4, .int c), (5, .int d0), (6, .int e), (7, .int (nI i))]) (st' := [.int b, .int (nI (N + i)), .ref 5]) (w' := wMt (fdT tp N (fdS a b c d0 e) i) (nI (N + i)) J K) (Ps := []) rfl trivial ?_
          refine ww_run 59 9 (pc' := 68) (lv' := [(7, .int ((nI i) + 1)), (0, .ref 0), (1, .int (nI k)), (2, .int a), (3, .int b), (4, .int c), (5, .int d0), (6, .int e)]) (st' := []) (w' := wMt (upd (fdT tp N (fdS a b c d0 e) i) ((nI (N + i)).toNatClampNeg) b) ((nI (N + i)) + 1) J K) (Ps := [vp_in (nI (N + i)) 160]) rfl ⟨(vp_in_nI (by omega) (by omega)), trivial⟩ ?_
          rw [nI_clamp (n := (N + i)) (by omega)]
          rw [nI_1 i]
          rw [nI_1 (N + i)]
          refine ww_lv [1, 2, 3, 4, 5, 6, 7, 0] (lv' := [(0, .ref 0), (1, .int (nI k)), (2, .int a), (3, .int b), (4, .int c), (5, .int d0), (6, .int e), (7, .int (nI (i + 1)))]) rfl ?_
          rw [show N + i + 1 = N + (i + 1) by omega]
          have hh := ih (i + 1) (by omega) (by omega)
          have e1 : fdT tp N (fdS a b c d0 e) (i + 1) = upd (fdT tp N (fdS a b c d0 e) i) (N + i) b := by simp only [fdT]; congr 1; unfold fdS; simp [*]
          rw [e1] at hh
          exact hh
      · have c2 : i = 0 := (nI_eq (a := i) (b := 0) (by omega) (by omega)).mp c2
        refine ww_run 41 2 (pc' := 125) (lv' := [(0, .ref 0), (1, .int (nI k)), (2, .int a), (3, .int b), (4, .int c), (5, .int d0), (6, .int e), (7, .int (nI i))]) (st' := [.int a, .int (nI (N + i)), .ref 5]) (w' := wMt (fdT tp N (fdS a b c d0 e) i) (nI (N + i)) J K) (Ps := []) rfl trivial ?_
        refine ww_run 59 9 (pc' := 68) (lv' := [(7, .int ((nI i) + 1)), (0, .ref 0), (1, .int (nI k)), (2, .int a), (3, .int b), (4, .int c), (5, .int d0), (6, .int e)]) (st' := []) (w' := wMt (upd (fdT tp N (fdS a b c d0 e) i) ((nI (N + i)).toNatClampNeg) a) ((nI (N + i)) + 1) J K) (Ps := [vp_in (nI (N + i)) 160]) rfl ⟨(vp_in_nI (by omega) (by omega)), trivial⟩ ?_
        rw [nI_clamp (n := (N + i)) (by omega)]
        rw [nI_1 i]
        rw [nI_1 (N + i)]
        refine ww_lv [1, 2, 3, 4, 5, 6, 7, 0] (lv' := [(0, .ref 0), (1, .int (nI k)), (2, .int a), (3, .int b), (4, .int c), (5, .int d0), (6, .int e), (7, .int (nI (i + 1)))]) rfl ?_
        rw [show N + i + 1 = N + (i + 1) by omega]
        have hh := ih (i + 1) (by omega) (by omega)
        have e1 : fdT tp N (fdS a b c d0 e) (i + 1) = upd (fdT tp N (fdS a b c d0 e) i) (N + i) a := by simp only [fdT]; congr 1; unfold fdS; simp [*]
        rw [e1] at hh
        exact hh
set_option maxHeartbeats 4000000 in
set_option maxRecDepth 100000 in
theorem m_feed (tp J : Nat → Int32) (K : Nat → Nat → Int32) (N : Nat) (hN : N ≤ 160) (n a b c d0 e : Int32) : Co M_X7_feed 2 0 0 [.ref 0, .int n, .int a, .int b, .int c, .int d0, .int e] (wMt tp (nI N) J K) (fun r w' => ((¬ fdOK n a b c d0 e) ∧ r = some (.int (-2)) ∧ w' = wMt tp (nI N) J K) ∨ ((fdOK n a b c d0 e ∧ 160 < N + n.toNatClampNeg) ∧ r = some (.int (-4)) ∧ w' = wMt tp (nI N) J K) ∨ ((fdOK n a b c d0 e ∧ N + n.toNatClampNeg ≤ 160) ∧ r = some (.int (nI (N + n.toNatClampNeg))) ∧ w' = wMt (fdT tp N (fdS a b c d0 e) n.toNatClampNeg) (nI (N + n.toNatClampNeg)) J K)) := by
  refine Co.of ok_X7_feed rfl ?_
  refine ww_run 0 3 (pc' := 3) (lv' := [(0, .ref 0), (1, .int n), (2, .int a), (3, .int b), (4, .int c), (5, .int d0), (6, .int e)]) (st' := [.int 5, .int 1, .int n]) (w' := wMt tp (nI N) J K) (Ps := []) rfl trivial ?_
  refine ww_cSi 3 ok_X7_in (Co.fr0 (c_X7_in n 1 5) rfl) lk_X7_108 rfl (by omega) (rest := []) rfl (Nat.le_of_ble_eq_true rfl) rfl ?_
  refine ww_if_eq 4 rfl (tgt := 47) rfl (fun c1 => ?_) (fun c1 => ?_)
  · rw [b2i_eq0] at c1
    refine ww_run 20 1 (pc' := 49) (lv' := [(0, .ref 0), (1, .int n), (2, .int a), (3, .int b), (4, .int c), (5, .int d0), (6, .int e)]) (st' := [.int (-2)]) (w' := wMt tp (nI N) J K) (Ps := []) rfl trivial ?_
    refine ww_iret 21 rfl rfl ?_
    exact Or.inl ⟨by unfold fdOK; grind, rfl, rfl⟩
  · rw [b2i_ne0] at c1
    refine ww_run 5 1 (pc' := 10) (lv' := [(0, .ref 0), (1, .int n), (2, .int a), (3, .int b), (4, .int c), (5, .int d0), (6, .int e)]) (st' := [.int a]) (w' := wMt tp (nI N) J K) (Ps := []) rfl trivial ?_
    refine ww_cSi 6 ok_X7_isByte (Co.fr0 (c_X7_isByte a) rfl) lk_X7_125 rfl (by omega) (rest := []) rfl (Nat.le_of_ble_eq_true rfl) rfl ?_
    refine ww_if_eq 7 rfl (tgt := 47) rfl (fun c2 => ?_) (fun c2 => ?_)
    · rw [b2i_eq0] at c2
      refine ww_run 20 1 (pc' := 49) (lv' := [(0, .ref 0), (1, .int n), (2, .int a), (3, .int b), (4, .int c), (5, .int d0), (6, .int e)]) (st' := [.int (-2)]) (w' := wMt tp (nI N) J K) (Ps := []) rfl trivial ?_
      refine ww_iret 21 rfl rfl ?_
      exact Or.inl ⟨by unfold fdOK; grind, rfl, rfl⟩
    · rw [b2i_ne0] at c2
      refine ww_run 8 1 (pc' := 17) (lv' := [(0, .ref 0), (1, .int n), (2, .int a), (3, .int b), (4, .int c), (5, .int d0), (6, .int e)]) (st' := [.int b]) (w' := wMt tp (nI N) J K) (Ps := []) rfl trivial ?_
      refine ww_cSi 9 ok_X7_isByte (Co.fr0 (c_X7_isByte b) rfl) lk_X7_125 rfl (by omega) (rest := []) rfl (Nat.le_of_ble_eq_true rfl) rfl ?_
      refine ww_if_eq 10 rfl (tgt := 47) rfl (fun c3 => ?_) (fun c3 => ?_)
      · rw [b2i_eq0] at c3
        refine ww_run 20 1 (pc' := 49) (lv' := [(0, .ref 0), (1, .int n), (2, .int a), (3, .int b), (4, .int c), (5, .int d0), (6, .int e)]) (st' := [.int (-2)]) (w' := wMt tp (nI N) J K) (Ps := []) rfl trivial ?_
        refine ww_iret 21 rfl rfl ?_
        exact Or.inl ⟨by unfold fdOK; grind, rfl, rfl⟩
      · rw [b2i_ne0] at c3
        refine ww_run 11 1 (pc' := 25) (lv' := [(0, .ref 0), (1, .int n), (2, .int a), (3, .int b), (4, .int c), (5, .int d0), (6, .int e)]) (st' := [.int c]) (w' := wMt tp (nI N) J K) (Ps := []) rfl trivial ?_
        refine ww_cSi 12 ok_X7_isByte (Co.fr0 (c_X7_isByte c) rfl) lk_X7_125 rfl (by omega) (rest := []) rfl (Nat.le_of_ble_eq_true rfl) rfl ?_
        refine ww_if_eq 13 rfl (tgt := 47) rfl (fun c4 => ?_) (fun c4 => ?_)
        · rw [b2i_eq0] at c4
          refine ww_run 20 1 (pc' := 49) (lv' := [(0, .ref 0), (1, .int n), (2, .int a), (3, .int b), (4, .int c), (5, .int d0), (6, .int e)]) (st' := [.int (-2)]) (w' := wMt tp (nI N) J K) (Ps := []) rfl trivial ?_
          refine ww_iret 21 rfl rfl ?_
          exact Or.inl ⟨by unfold fdOK; grind, rfl, rfl⟩
        · rw [b2i_ne0] at c4
          refine ww_run 14 1 (pc' := 33) (lv' := [(0, .ref 0), (1, .int n), (2, .int a), (3, .int b), (4, .int c), (5, .int d0), (6, .int e)]) (st' := [.int d0]) (w' := wMt tp (nI N) J K) (Ps := []) rfl trivial ?_
          refine ww_cSi 15 ok_X7_isByte (Co.fr0 (c_X7_isByte d0) rfl) lk_X7_125 rfl (by omega) (rest := []) rfl (Nat.le_of_ble_eq_true rfl) rfl ?_
          refine ww_if_eq 16 rfl (tgt := 47) rfl (fun c5 => ?_) (fun c5 => ?_)
          · rw [b2i_eq0] at c5
            refine ww_run 20 1 (pc' := 49) (lv' := [(0, .ref 0), (1, .int n), (2, .int a), (3, .int b), (4, .int c), (5, .int d0), (6, .int e)]) (st' := [.int (-2)]) (w' := wMt tp (nI N) J K) (Ps := []) rfl trivial ?_
            refine ww_iret 21 rfl rfl ?_
            exact Or.inl ⟨by unfold fdOK; grind, rfl, rfl⟩
          · rw [b2i_ne0] at c5
            refine ww_run 17 1 (pc' := 41) (lv' := [(0, .ref 0), (1, .int n), (2, .int a), (3, .int b), (4, .int c), (5, .int d0), (6, .int e)]) (st' := [.int e]) (w' := wMt tp (nI N) J K) (Ps := []) rfl trivial ?_
            refine ww_cSi 18 ok_X7_isByte (Co.fr0 (c_X7_isByte e) rfl) lk_X7_125 rfl (by omega) (rest := []) rfl (Nat.le_of_ble_eq_true rfl) rfl ?_
            refine ww_if_ne 19 rfl (tgt := 50) rfl (fun c6 => ?_) (fun c6 => ?_)
            · rw [b2i_ne0] at c6
              have hfd : fdOK n a b c d0 e := ⟨c1, c2, c3, c4, c5, c6⟩
              obtain ⟨k, hk, rfl⟩ := nI_of2 (M := 5) (n := 5) rfl (Int32.not_lt.mpr (Int32.le_trans (by decide) c1.1)) c1.2
              refine ww_run 22 5 (pc' := 59) (lv' := [(0, .ref 0), (1, .int (nI k)), (2, .int a), (3, .int b), (4, .int c), (5, .int d0), (6, .int e)]) (st' := [.int 160, .int ((nI N) + (nI k))]) (w' := wMt tp (nI N) J K) (Ps := []) rfl trivial ?_
              rw [nI_add N k]
              refine ww_icmp_le 27 rfl (tgt := 65) rfl (fun c7 => ?_) (fun c7 => ?_)
              · have c7 : N + k ≤ 160 := (nI_leI (a := (N + k)) (b := 160) (by omega) (by omega)).mp c7
                refine ww_run 30 2 (pc' := 68) (lv' := [(7, .int 0), (0, .ref 0), (1, .int (nI k)), (2, .int a), (3, .int b), (4, .int c), (5, .int d0), (6, .int e)]) (st' := []) (w' := wMt tp (nI N) J K) (Ps := []) rfl trivial ?_
                refine ww_lv [1, 2, 3, 4, 5, 6, 7, 0] (lv' := [(0, .ref 0), (1, .int (nI k)), (2, .int a), (3, .int b), (4, .int c), (5, .int d0), (6, .int e), (7, .int 0)]) rfl ?_
                refine l_X7_feed_68 (by omega) tp J K N k a b c d0 e hk (by omega) ?_ (k + 1) 0 (by omega) (by omega)
                refine ww_run 68 2 (pc' := 146) (lv' := [(0, .ref 0), (1, .int (nI k)), (2, .int a), (3, .int b), (4, .int c), (5, .int d0), (6, .int e), (7, .int (nI k))]) (st' := [.int (nI (N + k))]) (w' := wMt (fdT tp N (fdS a b c d0 e) k) (nI (N + k)) J K) (Ps := []) rfl trivial ?_
                refine ww_iret 70 rfl rfl ?_
                rw [nI_clamp (n := k) (by omega)]
                exact Or.inr (Or.inr ⟨⟨hfd, by omega⟩, rfl, rfl⟩)
              · have c7 : ¬ N + k ≤ 160 := fun q => c7 ((nI_leI (a := (N + k)) (b := 160) (by omega) (by omega)).mpr q)
                refine ww_run 28 1 (pc' := 64) (lv' := [(0, .ref 0), (1, .int (nI k)), (2, .int a), (3, .int b), (4, .int c), (5, .int d0), (6, .int e)]) (st' := [.int (-4)]) (w' := wMt tp (nI N) J K) (Ps := []) rfl trivial ?_
                refine ww_iret 29 rfl rfl ?_
                refine Or.inr (Or.inl ⟨⟨hfd, ?_⟩, rfl, rfl⟩)
                rw [nI_clamp (by omega)]
                omega
            · rw [b2i_eq0] at c6
              refine ww_run 20 1 (pc' := 49) (lv' := [(0, .ref 0), (1, .int n), (2, .int a), (3, .int b), (4, .int c), (5, .int d0), (6, .int e)]) (st' := [.int (-2)]) (w' := wMt tp (nI N) J K) (Ps := []) rfl trivial ?_
              refine ww_iret 21 rfl rfl ?_
              exact Or.inl ⟨by unfold fdOK; grind, rfl, rfl⟩
set_option maxHeartbeats 4000000 in
set_option maxRecDepth 100000 in
theorem m_force (wi ki mo ho cd sr stk names till sitter on was sat stood rose turn : Nat → Int32) (pe ch ru lent : Int32) (J : Nat → Int32) (K : Nat → Nat → Int32) (t : Int32) : Co M_X7_force 1 0 0 [.ref 0, .int t] (wMv wi ki mo ho cd sr stk names till sitter on was sat stood rose turn pe ch ru lent J K) (fun r w' => ((¬ mIn t 0 (J 10 - 1)) ∧ r = some (.int (-2)) ∧ w' = wMv wi ki mo ho cd sr stk names till sitter on was sat stood rose turn pe ch ru lent J K) ∨ ((mIn t 0 (J 10 - 1)) ∧ r = some (.int ru) ∧ w' = wMv wi ki mo ho cd sr stk names till sitter on was sat stood rose turn pe ch t lent J K)) := by
  refine Co.of ok_X7_force rfl ?_
  refine ww_run 0 6 (pc' := 8) (lv' := [(0, .ref 0), (1, .int t)]) (st' := [.int ((J 10) - 1), .int 0, .int t]) (w' := wMv wi ki mo ho cd sr stk names till sitter on was sat stood rose turn pe ch ru lent J K) (Ps := []) rfl trivial ?_
  refine ww_cSi 6 ok_X7_in (Co.fr0 (c_X7_in t 0 ((J 10) - 1)) rfl) lk_X7_108 rfl (by omega) (rest := []) rfl (Nat.le_of_ble_eq_true rfl) rfl ?_
  refine ww_if_ne 7 rfl (tgt := 17) rfl (fun c1 => ?_) (fun c1 => ?_)
  · rw [b2i_ne0] at c1
    refine ww_run 10 7 (pc' := 28) (lv' := [(2, .int ru), (0, .ref 0), (1, .int t)]) (st' := [.int ru]) (w' := wMv wi ki mo ho cd sr stk names till sitter on was sat stood rose turn pe ch t lent J K) (Ps := []) rfl trivial ?_
    refine ww_iret 17 rfl rfl ?_
    exact Or.inr (⟨c1, rfl, rfl⟩)
  · rw [b2i_eq0] at c1
    refine ww_run 8 1 (pc' := 16) (lv' := [(0, .ref 0), (1, .int t)]) (st' := [.int (-2)]) (w' := wMv wi ki mo ho cd sr stk names till sitter on was sat stood rose turn pe ch ru lent J K) (Ps := []) rfl trivial ?_
    refine ww_iret 9 rfl rfl ?_
    exact Or.inl ⟨c1, rfl, rfl⟩
def askOK (part fm ss mi nu : Int32) : Prop := mIn part 0 2 ∧ mIn fm 0 99 ∧ mIn ss 0 999 ∧ mIn mi 0 30 ∧ mIn nu 0 9
def askV (sy : SY) (k : Nat) (part fm ss mi nu : Int32) : Int32 := sy k part.toNatClampNeg (nm6 (fm / 10) (fm - fm / 10 * 10) (ss - ss / 10 * 10) (ss / 10) mi nu)
set_option maxHeartbeats 4000000 in
set_option maxRecDepth 100000 in
theorem m_asks (wi ki mo ho cd sr stk names till sitter on was sat stood rose turn : Nat → Int32) (pe ch lent : Int32) (J : Nat → Int32) (K : Nat → Nat → Int32) (sy : SY) (T k : Nat) (hk : k < T) (hL : ML cd sr T sy) (part fm ss mi nu : Int32) : Co M_X7_asks 3 0 0 [.ref 0, .int part, .int fm, .int ss, .int mi, .int nu] (wMv wi ki mo ho cd sr stk names till sitter on was sat stood rose turn pe ch (nI k) lent J K) (fun r w' => (¬ askOK part fm ss mi nu ∧ r = some (.int (-2)) ∧ w' = wMv wi ki mo ho cd sr stk names till sitter on was sat stood rose turn pe ch (nI k) lent J K) ∨ (askOK part fm ss mi nu ∧ r = some (.int (askV sy k part fm ss mi nu)) ∧ ∃ n1 s1, w' = wMv wi ki mo ho cd sr s1 n1 till sitter on was sat stood rose turn pe ch (nI k) lent J K)) := by
  refine Co.of ok_X7_asks rfl ?_
  refine ww_run 0 3 (pc' := 3) (lv' := [(0, .ref 0), (1, .int part), (2, .int fm), (3, .int ss), (4, .int mi), (5, .int nu)]) (st' := [.int 2, .int 0, .int part]) (w' := wMv wi ki mo ho cd sr stk names till sitter on was sat stood rose turn pe ch (nI k) lent J K) (Ps := []) rfl trivial ?_
  refine ww_cSi 3 ok_X7_in (Co.fr0 (c_X7_in part 0 2) rfl) lk_X7_108 rfl (by omega) (rest := []) rfl (Nat.le_of_ble_eq_true rfl) rfl ?_
  refine ww_if_eq 4 rfl (tgt := 56) rfl (fun c1 => ?_) (fun c1 => ?_)
  · rw [b2i_eq0] at c1
    refine ww_run 27 3 (pc' := 61) (lv' := [(6, .int 0), (0, .ref 0), (1, .int part), (2, .int fm), (3, .int ss), (4, .int mi), (5, .int nu)]) (st' := [.int 0]) (w' := wMv wi ki mo ho cd sr stk names till sitter on was sat stood rose turn pe ch (nI k) lent J K) (Ps := []) rfl trivial ?_
    refine ww_if_eq 30 rfl (tgt := 92) rfl (fun c2 => ?_) (fun c2 => ?_)
    · refine ww_run 49 1 (pc' := 94) (lv' := [(6, .int 0), (0, .ref 0), (1, .int part), (2, .int fm), (3, .int ss), (4, .int mi), (5, .int nu)]) (st' := [.int (-2)]) (w' := wMv wi ki mo ho cd sr stk names till sitter on was sat stood rose turn pe ch (nI k) lent J K) (Ps := []) rfl trivial ?_
      refine ww_iret 50 rfl rfl ?_
      exact Or.inl ⟨by unfold askOK; grind, rfl, rfl⟩
    · exact absurd c2 (by decide)
  · rw [b2i_ne0] at c1
    refine ww_run 5 3 (pc' := 13) (lv' := [(0, .ref 0), (1, .int part), (2, .int fm), (3, .int ss), (4, .int mi), (5, .int nu)]) (st' := [.int 99, .int 0, .int fm]) (w' := wMv wi ki mo ho cd sr stk names till sitter on was sat stood rose turn pe ch (nI k) lent J K) (Ps := []) rfl trivial ?_
    refine ww_cSi 8 ok_X7_in (Co.fr0 (c_X7_in fm 0 99) rfl) lk_X7_108 rfl (by omega) (rest := []) rfl (Nat.le_of_ble_eq_true rfl) rfl ?_
    refine ww_if_eq 9 rfl (tgt := 56) rfl (fun c3 => ?_) (fun c3 => ?_)
    · rw [b2i_eq0] at c3
      refine ww_run 27 3 (pc' := 61) (lv' := [(6, .int 0), (0, .ref 0), (1, .int part), (2, .int fm), (3, .int ss), (4, .int mi), (5, .int nu)]) (st' := [.int 0]) (w' := wMv wi ki mo ho cd sr stk names till sitter on was sat stood rose turn pe ch (nI k) lent J K) (Ps := []) rfl trivial ?_
      refine ww_if_eq 30 rfl (tgt := 92) rfl (fun c4 => ?_) (fun c4 => ?_)
      · refine ww_run 49 1 (pc' := 94) (lv' := [(6, .int 0), (0, .ref 0), (1, .int part), (2, .int fm), (3, .int ss), (4, .int mi), (5, .int nu)]) (st' := [.int (-2)]) (w' := wMv wi ki mo ho cd sr stk names till sitter on was sat stood rose turn pe ch (nI k) lent J K) (Ps := []) rfl trivial ?_
        refine ww_iret 50 rfl rfl ?_
        exact Or.inl ⟨by unfold askOK; grind, rfl, rfl⟩
      · exact absurd c4 (by decide)
    · rw [b2i_ne0] at c3
      refine ww_run 10 3 (pc' := 24) (lv' := [(0, .ref 0), (1, .int part), (2, .int fm), (3, .int ss), (4, .int mi), (5, .int nu)]) (st' := [.int 999, .int 0, .int ss]) (w' := wMv wi ki mo ho cd sr stk names till sitter on was sat stood rose turn pe ch (nI k) lent J K) (Ps := []) rfl trivial ?_
      refine ww_cSi 13 ok_X7_in (Co.fr0 (c_X7_in ss 0 999) rfl) lk_X7_108 rfl (by omega) (rest := []) rfl (Nat.le_of_ble_eq_true rfl) rfl ?_
      refine ww_if_eq 14 rfl (tgt := 56) rfl (fun c5 => ?_) (fun c5 => ?_)
      · rw [b2i_eq0] at c5
        refine ww_run 27 3 (pc' := 61) (lv' := [(6, .int 0), (0, .ref 0), (1, .int part), (2, .int fm), (3, .int ss), (4, .int mi), (5, .int nu)]) (st' := [.int 0]) (w' := wMv wi ki mo ho cd sr stk names till sitter on was sat stood rose turn pe ch (nI k) lent J K) (Ps := []) rfl trivial ?_
        refine ww_if_eq 30 rfl (tgt := 92) rfl (fun c6 => ?_) (fun c6 => ?_)
        · refine ww_run 49 1 (pc' := 94) (lv' := [(6, .int 0), (0, .ref 0), (1, .int part), (2, .int fm), (3, .int ss), (4, .int mi), (5, .int nu)]) (st' := [.int (-2)]) (w' := wMv wi ki mo ho cd sr stk names till sitter on was sat stood rose turn pe ch (nI k) lent J K) (Ps := []) rfl trivial ?_
          refine ww_iret 50 rfl rfl ?_
          exact Or.inl ⟨by unfold askOK; grind, rfl, rfl⟩
        · exact absurd c6 (by decide)
      · rw [b2i_ne0] at c5
        refine ww_run 15 3 (pc' := 35) (lv' := [(0, .ref 0), (1, .int part), (2, .int fm), (3, .int ss), (4, .int mi), (5, .int nu)]) (st' := [.int 30, .int 0, .int mi]) (w' := wMv wi ki mo ho cd sr stk names till sitter on was sat stood rose turn pe ch (nI k) lent J K) (Ps := []) rfl trivial ?_
        refine ww_cSi 18 ok_X7_in (Co.fr0 (c_X7_in mi 0 30) rfl) lk_X7_108 rfl (by omega) (rest := []) rfl (Nat.le_of_ble_eq_true rfl) rfl ?_
        refine ww_if_eq 19 rfl (tgt := 56) rfl (fun c7 => ?_) (fun c7 => ?_)
        · rw [b2i_eq0] at c7
          refine ww_run 27 3 (pc' := 61) (lv' := [(6, .int 0), (0, .ref 0), (1, .int part), (2, .int fm), (3, .int ss), (4, .int mi), (5, .int nu)]) (st' := [.int 0]) (w' := wMv wi ki mo ho cd sr stk names till sitter on was sat stood rose turn pe ch (nI k) lent J K) (Ps := []) rfl trivial ?_
          refine ww_if_eq 30 rfl (tgt := 92) rfl (fun c8 => ?_) (fun c8 => ?_)
          · refine ww_run 49 1 (pc' := 94) (lv' := [(6, .int 0), (0, .ref 0), (1, .int part), (2, .int fm), (3, .int ss), (4, .int mi), (5, .int nu)]) (st' := [.int (-2)]) (w' := wMv wi ki mo ho cd sr stk names till sitter on was sat stood rose turn pe ch (nI k) lent J K) (Ps := []) rfl trivial ?_
            refine ww_iret 50 rfl rfl ?_
            exact Or.inl ⟨by unfold askOK; grind, rfl, rfl⟩
          · exact absurd c8 (by decide)
        · rw [b2i_ne0] at c7
          refine ww_run 20 3 (pc' := 46) (lv' := [(0, .ref 0), (1, .int part), (2, .int fm), (3, .int ss), (4, .int mi), (5, .int nu)]) (st' := [.int 9, .int 0, .int nu]) (w' := wMv wi ki mo ho cd sr stk names till sitter on was sat stood rose turn pe ch (nI k) lent J K) (Ps := []) rfl trivial ?_
          refine ww_cSi 23 ok_X7_in (Co.fr0 (c_X7_in nu 0 9) rfl) lk_X7_108 rfl (by omega) (rest := []) rfl (Nat.le_of_ble_eq_true rfl) rfl ?_
          refine ww_if_eq 24 rfl (tgt := 56) rfl (fun c9 => ?_) (fun c9 => ?_)
          · rw [b2i_eq0] at c9
            refine ww_run 27 3 (pc' := 61) (lv' := [(6, .int 0), (0, .ref 0), (1, .int part), (2, .int fm), (3, .int ss), (4, .int mi), (5, .int nu)]) (st' := [.int 0]) (w' := wMv wi ki mo ho cd sr stk names till sitter on was sat stood rose turn pe ch (nI k) lent J K) (Ps := []) rfl trivial ?_
            refine ww_if_eq 30 rfl (tgt := 92) rfl (fun c10 => ?_) (fun c10 => ?_)
            · refine ww_run 49 1 (pc' := 94) (lv' := [(6, .int 0), (0, .ref 0), (1, .int part), (2, .int fm), (3, .int ss), (4, .int mi), (5, .int nu)]) (st' := [.int (-2)]) (w' := wMv wi ki mo ho cd sr stk names till sitter on was sat stood rose turn pe ch (nI k) lent J K) (Ps := []) rfl trivial ?_
              refine ww_iret 50 rfl rfl ?_
              exact Or.inl ⟨by unfold askOK; grind, rfl, rfl⟩
            · exact absurd c10 (by decide)
          · rw [b2i_ne0] at c9
            refine ww_run 25 2 (pc' := 57) (lv' := [(0, .ref 0), (1, .int part), (2, .int fm), (3, .int ss), (4, .int mi), (5, .int nu)]) (st' := [.int 1]) (w' := wMv wi ki mo ho cd sr stk names till sitter on was sat stood rose turn pe ch (nI k) lent J K) (Ps := []) rfl trivial ?_
            refine ww_run 28 2 (pc' := 61) (lv' := [(6, .int 1), (0, .ref 0), (1, .int part), (2, .int fm), (3, .int ss), (4, .int mi), (5, .int nu)]) (st' := [.int 1]) (w' := wMv wi ki mo ho cd sr stk names till sitter on was sat stood rose turn pe ch (nI k) lent J K) (Ps := []) rfl trivial ?_
            refine ww_if_eq 30 rfl (tgt := 92) rfl (fun c11 => ?_) (fun c11 => ?_)
            · exact absurd c11 (by decide)
            · have hok : askOK part fm ss mi nu := ⟨c1, c3, c5, c7, c9⟩
              obtain ⟨pa, hpa, rfl⟩ := nI_of2 (M := 2) (n := 2) rfl (Int32.not_lt.mpr c1.1) c1.2
              obtain ⟨e, hE, hS⟩ := hL.2.2 k hk
              refine ww_run 31 16 (pc' := 86) (lv' := [(6, .int 1), (0, .ref 0), (1, .int (nI pa)), (2, .int fm), (3, .int ss), (4, .int mi), (5, .int nu)]) (st' := [.int nu, .int mi, .int (ss / 10), .int (ss - ss / 10 * 10), .int (fm - fm / 10 * 10), .int (fm / 10), .int (nI pa), .ref 0]) (w' := wMv wi ki mo ho cd sr stk names till sitter on was sat stood rose turn pe ch (nI k) lent J K) (Ps := [¬ 10 = 0, ¬ 10 = 0, ¬ 10 = 0, ¬ 10 = 0]) rfl ⟨(by decide), (by decide), (by decide), (by decide), trivial⟩ ?_
              refine ww_cV 47 ok_X7_asksOf (c_X7_asksOf wi ki mo ho cd sr stk names till sitter on was sat stood rose turn pe ch lent J K k pa e (by omega) hE (fm / 10) (fm - fm / 10 * 10) (ss - ss / 10 * 10) (ss / 10) mi nu) lk_X7_194 rfl (by omega) (rest := []) rfl (Nat.le_of_ble_eq_true rfl) rfl rfl rfl rfl (fun r w' hq => ?_)
              obtain ⟨rfl, n1, s1, rfl⟩ := hq
              rw [hS pa (by omega)]
              refine ww_run 48 1 (pc' := 94) (lv' := [(6, .int 1), (0, .ref 0), (1, .int (nI pa)), (2, .int fm), (3, .int ss), (4, .int mi), (5, .int nu)]) (st' := [.int (sy k pa (nm6 (fm / 10) (fm - fm / 10 * 10) (ss - ss / 10 * 10) (ss / 10) mi nu))]) (w' := wMv wi ki mo ho cd sr s1 n1 till sitter on was sat stood rose turn pe ch (nI k) lent J K) (Ps := []) rfl trivial ?_
              refine ww_iret 50 rfl rfl ?_
              exact Or.inr ⟨hok, by unfold askV; rw [nI_clamp (n := pa) (by omega)], n1, s1, rfl⟩
