theorem wi_u0 {fr lo fa : Nat → Int32} {p : Nat} {v : Int32} : upd (wiF fr lo fa) (3 * p) v = wiF (upd fr p v) lo fa := by
  funext j
  simp only [upd, wiF]
  by_cases h : j = 3 * p
  · subst h
    have h1 : 3 * p % 3 = 0 := by omega
    have h2 : 3 * p / 3 = p := by omega
    simp [h1, h2]
  · rw [if_neg h]
    by_cases h0 : j % 3 = 0
    · have : ¬ j / 3 = p := by omega
      simp [h0, this]
    · simp [h0]
theorem wi_u1 {fr lo fa : Nat → Int32} {p : Nat} {v : Int32} : upd (wiF fr lo fa) (3 * p + 1) v = wiF fr (upd lo p v) fa := by
  funext j
  simp only [upd, wiF]
  by_cases h : j = 3 * p + 1
  · subst h
    have h1 : (3 * p + 1) % 3 = 1 := by omega
    have h2 : (3 * p + 1) / 3 = p := by omega
    simp [h1, h2]
  · rw [if_neg h]
    by_cases h0 : j % 3 = 1
    · have : ¬ j / 3 = p := by omega
      simp [h0, this]
    · by_cases h1 : j % 3 = 0 <;> simp [h0, h1]
theorem wi_u2 {fr lo fa : Nat → Int32} {p : Nat} {v : Int32} : upd (wiF fr lo fa) (3 * p + 2) v = wiF fr lo (upd fa p v) := by
  funext j
  simp only [upd, wiF]
  by_cases h : j = 3 * p + 2
  · subst h
    have h1 : (3 * p + 2) % 3 = 2 := by omega
    have h2 : (3 * p + 2) / 3 = p := by omega
    simp [h1, h2]
  · rw [if_neg h]
    by_cases h0 : j % 3 = 0
    · simp [h0]
    · by_cases h1 : j % 3 = 1
      · simp [h1]
      · have : ¬ j / 3 = p := by omega
        simp [h0, h1, this]
abbrev mOne (a b c : Int32) : Prop := mIn a 0 29 ∧ mIn b 1 9 ∧ mIn c 0 9
abbrev mSo (k more : Int32) : Prop := mIn k 0 5 ∧ mIn more 0 9
set_option maxHeartbeats 4000000 in
set_option maxRecDepth 100000 in
theorem c_X7_one (ki mo ho cd sr stk names till sitter on was sat stood rose turn : Nat → Int32) (ch ru lent : Int32) (J : Nat → Int32) (K : Nat → Nat → Int32) (fr lo fa : Nat → Int32) (P : Nat) (hP : P ≤ 5) (a b c : Int32) : Co M_X7_one 1 0 0 [.ref 0, .int a, .int b, .int c] (wMv (wiF fr lo fa) ki mo ho cd sr stk names till sitter on was sat stood rose turn (nI P) ch ru lent J K) (fun r w' => ((¬ mOne a b c) ∧ r = some (.int (-2)) ∧ w' = wMv (wiF fr lo fa) ki mo ho cd sr stk names till sitter on was sat stood rose turn (nI P) ch ru lent J K) ∨ ((mOne a b c ∧ P = 5) ∧ r = some (.int (-4)) ∧ w' = wMv (wiF fr lo fa) ki mo ho cd sr stk names till sitter on was sat stood rose turn (nI P) ch ru lent J K) ∨ ((mOne a b c ∧ P < 5) ∧ r = some (.int (nI P)) ∧ w' = wMv (wiF (upd fr P a) (upd lo P b) (upd fa P c)) ki mo ho cd sr stk names till sitter on was sat stood rose turn (nI (P + 1)) ch ru lent J K)) := by
  refine Co.of ok_X7_one rfl ?_
  refine ww_run 0 3 (pc' := 4) (lv' := [(0, .ref 0), (1, .int a), (2, .int b), (3, .int c)]) (st' := [.int 29, .int 0, .int a]) (w' := wMv (wiF fr lo fa) ki mo ho cd sr stk names till sitter on was sat stood rose turn (nI P) ch ru lent J K) (Ps := []) rfl trivial ?_
  refine ww_cSi 3 ok_X7_in (Co.fr0 (c_X7_in a 0 29) rfl) lk_X7_108 rfl (by omega) (rest := []) rfl (Nat.le_of_ble_eq_true rfl) rfl ?_
  refine ww_if_eq 4 rfl (tgt := 30) rfl (fun c1 => ?_) (fun c1 => ?_)
  · rw [b2i_eq0] at c1
    refine ww_run 15 1 (pc' := 32) (lv' := [(0, .ref 0), (1, .int a), (2, .int b), (3, .int c)]) (st' := [.int (-2)]) (w' := wMv (wiF fr lo fa) ki mo ho cd sr stk names till sitter on was sat stood rose turn (nI P) ch ru lent J K) (Ps := []) rfl trivial ?_
    refine ww_iret 16 rfl rfl ?_
    exact Or.inl ⟨by grind, rfl, rfl⟩
  · rw [b2i_ne0] at c1
    refine ww_run 5 3 (pc' := 14) (lv' := [(0, .ref 0), (1, .int a), (2, .int b), (3, .int c)]) (st' := [.int 9, .int 1, .int b]) (w' := wMv (wiF fr lo fa) ki mo ho cd sr stk names till sitter on was sat stood rose turn (nI P) ch ru lent J K) (Ps := []) rfl trivial ?_
    refine ww_cSi 8 ok_X7_in (Co.fr0 (c_X7_in b 1 9) rfl) lk_X7_108 rfl (by omega) (rest := []) rfl (Nat.le_of_ble_eq_true rfl) rfl ?_
    refine ww_if_eq 9 rfl (tgt := 30) rfl (fun c2 => ?_) (fun c2 => ?_)
    · rw [b2i_eq0] at c2
      refine ww_run 15 1 (pc' := 32) (lv' := [(0, .ref 0), (1, .int a), (2, .int b), (3, .int c)]) (st' := [.int (-2)]) (w' := wMv (wiF fr lo fa) ki mo ho cd sr stk names till sitter on was sat stood rose turn (nI P) ch ru lent J K) (Ps := []) rfl trivial ?_
      refine ww_iret 16 rfl rfl ?_
      exact Or.inl ⟨by grind, rfl, rfl⟩
    · rw [b2i_ne0] at c2
      refine ww_run 10 3 (pc' := 24) (lv' := [(0, .ref 0), (1, .int a), (2, .int b), (3, .int c)]) (st' := [.int 9, .int 0, .int c]) (w' := wMv (wiF fr lo fa) ki mo ho cd sr stk names till sitter on was sat stood rose turn (nI P) ch ru lent J K) (Ps := []) rfl trivial ?_
      refine ww_cSi 13 ok_X7_in (Co.fr0 (c_X7_in c 0 9) rfl) lk_X7_108 rfl (by omega) (rest := []) rfl (Nat.le_of_ble_eq_true rfl) rfl ?_
      refine ww_if_ne 14 rfl (tgt := 33) rfl (fun c3 => ?_) (fun c3 => ?_)
      · rw [b2i_ne0] at c3
        refine ww_run 17 3 (pc' := 38) (lv' := [(0, .ref 0), (1, .int a), (2, .int b), (3, .int c)]) (st' := [.int 5, .int (nI P)]) (w' := wMv (wiF fr lo fa) ki mo ho cd sr stk names till sitter on was sat stood rose turn (nI P) ch ru lent J K) (Ps := []) rfl trivial ?_
        refine ww_icmp_ne 20 rfl (tgt := 44) rfl (fun c4 => ?_) (fun c4 => ?_)
        · have c4 : ¬ P = 5 := fun q => c4 ((nI_eq (a := P) (b := 5) (by omega) (by omega)).mpr q)
          refine ww_run 23 38 (pc' := 100) (lv' := [(0, .ref 0), (1, .int a), (2, .int b), (3, .int c)]) (st' := [.int (((nI P) + 1) - 1)]) (w' := wMv (upd (upd (upd (wiF fr lo fa) ((3 * (nI P)).toNatClampNeg) a) (((3 * (nI P)) + 1).toNatClampNeg) b) (((3 * (nI P)) + 2).toNatClampNeg) c) ki mo ho cd sr stk names till sitter on was sat stood rose turn ((nI P) + 1) ch ru lent J K) (Ps := [vp_in (3 * (nI P)) 15, vp_in ((3 * (nI P)) + 1) 15, vp_in ((3 * (nI P)) + 2) 15]) rfl ⟨(by rw [show (3 : Int32) * nI P = nI (3 * P) from pk_mul 3 P]; exact vp_in_nI (by omega) (by omega)), (by rw [show (3 : Int32) * nI P = nI (3 * P) from pk_mul 3 P, nI_1 (3 * P)]; exact vp_in_nI (by omega) (by omega)), (by rw [show (3 : Int32) * nI P = nI (3 * P) from pk_mul 3 P, show nI (3 * P) + (2 : Int32) = nI ((3 * P) + 2) from nI_add (3 * P) 2]; exact vp_in_nI (by omega) (by omega)), trivial⟩ ?_
          rw [nI_1 P]
          rw [nI_pred P]
          rw [show (3 : Int32) * nI P = nI (3 * P) from pk_mul 3 P]
          rw [nI_clamp (n := (3 * P)) (by omega)]
          rw [nI_1 (3 * P)]
          rw [nI_clamp (n := ((3 * P) + 1)) (by omega)]
          rw [show nI (3 * P) + (2 : Int32) = nI ((3 * P) + 2) from nI_add (3 * P) 2]
          rw [nI_clamp (n := (3 * P + 2)) (by omega)]
          refine ww_iret 61 rfl rfl ?_
          rw [wi_u0, wi_u1, wi_u2]
          exact Or.inr (Or.inr (⟨⟨by grind, by omega⟩, rfl, rfl⟩))
        · have c4 : P = 5 := (nI_eq (a := P) (b := 5) (by omega) (by omega)).mp c4
          refine ww_run 21 1 (pc' := 43) (lv' := [(0, .ref 0), (1, .int a), (2, .int b), (3, .int c)]) (st' := [.int (-4)]) (w' := wMv (wiF fr lo fa) ki mo ho cd sr stk names till sitter on was sat stood rose turn (nI P) ch ru lent J K) (Ps := []) rfl trivial ?_
          refine ww_iret 22 rfl rfl ?_
          exact Or.inr (Or.inl ⟨by grind, rfl, rfl⟩)
      · rw [b2i_eq0] at c3
        refine ww_run 15 1 (pc' := 32) (lv' := [(0, .ref 0), (1, .int a), (2, .int b), (3, .int c)]) (st' := [.int (-2)]) (w' := wMv (wiF fr lo fa) ki mo ho cd sr stk names till sitter on was sat stood rose turn (nI P) ch ru lent J K) (Ps := []) rfl trivial ?_
        refine ww_iret 16 rfl rfl ?_
        exact Or.inl ⟨by grind, rfl, rfl⟩
set_option maxHeartbeats 4000000 in
set_option maxRecDepth 100000 in
theorem c_X7_isSo  (a b : Int32) : Co M_X7_isSo 1 0 0 [.int a, .int b] (wZero ) (Qi (b2i (mSo a b)) wZero ) := by
  refine Co.of ok_X7_isSo rfl ?_
  refine ww_run 0 3 (pc' := 3) (lv' := [(0, .int a), (1, .int b)]) (st' := [.int 5, .int 0, .int a]) (w' := wZero ) (Ps := []) rfl trivial ?_
  refine ww_cSi 3 ok_X7_in (Co.fr0 (c_X7_in a 0 5) rfl) lk_X7_108 rfl (by omega) (rest := []) rfl (Nat.le_of_ble_eq_true rfl) rfl ?_
  refine ww_if_eq 4 rfl (tgt := 23) rfl (fun c1 => ?_) (fun c1 => ?_)
  · rw [b2i_eq0] at c1
    refine ww_run 12 1 (pc' := 24) (lv' := [(0, .int a), (1, .int b)]) (st' := [.int 0]) (w' := wZero ) (Ps := []) rfl trivial ?_
    refine ww_zret 13 rfl rfl rfl ?_
    exact ⟨by rw [b2i_f (by grind)], rfl⟩
  · rw [b2i_ne0] at c1
    refine ww_run 5 3 (pc' := 13) (lv' := [(0, .int a), (1, .int b)]) (st' := [.int 9, .int 0, .int b]) (w' := wZero ) (Ps := []) rfl trivial ?_
    refine ww_cSi 8 ok_X7_in (Co.fr0 (c_X7_in b 0 9) rfl) lk_X7_108 rfl (by omega) (rest := []) rfl (Nat.le_of_ble_eq_true rfl) rfl ?_
    refine ww_if_eq 9 rfl (tgt := 23) rfl (fun c2 => ?_) (fun c2 => ?_)
    · rw [b2i_eq0] at c2
      refine ww_run 12 1 (pc' := 24) (lv' := [(0, .int a), (1, .int b)]) (st' := [.int 0]) (w' := wZero ) (Ps := []) rfl trivial ?_
      refine ww_zret 13 rfl rfl rfl ?_
      exact ⟨by rw [b2i_f (by grind)], rfl⟩
    · rw [b2i_ne0] at c2
      refine ww_run 10 2 (pc' := 24) (lv' := [(0, .int a), (1, .int b)]) (st' := [.int 1]) (w' := wZero ) (Ps := []) rfl trivial ?_
      refine ww_zret 13 rfl rfl rfl ?_
      exact ⟨by rw [b2i_t (by grind)], rfl⟩
set_option maxHeartbeats 4000000 in
set_option maxRecDepth 100000 in
theorem c_X7_chair (wi ki mo ho cd sr stk names till sitter on was sat stood rose turn : Nat → Int32) (pe ru lent : Int32) (J : Nat → Int32) (K : Nat → Nat → Int32) (C : Nat) (hC : C ≤ 6) (a b : Int32) : Co M_X7_chair 2 0 0 [.ref 0, .int a, .int b] (wMv wi ki mo ho cd sr stk names till sitter on was sat stood rose turn pe (nI C) ru lent J K) (fun r w' => ((¬ mSo a b) ∧ r = some (.int (-2)) ∧ w' = wMv wi ki mo ho cd sr stk names till sitter on was sat stood rose turn pe (nI C) ru lent J K) ∨ ((mSo a b ∧ C = 6) ∧ r = some (.int (-4)) ∧ w' = wMv wi ki mo ho cd sr stk names till sitter on was sat stood rose turn pe (nI C) ru lent J K) ∨ ((mSo a b ∧ C < 6) ∧ r = some (.int (nI C)) ∧ w' = wMv wi (upd ki C a) (upd mo C b) ho cd sr stk names till sitter on was sat stood rose turn pe (nI (C + 1)) ru lent J K)) := by
  refine Co.of ok_X7_chair rfl ?_
  refine ww_run 0 2 (pc' := 2) (lv' := [(0, .ref 0), (1, .int a), (2, .int b)]) (st' := [.int b, .int a]) (w' := wMv wi ki mo ho cd sr stk names till sitter on was sat stood rose turn pe (nI C) ru lent J K) (Ps := []) rfl trivial ?_
  refine ww_cSi 2 ok_X7_isSo (Co.fr0 (c_X7_isSo a b) rfl) lk_X7_198 rfl (by omega) (rest := []) rfl (Nat.le_of_ble_eq_true rfl) rfl ?_
  refine ww_if_ne 3 rfl (tgt := 11) rfl (fun c1 => ?_) (fun c1 => ?_)
  · rw [b2i_ne0] at c1
    refine ww_run 6 3 (pc' := 17) (lv' := [(0, .ref 0), (1, .int a), (2, .int b)]) (st' := [.int 6, .int (nI C)]) (w' := wMv wi ki mo ho cd sr stk names till sitter on was sat stood rose turn pe (nI C) ru lent J K) (Ps := []) rfl trivial ?_
    refine ww_icmp_ne 9 rfl (tgt := 23) rfl (fun c2 => ?_) (fun c2 => ?_)
    · have c2 : ¬ C = 6 := fun q => c2 ((nI_eq (a := C) (b := 6) (by omega) (by omega)).mpr q)
      refine ww_run 12 22 (pc' := 59) (lv' := [(0, .ref 0), (1, .int a), (2, .int b)]) (st' := [.int (((nI C) + 1) - 1)]) (w' := wMv wi (upd ki ((nI C).toNatClampNeg) a) (upd mo ((nI C).toNatClampNeg) b) ho cd sr stk names till sitter on was sat stood rose turn pe ((nI C) + 1) ru lent J K) (Ps := [vp_in (nI C) 6, vp_in (nI C) 6]) rfl ⟨(vp_in_nI (by omega) (by omega)), (vp_in_nI (by omega) (by omega)), trivial⟩ ?_
      rw [nI_clamp (n := C) (by omega)]
      rw [nI_1 C]
      rw [nI_pred C]
      refine ww_iret 34 rfl rfl ?_
      exact Or.inr (Or.inr (⟨⟨by grind, by omega⟩, rfl, rfl⟩))
    · have c2 : C = 6 := (nI_eq (a := C) (b := 6) (by omega) (by omega)).mp c2
      refine ww_run 10 1 (pc' := 22) (lv' := [(0, .ref 0), (1, .int a), (2, .int b)]) (st' := [.int (-4)]) (w' := wMv wi ki mo ho cd sr stk names till sitter on was sat stood rose turn pe (nI C) ru lent J K) (Ps := []) rfl trivial ?_
      refine ww_iret 11 rfl rfl ?_
      exact Or.inr (Or.inl ⟨by grind, rfl, rfl⟩)
  · rw [b2i_eq0] at c1
    refine ww_run 4 1 (pc' := 10) (lv' := [(0, .ref 0), (1, .int a), (2, .int b)]) (st' := [.int (-2)]) (w' := wMv wi ki mo ho cd sr stk names till sitter on was sat stood rose turn pe (nI C) ru lent J K) (Ps := []) rfl trivial ?_
    refine ww_iret 5 rfl rfl ?_
    exact Or.inl ⟨by grind, rfl, rfl⟩
set_option maxHeartbeats 4000000 in
set_option maxRecDepth 100000 in
theorem c_X7_mend (wi ki mo ho cd sr stk names till sitter on was sat stood rose turn : Nat → Int32) (pe ru lent : Int32) (J : Nat → Int32) (K : Nat → Nat → Int32) (C : Nat) (hC : C ≤ 6) (cc a b : Int32) : Co M_X7_mend 2 0 0 [.ref 0, .int cc, .int a, .int b] (wMv wi ki mo ho cd sr stk names till sitter on was sat stood rose turn pe (nI C) ru lent J K) (fun r w' => ((¬ mIn cc 0 (nI C - 1)) ∧ r = some (.int (-5)) ∧ w' = wMv wi ki mo ho cd sr stk names till sitter on was sat stood rose turn pe (nI C) ru lent J K) ∨ ((mIn cc 0 (nI C - 1) ∧ ¬ mSo a b) ∧ r = some (.int (-7)) ∧ w' = wMv wi ki mo ho cd sr stk names till sitter on was sat stood rose turn pe (nI C) ru lent J K) ∨ ((mIn cc 0 (nI C - 1) ∧ mSo a b) ∧ r = some (.int (ki cc.toNatClampNeg)) ∧ w' = wMv wi (upd ki cc.toNatClampNeg a) (upd mo cc.toNatClampNeg b) ho cd sr stk names till sitter on was sat stood rose turn pe (nI C) ru lent J K)) := by
  refine Co.of ok_X7_mend rfl ?_
  refine ww_run 0 2 (pc' := 2) (lv' := [(0, .ref 0), (1, .int cc), (2, .int a), (3, .int b)]) (st' := [.int cc, .ref 0]) (w' := wMv wi ki mo ho cd sr stk names till sitter on was sat stood rose turn pe (nI C) ru lent J K) (Ps := []) rfl trivial ?_
  refine ww_cVi 2 ok_X7_isChair (c_X7_isChair wi ki mo ho cd sr stk names till sitter on was sat stood rose turn pe (nI C) ru lent J K cc) lk_X7_202 rfl (by omega) (rest := []) rfl (Nat.le_of_ble_eq_true rfl) rfl rfl rfl rfl ?_
  refine ww_if_ne 3 rfl (tgt := 11) rfl (fun c1 => ?_) (fun c1 => ?_)
  · rw [b2i_ne0] at c1
    refine ww_run 6 2 (pc' := 13) (lv' := [(0, .ref 0), (1, .int cc), (2, .int a), (3, .int b)]) (st' := [.int b, .int a]) (w' := wMv wi ki mo ho cd sr stk names till sitter on was sat stood rose turn pe (nI C) ru lent J K) (Ps := []) rfl trivial ?_
    refine ww_cSi 8 ok_X7_isSo (Co.fr0 (c_X7_isSo a b) rfl) lk_X7_198 rfl (by omega) (rest := []) rfl (Nat.le_of_ble_eq_true rfl) rfl ?_
    refine ww_if_ne 9 rfl (tgt := 22) rfl (fun c2 => ?_) (fun c2 => ?_)
    · rw [b2i_ne0] at c2
      obtain ⟨c, hc, rfl⟩ := one_nI hC c1
      refine ww_run 12 16 (pc' := 46) (lv' := [(4, .int (ki (nI c).toNatClampNeg)), (0, .ref 0), (1, .int (nI c)), (2, .int a), (3, .int b)]) (st' := [.int (ki (nI c).toNatClampNeg)]) (w' := wMv wi (upd ki ((nI c).toNatClampNeg) a) (upd mo ((nI c).toNatClampNeg) b) ho cd sr stk names till sitter on was sat stood rose turn pe (nI C) ru lent J K) (Ps := [vp_in (nI c) 6, vp_in (nI c) 6, vp_in (nI c) 6]) rfl ⟨(vp_in_nI (by omega) (by omega)), (vp_in_nI (by omega) (by omega)), (vp_in_nI (by omega) (by omega)), trivial⟩ ?_
      rw [nI_clamp (n := c) (by omega)]
      refine ww_iret 28 rfl rfl ?_
      exact Or.inr (Or.inr ⟨⟨c1, c2⟩, rfl, rfl⟩)
    · rw [b2i_eq0] at c2
      refine ww_run 10 1 (pc' := 21) (lv' := [(0, .ref 0), (1, .int cc), (2, .int a), (3, .int b)]) (st' := [.int (-7)]) (w' := wMv wi ki mo ho cd sr stk names till sitter on was sat stood rose turn pe (nI C) ru lent J K) (Ps := []) rfl trivial ?_
      refine ww_iret 11 rfl rfl ?_
      exact Or.inr (Or.inl ⟨by grind, rfl, rfl⟩)
  · rw [b2i_eq0] at c1
    refine ww_run 4 1 (pc' := 10) (lv' := [(0, .ref 0), (1, .int cc), (2, .int a), (3, .int b)]) (st' := [.int (-5)]) (w' := wMv wi ki mo ho cd sr stk names till sitter on was sat stood rose turn pe (nI C) ru lent J K) (Ps := []) rfl trivial ?_
    refine ww_iret 5 rfl rfl ?_
    exact Or.inl ⟨by grind, rfl, rfl⟩
set_option maxHeartbeats 4000000 in
set_option maxRecDepth 100000 in
theorem c_X7_chairTold (wi ki mo ho cd sr stk names till sitter on was sat stood rose turn : Nat → Int32) (pe ru lent : Int32) (J : Nat → Int32) (K : Nat → Nat → Int32) (C : Nat) (hC : C ≤ 6) (cc what : Int32) : Co M_X7_chairTold 2 0 0 [.ref 0, .int cc, .int what] (wMv wi ki mo ho cd sr stk names till sitter on was sat stood rose turn pe (nI C) ru lent J K) (Qi (if mIn cc 0 (nI C - 1) then (if what = 0 then ki cc.toNatClampNeg else if what = 1 then mo cc.toNatClampNeg else -7) else -5) (wMv wi ki mo ho cd sr stk names till sitter on was sat stood rose turn pe (nI C) ru lent J K)) := by
  refine Co.of ok_X7_chairTold rfl ?_
  refine ww_run 0 2 (pc' := 2) (lv' := [(0, .ref 0), (1, .int cc), (2, .int what)]) (st' := [.int cc, .ref 0]) (w' := wMv wi ki mo ho cd sr stk names till sitter on was sat stood rose turn pe (nI C) ru lent J K) (Ps := []) rfl trivial ?_
  refine ww_cVi 2 ok_X7_isChair (c_X7_isChair wi ki mo ho cd sr stk names till sitter on was sat stood rose turn pe (nI C) ru lent J K cc) lk_X7_202 rfl (by omega) (rest := []) rfl (Nat.le_of_ble_eq_true rfl) rfl rfl rfl rfl ?_
  refine ww_if_ne 3 rfl (tgt := 13) rfl (fun c1 => ?_) (fun c1 => ?_)
  · rw [b2i_ne0] at c1
    refine ww_run 6 1 (pc' := 14) (lv' := [(0, .ref 0), (1, .int cc), (2, .int what)]) (st' := [.int what]) (w' := wMv wi ki mo ho cd sr stk names till sitter on was sat stood rose turn pe (nI C) ru lent J K) (Ps := []) rfl trivial ?_
    refine ww_if_ne 7 rfl (tgt := 26) rfl (fun c2 => ?_) (fun c2 => ?_)
    · refine ww_run 13 2 (pc' := 28) (lv' := [(0, .ref 0), (1, .int cc), (2, .int what)]) (st' := [.int 1, .int what]) (w' := wMv wi ki mo ho cd sr stk names till sitter on was sat stood rose turn pe (nI C) ru lent J K) (Ps := []) rfl trivial ?_
      refine ww_icmp_ne 15 rfl (tgt := 40) rfl (fun c3 => ?_) (fun c3 => ?_)
      · refine ww_run 21 1 (pc' := 42) (lv' := [(0, .ref 0), (1, .int cc), (2, .int what)]) (st' := [.int (-7)]) (w' := wMv wi ki mo ho cd sr stk names till sitter on was sat stood rose turn pe (nI C) ru lent J K) (Ps := []) rfl trivial ?_
        refine ww_iret 22 rfl rfl ?_
        exact ⟨by rw [if_pos c1, if_neg c2, if_neg c3], rfl⟩
      · refine ww_run 16 5 (pc' := 42) (lv' := [(0, .ref 0), (1, .int cc), (2, .int what)]) (st' := [.int (mo cc.toNatClampNeg)]) (w' := wMv wi ki mo ho cd sr stk names till sitter on was sat stood rose turn pe (nI C) ru lent J K) (Ps := [vp_in cc 6]) rfl ⟨(vp_mIn (by assumption) hC (by omega)), trivial⟩ ?_
        refine ww_iret 22 rfl rfl ?_
        exact ⟨by rw [if_pos c1, if_neg c2, if_pos c3], rfl⟩
    · refine ww_run 8 5 (pc' := 42) (lv' := [(0, .ref 0), (1, .int cc), (2, .int what)]) (st' := [.int (ki cc.toNatClampNeg)]) (w' := wMv wi ki mo ho cd sr stk names till sitter on was sat stood rose turn pe (nI C) ru lent J K) (Ps := [vp_in cc 6]) rfl ⟨(vp_mIn (by assumption) hC (by omega)), trivial⟩ ?_
      refine ww_iret 22 rfl rfl ?_
      exact ⟨by rw [if_pos c1, if_pos c2], rfl⟩
  · rw [b2i_eq0] at c1
    refine ww_run 4 2 (pc' := 42) (lv' := [(0, .ref 0), (1, .int cc), (2, .int what)]) (st' := [.int (-5)]) (w' := wMv wi ki mo ho cd sr stk names till sitter on was sat stood rose turn pe (nI C) ru lent J K) (Ps := []) rfl trivial ?_
    refine ww_iret 22 rfl rfl ?_
    exact ⟨by rw [if_neg c1], rfl⟩
set_option maxHeartbeats 4000000 in
set_option maxRecDepth 100000 in
theorem c_X7_isUnder  (a b : Int32) : Co M_X7_isUnder 0 0 0 [.int a, .int b] (wZero ) (Qi (b2i (b = 0 ∨ a = b ∨ (b = 1 ∧ a = 3) ∨ (b = 2 ∧ a = 4))) wZero ) := by
  refine Co.of ok_X7_isUnder rfl ?_
  refine ww_run 0 1 (pc' := 1) (lv' := [(0, .int a), (1, .int b)]) (st' := [.int b]) (w' := wZero ) (Ps := []) rfl trivial ?_
  refine ww_if_eq 1 rfl (tgt := 29) rfl (fun c1 => ?_) (fun c1 => ?_)
  · refine ww_run 17 2 (pc' := 34) (lv' := [(0, .int a), (1, .int b)]) (st' := [.int 1]) (w' := wZero ) (Ps := []) rfl trivial ?_
    refine ww_zret 20 rfl rfl rfl ?_
    exact ⟨by rw [b2i_t (by grind)], rfl⟩
  · refine ww_run 2 2 (pc' := 6) (lv' := [(0, .int a), (1, .int b)]) (st' := [.int b, .int a]) (w' := wZero ) (Ps := []) rfl trivial ?_
    refine ww_icmp_eq 4 rfl (tgt := 29) rfl (fun c2 => ?_) (fun c2 => ?_)
    · refine ww_run 17 2 (pc' := 34) (lv' := [(0, .int a), (1, .int b)]) (st' := [.int 1]) (w' := wZero ) (Ps := []) rfl trivial ?_
      refine ww_zret 20 rfl rfl rfl ?_
      exact ⟨by rw [b2i_t (by grind)], rfl⟩
    · refine ww_run 5 2 (pc' := 11) (lv' := [(0, .int a), (1, .int b)]) (st' := [.int 1, .int b]) (w' := wZero ) (Ps := []) rfl trivial ?_
      refine ww_icmp_ne 7 rfl (tgt := 19) rfl (fun c3 => ?_) (fun c3 => ?_)
      · refine ww_run 11 2 (pc' := 21) (lv' := [(0, .int a), (1, .int b)]) (st' := [.int 2, .int b]) (w' := wZero ) (Ps := []) rfl trivial ?_
        refine ww_icmp_ne 13 rfl (tgt := 33) rfl (fun c4 => ?_) (fun c4 => ?_)
        · refine ww_run 19 1 (pc' := 34) (lv' := [(0, .int a), (1, .int b)]) (st' := [.int 0]) (w' := wZero ) (Ps := []) rfl trivial ?_
          refine ww_zret 20 rfl rfl rfl ?_
          exact ⟨by rw [b2i_f (by grind)], rfl⟩
        · refine ww_run 14 2 (pc' := 26) (lv' := [(0, .int a), (1, .int b)]) (st' := [.int 4, .int a]) (w' := wZero ) (Ps := []) rfl trivial ?_
          refine ww_icmp_ne 16 rfl (tgt := 33) rfl (fun c5 => ?_) (fun c5 => ?_)
          · refine ww_run 19 1 (pc' := 34) (lv' := [(0, .int a), (1, .int b)]) (st' := [.int 0]) (w' := wZero ) (Ps := []) rfl trivial ?_
            refine ww_zret 20 rfl rfl rfl ?_
            exact ⟨by rw [b2i_f (by grind)], rfl⟩
          · refine ww_run 17 2 (pc' := 34) (lv' := [(0, .int a), (1, .int b)]) (st' := [.int 1]) (w' := wZero ) (Ps := []) rfl trivial ?_
            refine ww_zret 20 rfl rfl rfl ?_
            exact ⟨by rw [b2i_t (by grind)], rfl⟩
      · refine ww_run 8 2 (pc' := 16) (lv' := [(0, .int a), (1, .int b)]) (st' := [.int 3, .int a]) (w' := wZero ) (Ps := []) rfl trivial ?_
        refine ww_icmp_eq 10 rfl (tgt := 29) rfl (fun c6 => ?_) (fun c6 => ?_)
        · refine ww_run 17 2 (pc' := 34) (lv' := [(0, .int a), (1, .int b)]) (st' := [.int 1]) (w' := wZero ) (Ps := []) rfl trivial ?_
          refine ww_zret 20 rfl rfl rfl ?_
          exact ⟨by rw [b2i_t (by grind)], rfl⟩
        · refine ww_run 11 2 (pc' := 21) (lv' := [(0, .int a), (1, .int b)]) (st' := [.int 2, .int b]) (w' := wZero ) (Ps := []) rfl trivial ?_
          refine ww_icmp_ne 13 rfl (tgt := 33) rfl (fun c7 => ?_) (fun c7 => ?_)
          · refine ww_run 19 1 (pc' := 34) (lv' := [(0, .int a), (1, .int b)]) (st' := [.int 0]) (w' := wZero ) (Ps := []) rfl trivial ?_
            refine ww_zret 20 rfl rfl rfl ?_
            exact ⟨by rw [b2i_f (by grind)], rfl⟩
          · refine ww_run 14 2 (pc' := 26) (lv' := [(0, .int a), (1, .int b)]) (st' := [.int 4, .int a]) (w' := wZero ) (Ps := []) rfl trivial ?_
            refine ww_icmp_ne 16 rfl (tgt := 33) rfl (fun c8 => ?_) (fun c8 => ?_)
            · refine ww_run 19 1 (pc' := 34) (lv' := [(0, .int a), (1, .int b)]) (st' := [.int 0]) (w' := wZero ) (Ps := []) rfl trivial ?_
              refine ww_zret 20 rfl rfl rfl ?_
              exact ⟨by rw [b2i_f (by grind)], rfl⟩
            · refine ww_run 17 2 (pc' := 34) (lv' := [(0, .int a), (1, .int b)]) (st' := [.int 1]) (w' := wZero ) (Ps := []) rfl trivial ?_
              refine ww_zret 20 rfl rfl rfl ?_
              exact ⟨by rw [b2i_t (by grind)], rfl⟩
