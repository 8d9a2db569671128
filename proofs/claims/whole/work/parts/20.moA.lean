abbrev wMv (wi ki mo ho cd sr stk names till sitter on was sat stood rose turn : Nat → Int32) (pe ch ru lent : Int32) (J : Nat → Int32) (K : Nat → Nat → Int32) : List va_E :=
  [.inr (6, [.int pe, .ref 1, .int ch, .ref 2, .ref 3, .ref 4, .ref 5, .int (J 7), .ref 6, .ref 7, .int (J 10), .int ru, .int (J 12), .int (J 13), .int (J 14), .int (J 15), .ref 8, .ref 9, .ref 10, .ref 11, .ref 12, .ref 13, .ref 14, .int (J 23), .int (J 24), .int (J 25), .int (J 26), .ref 15, .ref 16, .int (J 29), .int (J 30), .int (J 31), .ref 17, .ref 18, .ref 19, .ref 20, .ref 21, .ref 22, .ref 23, .ref 24, .ref 25, .ref 26, .int lent, .ref 27, .int (J 44), .int (J 45), .ref 28]),
   iA 15 wi,
   iA 6 ki,
   iA 6 mo,
   iA 3 ho,
   iA 160 (K 6),
   iA 1200 cd,
   iA 24 sr,
   iA 15 (K 16),
   iA 3 (K 17),
   iA 12 (K 18),
   iA 4 (K 19),
   iA 4 (K 20),
   iA 160 (K 21),
   iA 50 (K 22),
   iA 96 (K 27),
   iA 200 (K 28),
   iA 200 stk,
   iA 6 names,
   iA 6 till,
   iA 6 sitter,
   iA 5 on,
   iA 5 was,
   iA 5 sat,
   iA 5 stood,
   iA 5 rose,
   iA 5 turn,
   iA 5 (K 43),
   iA 20 (K 46)]
/-- three by three -/
def wiF (fr lo fa : Nat → Int32) : Nat → Int32 := fun j => if j % 3 = 0 then fr (j / 3) else if j % 3 = 1 then lo (j / 3) else fa (j / 3)
theorem wi0 {fr lo fa : Nat → Int32} {p : Nat} : wiF fr lo fa (3 * p) = fr p := by
  have h1 : 3 * p % 3 = 0 := by omega
  have h2 : 3 * p / 3 = p := by omega
  simp [wiF, h1, h2]
theorem wi1 {fr lo fa : Nat → Int32} {p : Nat} : wiF fr lo fa (3 * p + 1) = lo p := by
  have h1 : (3 * p + 1) % 3 = 1 := by omega
  have h2 : (3 * p + 1) / 3 = p := by omega
  simp [wiF, h1, h2]
theorem wi2 {fr lo fa : Nat → Int32} {p : Nat} : wiF fr lo fa (3 * p + 2) = fa p := by
  have h1 : (3 * p + 2) % 3 = 2 := by omega
  have h2 : (3 * p + 2) / 3 = p := by omega
  simp [wiF, h1, h2]
def hoF (a b c : Int32) : Nat → Int32 := fun j => if j = 0 then a else if j = 1 then b else c
abbrev mIn (v a b : Int32) : Prop := a ≤ v ∧ v ≤ b
abbrev mSat (C : Nat) (sitter : Nat → Int32) (x : Int32) : Prop := mIn x 0 (nI C - 1) ∧ ¬ sitter x.toNatClampNeg = -1
abbrev mWarm (C : Nat) (ki till sitter : Nat → Int32) (c : Nat) (m : Int32) : Prop := m < till c ∨ ki c = 3 ∨ (ki c = 5 ∧ (mSat C sitter (nI c - 1) ∨ mSat C sitter (nI (c + 1))))
abbrev mLets (ki mo : Nat → Int32) (lent : Int32) (c : Nat) (m : Int32) : Prop := ¬ nI c = lent ∧ (¬ ki c = 3 ∨ m < mo c)
abbrev mFree (C : Nat) (ki mo till sitter : Nat → Int32) (lent : Int32) (c : Nat) (m : Int32) : Prop := mWarm C ki till sitter c m ∧ sitter c = -1 ∧ mLets ki mo lent c m
abbrev mWants (fr on rose : Nat → Int32) (p : Nat) (m : Int32) : Prop := fr p ≤ m ∧ on p = -1 ∧ rose p = -1
def mWithin (v a b : Int32) : Int32 := if v < a then a else if b < v then b else v
theorem vp_mIn {x : Int32} {C N : Nat} (h : mIn x 0 (nI C - 1)) (hC : C ≤ N) (hN : N < 1000) : vp_in x N := by
  obtain ⟨h0, h1⟩ := h
  rw [vp_in_iff]
  rw [Int32.le_iff_toInt_le] at h0 h1
  rw [show nI C - (1 : Int32) = nI C - nI 1 from rfl, pk_sub_toInt (a := C) (b := 1) (by omega) (by omega)] at h1
  have : (0 : Int32).toInt = 0 := rfl
  omega
set_option maxHeartbeats 4000000 in
set_option maxRecDepth 100000 in
theorem c_X7_in  (v a b : Int32) : Co M_X7_in 0 0 0 [.int v, .int a, .int b] (wZero ) (Qi (b2i (mIn v a b)) wZero ) := by
  refine Co.of ok_X7_in rfl ?_
  refine ww_run 0 2 (pc' := 2) (lv' := [(0, .int v), (1, .int a), (2, .int b)]) (st' := [.int a, .int v]) (w' := wZero ) (Ps := []) rfl trivial ?_
  refine ww_icmp_lt 2 rfl (tgt := 14) rfl (fun c1 => ?_) (fun c1 => ?_)
  · refine ww_run 8 1 (pc' := 15) (lv' := [(0, .int v), (1, .int a), (2, .int b)]) (st' := [.int 0]) (w' := wZero ) (Ps := []) rfl trivial ?_
    refine ww_zret 9 rfl rfl rfl ?_
    exact ⟨by rw [b2i_f (by grind)], rfl⟩
  · refine ww_run 3 2 (pc' := 7) (lv' := [(0, .int v), (1, .int a), (2, .int b)]) (st' := [.int b, .int v]) (w' := wZero ) (Ps := []) rfl trivial ?_
    refine ww_icmp_gt 5 rfl (tgt := 14) rfl (fun c2 => ?_) (fun c2 => ?_)
    · refine ww_run 8 1 (pc' := 15) (lv' := [(0, .int v), (1, .int a), (2, .int b)]) (st' := [.int 0]) (w' := wZero ) (Ps := []) rfl trivial ?_
      refine ww_zret 9 rfl rfl rfl ?_
      exact ⟨by rw [b2i_f (by grind)], rfl⟩
    · refine ww_run 6 2 (pc' := 15) (lv' := [(0, .int v), (1, .int a), (2, .int b)]) (st' := [.int 1]) (w' := wZero ) (Ps := []) rfl trivial ?_
      refine ww_zret 9 rfl rfl rfl ?_
      exact ⟨by rw [b2i_t (by grind)], rfl⟩
set_option maxHeartbeats 4000000 in
set_option maxRecDepth 100000 in
theorem c_X7_within  (v a b : Int32) : Co M_X7_within 0 0 0 [.int v, .int a, .int b] (wZero ) (Qi (mWithin v a b) wZero ) := by
  refine Co.of ok_X7_within rfl ?_
  refine ww_run 0 2 (pc' := 2) (lv' := [(0, .int v), (1, .int a), (2, .int b)]) (st' := [.int a, .int v]) (w' := wZero ) (Ps := []) rfl trivial ?_
  refine ww_icmp_ge 2 rfl (tgt := 9) rfl (fun c1 => ?_) (fun c1 => ?_)
  · refine ww_run 5 2 (pc' := 11) (lv' := [(0, .int v), (1, .int a), (2, .int b)]) (st' := [.int b, .int v]) (w' := wZero ) (Ps := []) rfl trivial ?_
    refine ww_icmp_le 7 rfl (tgt := 18) rfl (fun c2 => ?_) (fun c2 => ?_)
    · refine ww_run 10 1 (pc' := 19) (lv' := [(0, .int v), (1, .int a), (2, .int b)]) (st' := [.int v]) (w' := wZero ) (Ps := []) rfl trivial ?_
      refine ww_iret 11 rfl rfl ?_
      exact ⟨by unfold mWithin; grind, rfl⟩
    · refine ww_run 8 2 (pc' := 19) (lv' := [(0, .int v), (1, .int a), (2, .int b)]) (st' := [.int b]) (w' := wZero ) (Ps := []) rfl trivial ?_
      refine ww_iret 11 rfl rfl ?_
      exact ⟨by unfold mWithin; grind, rfl⟩
  · refine ww_run 3 2 (pc' := 19) (lv' := [(0, .int v), (1, .int a), (2, .int b)]) (st' := [.int a]) (w' := wZero ) (Ps := []) rfl trivial ?_
    refine ww_iret 11 rfl rfl ?_
    exact ⟨by unfold mWithin; grind, rfl⟩
set_option maxHeartbeats 4000000 in
set_option maxRecDepth 100000 in
theorem c_X7_isOne (wi ki mo ho cd sr stk names till sitter on was sat stood rose turn : Nat → Int32) (pe ch ru lent : Int32) (J : Nat → Int32) (K : Nat → Nat → Int32) (x : Int32) : Co M_X7_isOne 1 0 0 [.ref 0, .int x] (wMv wi ki mo ho cd sr stk names till sitter on was sat stood rose turn pe ch ru lent J K) (Qi (b2i (mIn x 0 (pe - 1))) (wMv wi ki mo ho cd sr stk names till sitter on was sat stood rose turn pe ch ru lent J K)) := by
  refine Co.of ok_X7_isOne rfl ?_
  refine ww_run 0 6 (pc' := 8) (lv' := [(0, .ref 0), (1, .int x)]) (st' := [.int (pe - 1), .int 0, .int x]) (w' := wMv wi ki mo ho cd sr stk names till sitter on was sat stood rose turn pe ch ru lent J K) (Ps := []) rfl trivial ?_
  refine ww_cSi 6 ok_X7_in (Co.fr0 (c_X7_in x 0 (pe - 1)) rfl) lk_X7_108 rfl (by omega) (rest := []) rfl (Nat.le_of_ble_eq_true rfl) rfl ?_
  refine ww_zret 7 rfl rfl (b2i_nar _) ?_
  exact ⟨rfl, rfl⟩
set_option maxHeartbeats 4000000 in
set_option maxRecDepth 100000 in
theorem c_X7_isChair (wi ki mo ho cd sr stk names till sitter on was sat stood rose turn : Nat → Int32) (pe ch ru lent : Int32) (J : Nat → Int32) (K : Nat → Nat → Int32) (x : Int32) : Co M_X7_isChair 1 0 0 [.ref 0, .int x] (wMv wi ki mo ho cd sr stk names till sitter on was sat stood rose turn pe ch ru lent J K) (Qi (b2i (mIn x 0 (ch - 1))) (wMv wi ki mo ho cd sr stk names till sitter on was sat stood rose turn pe ch ru lent J K)) := by
  refine Co.of ok_X7_isChair rfl ?_
  refine ww_run 0 6 (pc' := 8) (lv' := [(0, .ref 0), (1, .int x)]) (st' := [.int (ch - 1), .int 0, .int x]) (w' := wMv wi ki mo ho cd sr stk names till sitter on was sat stood rose turn pe ch ru lent J K) (Ps := []) rfl trivial ?_
  refine ww_cSi 6 ok_X7_in (Co.fr0 (c_X7_in x 0 (ch - 1)) rfl) lk_X7_108 rfl (by omega) (rest := []) rfl (Nat.le_of_ble_eq_true rfl) rfl ?_
  refine ww_zret 7 rfl rfl (b2i_nar _) ?_
  exact ⟨rfl, rfl⟩
set_option maxHeartbeats 4000000 in
set_option maxRecDepth 100000 in
theorem c_X7_isSat (wi ki mo ho cd sr stk names till sitter on was sat stood rose turn : Nat → Int32) (pe ru lent : Int32) (J : Nat → Int32) (K : Nat → Nat → Int32) (x : Int32) (C : Nat) (hC : C ≤ 6) : Co M_X7_isSat 2 0 0 [.ref 0, .int x] (wMv wi ki mo ho cd sr stk names till sitter on was sat stood rose turn pe (nI C) ru lent J K) (Qi (b2i (mSat C sitter x)) (wMv wi ki mo ho cd sr stk names till sitter on was sat stood rose turn pe (nI C) ru lent J K)) := by
  refine Co.of ok_X7_isSat rfl ?_
  refine ww_run 0 2 (pc' := 2) (lv' := [(0, .ref 0), (1, .int x)]) (st' := [.int x, .ref 0]) (w' := wMv wi ki mo ho cd sr stk names till sitter on was sat stood rose turn pe (nI C) ru lent J K) (Ps := []) rfl trivial ?_
  refine ww_cVi 2 ok_X7_isChair (c_X7_isChair wi ki mo ho cd sr stk names till sitter on was sat stood rose turn pe (nI C) ru lent J K x) lk_X7_202 rfl (by omega) (rest := []) rfl (Nat.le_of_ble_eq_true rfl) rfl rfl rfl rfl ?_
  refine ww_if_eq 3 rfl (tgt := 22) rfl (fun c1 => ?_) (fun c1 => ?_)
  · rw [b2i_eq0] at c1
    refine ww_run 12 1 (pc' := 23) (lv' := [(0, .ref 0), (1, .int x)]) (st' := [.int 0]) (w' := wMv wi ki mo ho cd sr stk names till sitter on was sat stood rose turn pe (nI C) ru lent J K) (Ps := []) rfl trivial ?_
    refine ww_zret 13 rfl rfl rfl ?_
    exact ⟨by rw [b2i_f (by grind)], rfl⟩
  · rw [b2i_ne0] at c1
    refine ww_run 4 5 (pc' := 15) (lv' := [(0, .ref 0), (1, .int x)]) (st' := [.int (-1), .int (sitter x.toNatClampNeg)]) (w' := wMv wi ki mo ho cd sr stk names till sitter on was sat stood rose turn pe (nI C) ru lent J K) (Ps := [vp_in x 6]) rfl ⟨(vp_mIn (by assumption) hC (by omega)), trivial⟩ ?_
    refine ww_icmp_eq 9 rfl (tgt := 22) rfl (fun c2 => ?_) (fun c2 => ?_)
    · refine ww_run 12 1 (pc' := 23) (lv' := [(0, .ref 0), (1, .int x)]) (st' := [.int 0]) (w' := wMv wi ki mo ho cd sr stk names till sitter on was sat stood rose turn pe (nI C) ru lent J K) (Ps := []) rfl trivial ?_
      refine ww_zret 13 rfl rfl rfl ?_
      exact ⟨by rw [b2i_f (by grind)], rfl⟩
    · refine ww_run 10 2 (pc' := 23) (lv' := [(0, .ref 0), (1, .int x)]) (st' := [.int 1]) (w' := wMv wi ki mo ho cd sr stk names till sitter on was sat stood rose turn pe (nI C) ru lent J K) (Ps := []) rfl trivial ?_
      refine ww_zret 13 rfl rfl rfl ?_
      exact ⟨by rw [b2i_t (by grind)], rfl⟩
set_option maxHeartbeats 4000000 in
set_option maxRecDepth 100000 in
theorem c_X7_isWarm (wi ki mo ho cd sr stk names till sitter on was sat stood rose turn : Nat → Int32) (pe ru lent : Int32) (J : Nat → Int32) (K : Nat → Nat → Int32) (c : Nat) (m : Int32) (C : Nat) (hC : C ≤ 6) (hc : c < 6) : Co M_X7_isWarm 3 0 0 [.ref 0, .int (nI c), .int m] (wMv wi ki mo ho cd sr stk names till sitter on was sat stood rose turn pe (nI C) ru lent J K) (Qi (b2i (mWarm C ki till sitter c m)) (wMv wi ki mo ho cd sr stk names till sitter on was sat stood rose turn pe (nI C) ru lent J K)) := by
  refine Co.of ok_X7_isWarm rfl ?_
  refine ww_run 0 5 (pc' := 7) (lv' := [(0, .ref 0), (1, .int (nI c)), (2, .int m)]) (st' := [.int (till (nI c).toNatClampNeg), .int m]) (w' := wMv wi ki mo ho cd sr stk names till sitter on was sat stood rose turn pe (nI C) ru lent J K) (Ps := [vp_in (nI c) 6]) rfl ⟨(vp_in_nI (by omega) (by omega)), trivial⟩ ?_
  rw [nI_clamp (n := c) (by omega)]
  refine ww_icmp_lt 5 rfl (tgt := 50) rfl (fun c1 => ?_) (fun c1 => ?_)
  · refine ww_run 30 2 (pc' := 55) (lv' := [(0, .ref 0), (1, .int (nI c)), (2, .int m)]) (st' := [.int 1]) (w' := wMv wi ki mo ho cd sr stk names till sitter on was sat stood rose turn pe (nI C) ru lent J K) (Ps := []) rfl trivial ?_
    refine ww_zret 33 rfl rfl rfl ?_
    exact ⟨by rw [b2i_t (by grind)], rfl⟩
  · refine ww_run 6 5 (pc' := 17) (lv' := [(0, .ref 0), (1, .int (nI c)), (2, .int m)]) (st' := [.int 3, .int (ki (nI c).toNatClampNeg)]) (w' := wMv wi ki mo ho cd sr stk names till sitter on was sat stood rose turn pe (nI C) ru lent J K) (Ps := [vp_in (nI c) 6]) rfl ⟨(vp_in_nI (by omega) (by omega)), trivial⟩ ?_
    rw [nI_clamp (n := c) (by omega)]
    refine ww_icmp_eq 11 rfl (tgt := 50) rfl (fun c2 => ?_) (fun c2 => ?_)
    · refine ww_run 30 2 (pc' := 55) (lv' := [(0, .ref 0), (1, .int (nI c)), (2, .int m)]) (st' := [.int 1]) (w' := wMv wi ki mo ho cd sr stk names till sitter on was sat stood rose turn pe (nI C) ru lent J K) (Ps := []) rfl trivial ?_
      refine ww_zret 33 rfl rfl rfl ?_
      exact ⟨by rw [b2i_t (by grind)], rfl⟩
    · refine ww_run 12 5 (pc' := 27) (lv' := [(0, .ref 0), (1, .int (nI c)), (2, .int m)]) (st' := [.int 5, .int (ki (nI c).toNatClampNeg)]) (w' := wMv wi ki mo ho cd sr stk names till sitter on was sat stood rose turn pe (nI C) ru lent J K) (Ps := [vp_in (nI c) 6]) rfl ⟨(vp_in_nI (by omega) (by omega)), trivial⟩ ?_
      rw [nI_clamp (n := c) (by omega)]
      refine ww_icmp_ne 17 rfl (tgt := 54) rfl (fun c3 => ?_) (fun c3 => ?_)
      · refine ww_run 32 1 (pc' := 55) (lv' := [(0, .ref 0), (1, .int (nI c)), (2, .int m)]) (st' := [.int 0]) (w' := wMv wi ki mo ho cd sr stk names till sitter on was sat stood rose turn pe (nI C) ru lent J K) (Ps := []) rfl trivial ?_
        refine ww_zret 33 rfl rfl rfl ?_
        exact ⟨by rw [b2i_f (by grind)], rfl⟩
      · refine ww_run 18 4 (pc' := 34) (lv' := [(0, .ref 0), (1, .int (nI c)), (2, .int m)]) (st' := [.int ((nI c) - 1), .ref 0]) (w' := wMv wi ki mo ho cd sr stk names till sitter on was sat stood rose turn pe (nI C) ru lent J K) (Ps := []) rfl trivial ?_
        refine ww_cVi 22 ok_X7_isSat (c_X7_isSat wi ki mo ho cd sr stk names till sitter on was sat stood rose turn pe ru lent J K ((nI c) - 1) C hC) lk_X7_205 rfl (by omega) (rest := []) rfl (Nat.le_of_ble_eq_true rfl) rfl rfl rfl rfl ?_
        refine ww_if_ne 23 rfl (tgt := 50) rfl (fun c4 => ?_) (fun c4 => ?_)
        · rw [b2i_ne0] at c4
          refine ww_run 30 2 (pc' := 55) (lv' := [(0, .ref 0), (1, .int (nI c)), (2, .int m)]) (st' := [.int 1]) (w' := wMv wi ki mo ho cd sr stk names till sitter on was sat stood rose turn pe (nI C) ru lent J K) (Ps := []) rfl trivial ?_
          refine ww_zret 33 rfl rfl rfl ?_
          exact ⟨by rw [b2i_t (by grind)], rfl⟩
        · rw [b2i_eq0] at c4
          refine ww_run 24 4 (pc' := 44) (lv' := [(0, .ref 0), (1, .int (nI c)), (2, .int m)]) (st' := [.int ((nI c) + 1), .ref 0]) (w' := wMv wi ki mo ho cd sr stk names till sitter on was sat stood rose turn pe (nI C) ru lent J K) (Ps := []) rfl trivial ?_
          rw [nI_1 c]
          refine ww_cVi 28 ok_X7_isSat (c_X7_isSat wi ki mo ho cd sr stk names till sitter on was sat stood rose turn pe ru lent J K (nI (c + 1)) C hC) lk_X7_205 rfl (by omega) (rest := []) rfl (Nat.le_of_ble_eq_true rfl) rfl rfl rfl rfl ?_
          refine ww_if_eq 29 rfl (tgt := 54) rfl (fun c5 => ?_) (fun c5 => ?_)
          · rw [b2i_eq0] at c5
            refine ww_run 32 1 (pc' := 55) (lv' := [(0, .ref 0), (1, .int (nI c)), (2, .int m)]) (st' := [.int 0]) (w' := wMv wi ki mo ho cd sr stk names till sitter on was sat stood rose turn pe (nI C) ru lent J K) (Ps := []) rfl trivial ?_
            refine ww_zret 33 rfl rfl rfl ?_
            exact ⟨by rw [b2i_f (by grind)], rfl⟩
          · rw [b2i_ne0] at c5
            refine ww_run 30 2 (pc' := 55) (lv' := [(0, .ref 0), (1, .int (nI c)), (2, .int m)]) (st' := [.int 1]) (w' := wMv wi ki mo ho cd sr stk names till sitter on was sat stood rose turn pe (nI C) ru lent J K) (Ps := []) rfl trivial ?_
            refine ww_zret 33 rfl rfl rfl ?_
            exact ⟨by rw [b2i_t (by grind)], rfl⟩
set_option maxHeartbeats 4000000 in
set_option maxRecDepth 100000 in
theorem c_X7_lets (wi ki mo ho cd sr stk names till sitter on was sat stood rose turn : Nat → Int32) (pe ch ru lent : Int32) (J : Nat → Int32) (K : Nat → Nat → Int32) (c : Nat) (m : Int32) (hc : c < 6) : Co M_X7_lets 0 0 0 [.ref 0, .int (nI c), .int m] (wMv wi ki mo ho cd sr stk names till sitter on was sat stood rose turn pe ch ru lent J K) (Qi (b2i (mLets ki mo lent c m)) (wMv wi ki mo ho cd sr stk names till sitter on was sat stood rose turn pe ch ru lent J K)) := by
  refine Co.of ok_X7_lets rfl ?_
  refine ww_run 0 3 (pc' := 5) (lv' := [(0, .ref 0), (1, .int (nI c)), (2, .int m)]) (st' := [.int lent, .int (nI c)]) (w' := wMv wi ki mo ho cd sr stk names till sitter on was sat stood rose turn pe ch ru lent J K) (Ps := []) rfl trivial ?_
  refine ww_icmp_eq 3 rfl (tgt := 32) rfl (fun c1 => ?_) (fun c1 => ?_)
  · refine ww_run 18 1 (pc' := 33) (lv' := [(0, .ref 0), (1, .int (nI c)), (2, .int m)]) (st' := [.int 0]) (w' := wMv wi ki mo ho cd sr stk names till sitter on was sat stood rose turn pe ch ru lent J K) (Ps := []) rfl trivial ?_
    refine ww_zret 19 rfl rfl rfl ?_
    exact ⟨by rw [b2i_f (by grind)], rfl⟩
  · refine ww_run 4 5 (pc' := 15) (lv' := [(0, .ref 0), (1, .int (nI c)), (2, .int m)]) (st' := [.int 3, .int (ki (nI c).toNatClampNeg)]) (w' := wMv wi ki mo ho cd sr stk names till sitter on was sat stood rose turn pe ch ru lent J K) (Ps := [vp_in (nI c) 6]) rfl ⟨(vp_in_nI (by omega) (by omega)), trivial⟩ ?_
    rw [nI_clamp (n := c) (by omega)]
    refine ww_icmp_ne 9 rfl (tgt := 28) rfl (fun c2 => ?_) (fun c2 => ?_)
    · refine ww_run 16 2 (pc' := 33) (lv' := [(0, .ref 0), (1, .int (nI c)), (2, .int m)]) (st' := [.int 1]) (w' := wMv wi ki mo ho cd sr stk names till sitter on was sat stood rose turn pe ch ru lent J K) (Ps := []) rfl trivial ?_
      refine ww_zret 19 rfl rfl rfl ?_
      exact ⟨by rw [b2i_t (by grind)], rfl⟩
    · refine ww_run 10 5 (pc' := 25) (lv' := [(0, .ref 0), (1, .int (nI c)), (2, .int m)]) (st' := [.int (mo (nI c).toNatClampNeg), .int m]) (w' := wMv wi ki mo ho cd sr stk names till sitter on was sat stood rose turn pe ch ru lent J K) (Ps := [vp_in (nI c) 6]) rfl ⟨(vp_in_nI (by omega) (by omega)), trivial⟩ ?_
      rw [nI_clamp (n := c) (by omega)]
      refine ww_icmp_ge 15 rfl (tgt := 32) rfl (fun c3 => ?_) (fun c3 => ?_)
      · refine ww_run 18 1 (pc' := 33) (lv' := [(0, .ref 0), (1, .int (nI c)), (2, .int m)]) (st' := [.int 0]) (w' := wMv wi ki mo ho cd sr stk names till sitter on was sat stood rose turn pe ch ru lent J K) (Ps := []) rfl trivial ?_
        refine ww_zret 19 rfl rfl rfl ?_
        exact ⟨by rw [b2i_f (by grind)], rfl⟩
      · refine ww_run 16 2 (pc' := 33) (lv' := [(0, .ref 0), (1, .int (nI c)), (2, .int m)]) (st' := [.int 1]) (w' := wMv wi ki mo ho cd sr stk names till sitter on was sat stood rose turn pe ch ru lent J K) (Ps := []) rfl trivial ?_
        refine ww_zret 19 rfl rfl rfl ?_
        exact ⟨by rw [b2i_t (by grind)], rfl⟩
set_option maxHeartbeats 4000000 in
set_option maxRecDepth 100000 in
theorem c_X7_wants (ki mo ho cd sr stk names till sitter on was sat stood rose turn : Nat → Int32) (pe ch ru lent : Int32) (J : Nat → Int32) (K : Nat → Nat → Int32) (fr lo fa : Nat → Int32) (p : Nat) (m : Int32) (hp : p < 5) : Co M_X7_wants 0 0 0 [.ref 0, .int (nI p), .int m] (wMv (wiF fr lo fa) ki mo ho cd sr stk names till sitter on was sat stood rose turn pe ch ru lent J K) (Qi (b2i (mWants fr on rose p m)) (wMv (wiF fr lo fa) ki mo ho cd sr stk names till sitter on was sat stood rose turn pe ch ru lent J K)) := by
  refine Co.of ok_X7_wants rfl ?_
  refine ww_run 0 7 (pc' := 9) (lv' := [(0, .ref 0), (1, .int (nI p)), (2, .int m)]) (st' := [.int m, .int ((wiF fr lo fa) (3 * (nI p)).toNatClampNeg)]) (w' := wMv (wiF fr lo fa) ki mo ho cd sr stk names till sitter on was sat stood rose turn pe ch ru lent J K) (Ps := [vp_in (3 * (nI p)) 15]) rfl ⟨(by rw [show (3 : Int32) * nI p = nI (3 * p) from pk_mul 3 p]; exact vp_in_nI (by omega) (by omega)), trivial⟩ ?_
  rw [show (3 : Int32) * nI p = nI (3 * p) from pk_mul 3 p]
  rw [nI_clamp (n := (3 * p)) (by omega)]
  rw [wi0]
  refine ww_icmp_gt 7 rfl (tgt := 36) rfl (fun c1 => ?_) (fun c1 => ?_)
  · refine ww_run 22 1 (pc' := 37) (lv' := [(0, .ref 0), (1, .int (nI p)), (2, .int m)]) (st' := [.int 0]) (w' := wMv (wiF fr lo fa) ki mo ho cd sr stk names till sitter on was sat stood rose turn pe ch ru lent J K) (Ps := []) rfl trivial ?_
    refine ww_zret 23 rfl rfl rfl ?_
    exact ⟨by rw [b2i_f (by grind)], rfl⟩
  · refine ww_run 8 5 (pc' := 19) (lv' := [(0, .ref 0), (1, .int (nI p)), (2, .int m)]) (st' := [.int (-1), .int (on (nI p).toNatClampNeg)]) (w' := wMv (wiF fr lo fa) ki mo ho cd sr stk names till sitter on was sat stood rose turn pe ch ru lent J K) (Ps := [vp_in (nI p) 5]) rfl ⟨(vp_in_nI (by omega) (by omega)), trivial⟩ ?_
    rw [nI_clamp (n := p) (by omega)]
    refine ww_icmp_ne 13 rfl (tgt := 36) rfl (fun c2 => ?_) (fun c2 => ?_)
    · refine ww_run 22 1 (pc' := 37) (lv' := [(0, .ref 0), (1, .int (nI p)), (2, .int m)]) (st' := [.int 0]) (w' := wMv (wiF fr lo fa) ki mo ho cd sr stk names till sitter on was sat stood rose turn pe ch ru lent J K) (Ps := []) rfl trivial ?_
      refine ww_zret 23 rfl rfl rfl ?_
      exact ⟨by rw [b2i_f (by grind)], rfl⟩
    · refine ww_run 14 5 (pc' := 29) (lv' := [(0, .ref 0), (1, .int (nI p)), (2, .int m)]) (st' := [.int (-1), .int (rose (nI p).toNatClampNeg)]) (w' := wMv (wiF fr lo fa) ki mo ho cd sr stk names till sitter on was sat stood rose turn pe ch ru lent J K) (Ps := [vp_in (nI p) 5]) rfl ⟨(vp_in_nI (by omega) (by omega)), trivial⟩ ?_
      rw [nI_clamp (n := p) (by omega)]
      refine ww_icmp_ne 19 rfl (tgt := 36) rfl (fun c3 => ?_) (fun c3 => ?_)
      · refine ww_run 22 1 (pc' := 37) (lv' := [(0, .ref 0), (1, .int (nI p)), (2, .int m)]) (st' := [.int 0]) (w' := wMv (wiF fr lo fa) ki mo ho cd sr stk names till sitter on was sat stood rose turn pe ch ru lent J K) (Ps := []) rfl trivial ?_
        refine ww_zret 23 rfl rfl rfl ?_
        exact ⟨by rw [b2i_f (by grind)], rfl⟩
      · refine ww_run 20 2 (pc' := 37) (lv' := [(0, .ref 0), (1, .int (nI p)), (2, .int m)]) (st' := [.int 1]) (w' := wMv (wiF fr lo fa) ki mo ho cd sr stk names till sitter on was sat stood rose turn pe ch ru lent J K) (Ps := []) rfl trivial ?_
        refine ww_zret 23 rfl rfl rfl ?_
        exact ⟨by rw [b2i_t (by grind)], rfl⟩
