theorem nI_ne_m1 {n : Nat} (h : n < 2 ^ 31) : ¬ nI n = -1 := fun e => absurd (nI_pos' h) (by rw [e]; decide)
set_option maxHeartbeats 4000000 in
set_option maxRecDepth 100000 in
theorem l_X7_nextOne_4 {Q : Option Value → List va_E → Prop} {d : Nat} (hd : 0 ≤ d) (wi ki mo ho cd sr stk names till sitter on was sat stood rose turn : Nat → Int32) (ch ru lent : Int32) (J : Nat → Int32) (K : Nat → Nat → Int32) (P : Nat) (hP : P ≤ 5) (KK : WW M_X7_nextOne d Q xz 54 [(0, .ref 0), (1, .int (o2i (bestOf (fun p => decide (¬ turn p = -1)) (fun p b => decide (turn p < turn b)) P))), (2, .int (nI P))] [] (wMv wi ki mo ho cd sr stk names till sitter on was sat stood rose turn (nI P) ch ru lent J K)) :
    ∀ (n i : Nat) , i ≤ P → P + 1 ≤ i + n → WW M_X7_nextOne d Q xz 4 [(0, .ref 0), (1, .int (o2i (bestOf (fun p => decide (¬ turn p = -1)) (fun p b => decide (turn p < turn b)) i))), (2, .int (nI i))] [] (wMv wi ki mo ho cd sr stk names till sitter on was sat stood rose turn (nI P) ch ru lent J K) := by
  intro n
  induction n with
  | zero => intro i; intros; omega
  | succ n ih =>
    intro i hi hn
    refine ww_run 4 3 (pc' := 9) (lv' := [(0, .ref 0), (1, .int (o2i (bestOf (fun p => decide (¬ turn p = -1)) (fun p b => decide (turn p < turn b)) i))), (2, .int (nI i))]) (st' := [.int (nI P), .int (nI i)]) (w' := wMv wi ki mo ho cd sr stk names till sitter on was sat stood rose turn (nI P) ch ru lent J K) (Ps := []) rfl trivial ?_
    refine ww_icmp_ge 7 rfl (tgt := 54) rfl (fun c1 => ?_) (fun c1 => ?_)
    · have c1 : P ≤ i := (nI_leI (a := P) (b := i) (by omega) (by omega)).mp c1
      obtain rfl : i = P := by omega
      exact KK
    · have c1 : ¬ P ≤ i := fun q => c1 ((nI_leI (a := P) (b := i) (by omega) (by omega)).mpr q)
      rcases hb : bestOf (fun p => decide (¬ turn p = -1)) (fun p b => decide (turn p < turn b)) i with _ | b
      · skip
        refine ww_run 8 5 (pc' := 19) (lv' := [(0, .ref 0), (1, .int (-1)), (2, .int (nI i))]) (st' := [.int (-1), .int (turn (nI i).toNatClampNeg)]) (w' := wMv wi ki mo ho cd sr stk names till sitter on was sat stood rose turn (nI P) ch ru lent J K) (Ps := [vp_in (nI i) 5]) rfl ⟨(vp_in_nI (by omega) (by omega)), trivial⟩ ?_
        rw [nI_clamp (n := i) (by omega)]
        refine ww_icmp_eq 13 rfl (tgt := 46) rfl (fun c2 => ?_) (fun c2 => ?_)
        · refine ww_run 28 4 (pc' := 4) (lv' := [(2, .int ((nI i) + 1)), (1, .int (-1)), (0, .ref 0)]) (st' := []) (w' := wMv wi ki mo ho cd sr stk names till sitter on was sat stood rose turn (nI P) ch ru lent J K) (Ps := []) rfl trivial ?_
          rw [nI_1 i]
          refine ww_lv [2, 1, 0] (lv' := [(0, .ref 0), (1, .int (-1)), (2, .int (nI (i + 1)))]) rfl ?_
          have e : bestOf (fun p => decide (¬ turn p = -1)) (fun p b => decide (turn p < turn b)) (i + 1) = none := bestOf_nn hb (decide_eq_false (by grind))
          have h := ih (i + 1) (by omega) (by omega)
          rw [e] at h
          exact h
        · refine ww_run 14 2 (pc' := 24) (lv' := [(0, .ref 0), (1, .int (-1)), (2, .int (nI i))]) (st' := [.int (-1), .int (-1)]) (w' := wMv wi ki mo ho cd sr stk names till sitter on was sat stood rose turn (nI P) ch ru lent J K) (Ps := []) rfl trivial ?_
          refine ww_icmp_eq 16 rfl (tgt := 42) rfl (fun c3 => ?_) (fun c3 => ?_)
          · refine ww_run 26 2 (pc' := 47) (lv' := [(0, .ref 0), (1, .int (-1)), (2, .int (nI i))]) (st' := [.int (nI i)]) (w' := wMv wi ki mo ho cd sr stk names till sitter on was sat stood rose turn (nI P) ch ru lent J K) (Ps := []) rfl trivial ?_
            refine ww_run 29 3 (pc' := 4) (lv' := [(2, .int ((nI i) + 1)), (1, .int (nI i)), (0, .ref 0)]) (st' := []) (w' := wMv wi ki mo ho cd sr stk names till sitter on was sat stood rose turn (nI P) ch ru lent J K) (Ps := []) rfl trivial ?_
            rw [nI_1 i]
            refine ww_lv [2, 1, 0] (lv' := [(0, .ref 0), (1, .int (nI i)), (2, .int (nI (i + 1)))]) rfl ?_
            have e : bestOf (fun p => decide (¬ turn p = -1)) (fun p b => decide (turn p < turn b)) (i + 1) = some i := bestOf_nt hb (decide_eq_true (by grind))
            have h := ih (i + 1) (by omega) (by omega)
            rw [e] at h
            exact h
          · exact absurd c3 (by decide)
      · have hbl := bestOf_lt hb
        refine ww_run 8 5 (pc' := 19) (lv' := [(0, .ref 0), (1, .int (nI b)), (2, .int (nI i))]) (st' := [.int (-1), .int (turn (nI i).toNatClampNeg)]) (w' := wMv wi ki mo ho cd sr stk names till sitter on was sat stood rose turn (nI P) ch ru lent J K) (Ps := [vp_in (nI i) 5]) rfl ⟨(vp_in_nI (by omega) (by omega)), trivial⟩ ?_
        rw [nI_clamp (n := i) (by omega)]
        refine ww_icmp_eq 13 rfl (tgt := 46) rfl (fun c4 => ?_) (fun c4 => ?_)
        · refine ww_run 28 4 (pc' := 4) (lv' := [(2, .int ((nI i) + 1)), (1, .int (nI b)), (0, .ref 0)]) (st' := []) (w' := wMv wi ki mo ho cd sr stk names till sitter on was sat stood rose turn (nI P) ch ru lent J K) (Ps := []) rfl trivial ?_
          rw [nI_1 i]
          refine ww_lv [2, 1, 0] (lv' := [(0, .ref 0), (1, .int (nI b)), (2, .int (nI (i + 1)))]) rfl ?_
          have e : bestOf (fun p => decide (¬ turn p = -1)) (fun p b => decide (turn p < turn b)) (i + 1) = some b := bestOf_sf hb (decide_eq_false (by grind))
          have h := ih (i + 1) (by omega) (by omega)
          rw [e] at h
          exact h
        · refine ww_run 14 2 (pc' := 24) (lv' := [(0, .ref 0), (1, .int (nI b)), (2, .int (nI i))]) (st' := [.int (-1), .int (nI b)]) (w' := wMv wi ki mo ho cd sr stk names till sitter on was sat stood rose turn (nI P) ch ru lent J K) (Ps := []) rfl trivial ?_
          refine ww_icmp_eq 16 rfl (tgt := 42) rfl (fun c5 => ?_) (fun c5 => ?_)
          · exact absurd c5 (nI_ne_m1 (by omega))
          · refine ww_run 17 8 (pc' := 39) (lv' := [(0, .ref 0), (1, .int (nI b)), (2, .int (nI i))]) (st' := [.int (turn (nI b).toNatClampNeg), .int (turn (nI i).toNatClampNeg)]) (w' := wMv wi ki mo ho cd sr stk names till sitter on was sat stood rose turn (nI P) ch ru lent J K) (Ps := [vp_in (nI i) 5, vp_in (nI b) 5]) rfl ⟨(vp_in_nI (by omega) (by omega)), (vp_in_nI (by omega) (by omega)), trivial⟩ ?_
            rw [nI_clamp (n := b) (by omega)]
            rw [nI_clamp (n := i) (by omega)]
            refine ww_icmp_ge 25 rfl (tgt := 46) rfl (fun c6 => ?_) (fun c6 => ?_)
            · refine ww_run 28 4 (pc' := 4) (lv' := [(2, .int ((nI i) + 1)), (1, .int (nI b)), (0, .ref 0)]) (st' := []) (w' := wMv wi ki mo ho cd sr stk names till sitter on was sat stood rose turn (nI P) ch ru lent J K) (Ps := []) rfl trivial ?_
              rw [nI_1 i]
              refine ww_lv [2, 1, 0] (lv' := [(0, .ref 0), (1, .int (nI b)), (2, .int (nI (i + 1)))]) rfl ?_
              have e : bestOf (fun p => decide (¬ turn p = -1)) (fun p b => decide (turn p < turn b)) (i + 1) = some b := bestOf_sa hb (decide_eq_false (by grind))
              have h := ih (i + 1) (by omega) (by omega)
              rw [e] at h
              exact h
            · refine ww_run 26 2 (pc' := 47) (lv' := [(0, .ref 0), (1, .int (nI b)), (2, .int (nI i))]) (st' := [.int (nI i)]) (w' := wMv wi ki mo ho cd sr stk names till sitter on was sat stood rose turn (nI P) ch ru lent J K) (Ps := []) rfl trivial ?_
              refine ww_run 29 3 (pc' := 4) (lv' := [(2, .int ((nI i) + 1)), (1, .int (nI i)), (0, .ref 0)]) (st' := []) (w' := wMv wi ki mo ho cd sr stk names till sitter on was sat stood rose turn (nI P) ch ru lent J K) (Ps := []) rfl trivial ?_
              rw [nI_1 i]
              refine ww_lv [2, 1, 0] (lv' := [(0, .ref 0), (1, .int (nI i)), (2, .int (nI (i + 1)))]) rfl ?_
              have e : bestOf (fun p => decide (¬ turn p = -1)) (fun p b => decide (turn p < turn b)) (i + 1) = some i := bestOf_st hb (decide_eq_true (by grind)) (decide_eq_true (by grind))
              have h := ih (i + 1) (by omega) (by omega)
              rw [e] at h
              exact h
set_option maxHeartbeats 4000000 in
set_option maxRecDepth 100000 in
theorem c_X7_nextOne (wi ki mo ho cd sr stk names till sitter on was sat stood rose turn : Nat → Int32) (ch ru lent : Int32) (J : Nat → Int32) (K : Nat → Nat → Int32) (P : Nat) (hP : P ≤ 5) : Co M_X7_nextOne 0 0 0 [.ref 0] (wMv wi ki mo ho cd sr stk names till sitter on was sat stood rose turn (nI P) ch ru lent J K) (Qi (o2i (bestOf (fun p => decide (¬ turn p = -1)) (fun p b => decide (turn p < turn b)) P)) (wMv wi ki mo ho cd sr stk names till sitter on was sat stood rose turn (nI P) ch ru lent J K)) := by
  refine Co.of ok_X7_nextOne rfl ?_
  refine ww_run 0 4 (pc' := 4) (lv' := [(2, .int 0), (1, .int (-1)), (0, .ref 0)]) (st' := []) (w' := wMv wi ki mo ho cd sr stk names till sitter on was sat stood rose turn (nI P) ch ru lent J K) (Ps := []) rfl trivial ?_
  refine ww_lv [2, 1, 0] (lv' := [(0, .ref 0), (1, .int (-1)), (2, .int 0)]) rfl ?_
  refine l_X7_nextOne_4 (by omega) wi ki mo ho cd sr stk names till sitter on was sat stood rose turn ch ru lent J K P hP ?_ (P + 1) 0 (by omega) (by omega)
  refine ww_run 32 1 (pc' := 55) (lv' := [(0, .ref 0), (1, .int (o2i (bestOf (fun p => decide (¬ turn p = -1)) (fun p b => decide (turn p < turn b)) P))), (2, .int (nI P))]) (st' := [.int (o2i (bestOf (fun p => decide (¬ turn p = -1)) (fun p b => decide (turn p < turn b)) P))]) (w' := wMv wi ki mo ho cd sr stk names till sitter on was sat stood rose turn (nI P) ch ru lent J K) (Ps := []) rfl trivial ?_
  refine ww_iret 33 rfl rfl ?_
  exact ⟨rfl, rfl⟩
set_option maxHeartbeats 4000000 in
set_option maxRecDepth 100000 in
theorem l_X7_takes_4 {Q : Option Value → List va_E → Prop} {d : Nat} (hd : 4 ≤ d) (wi ki mo cd sr stk names till sitter on was sat stood rose turn : Nat → Int32) (pe ru lent : Int32) (J : Nat → Int32) (K : Nat → Nat → Int32) (sty wset wfor m : Int32) (C : Nat) (hC : C ≤ 6) (KK : WW M_X7_takes d Q xz 139 [(0, .ref 0), (1, .int m), (2, .int (o2i (bestOf (fun c => decide (mFree C ki mo till sitter lent c m)) (fun c b => decide (eAhead sty till c b)) C))), (3, .int (nI C))] [] (wMv wi ki mo (hoF sty wset wfor) cd sr stk names till sitter on was sat stood rose turn pe (nI C) ru lent J K)) :
    ∀ (n i : Nat) , i ≤ C → C + 1 ≤ i + n → WW M_X7_takes d Q xz 4 [(0, .ref 0), (1, .int m), (2, .int (o2i (bestOf (fun c => decide (mFree C ki mo till sitter lent c m)) (fun c b => decide (eAhead sty till c b)) i))), (3, .int (nI i))] [] (wMv wi ki mo (hoF sty wset wfor) cd sr stk names till sitter on was sat stood rose turn pe (nI C) ru lent J K) := by
  intro n
  induction n with
  | zero => intro i; intros; omega
  | succ n ih =>
    intro i hi hn
    refine ww_run 4 3 (pc' := 9) (lv' := [(0, .ref 0), (1, .int m), (2, .int (o2i (bestOf (fun c => decide (mFree C ki mo till sitter lent c m)) (fun c b => decide (eAhead sty till c b)) i))), (3, .int (nI i))]) (st' := [.int (nI C), .int (nI i)]) (w' := wMv wi ki mo (hoF sty wset wfor) cd sr stk names till sitter on was sat stood rose turn pe (nI C) ru lent J K) (Ps := []) rfl trivial ?_
    refine ww_icmp_ge 7 rfl (tgt := 139) rfl (fun c1 => ?_) (fun c1 => ?_)
    · have c1 : C ≤ i := (nI_leI (a := C) (b := i) (by omega) (by omega)).mp c1
      obtain rfl : i = C := by omega
      exact KK
    · have c1 : ¬ C ≤ i := fun q => c1 ((nI_leI (a := C) (b := i) (by omega) (by omega)).mpr q)
      rcases hb : bestOf (fun c => decide (mFree C ki mo till sitter lent c m)) (fun c b => decide (eAhead sty till c b)) i with _ | b
      · skip
        refine ww_run 8 3 (pc' := 15) (lv' := [(0, .ref 0), (1, .int m), (2, .int (-1)), (3, .int (nI i))]) (st' := [.int m, .int (nI i), .ref 0]) (w' := wMv wi ki mo (hoF sty wset wfor) cd sr stk names till sitter on was sat stood rose turn pe (nI C) ru lent J K) (Ps := []) rfl trivial ?_
        refine ww_cVi 11 ok_X7_isWarm (c_X7_isWarm wi ki mo (hoF sty wset wfor) cd sr stk names till sitter on was sat stood rose turn pe ru lent J K i m C hC (by omega)) lk_X7_211 rfl (by omega) (rest := []) rfl (Nat.le_of_ble_eq_true rfl) rfl rfl rfl rfl ?_
        refine ww_if_eq 12 rfl (tgt := 44) rfl (fun c2 => ?_) (fun c2 => ?_)
        · rw [b2i_eq0] at c2
          refine ww_run 26 4 (pc' := 49) (lv' := [(4, .int 0), (0, .ref 0), (1, .int m), (2, .int (-1)), (3, .int (nI i))]) (st' := [.int (-1), .int (-1)]) (w' := wMv wi ki mo (hoF sty wset wfor) cd sr stk names till sitter on was sat stood rose turn pe (nI C) ru lent J K) (Ps := []) rfl trivial ?_
          refine ww_icmp_eq 30 rfl (tgt := 109) rfl (fun c3 => ?_) (fun c3 => ?_)
          · refine ww_run 64 3 (pc' := 114) (lv' := [(5, .int 0), (4, .int 0), (0, .ref 0), (1, .int m), (2, .int (-1)), (3, .int (nI i))]) (st' := [.int 0]) (w' := wMv wi ki mo (hoF sty wset wfor) cd sr stk names till sitter on was sat stood rose turn pe (nI C) ru lent J K) (Ps := []) rfl trivial ?_
            refine ww_if_eq 67 rfl (tgt := 131) rfl (fun c4 => ?_) (fun c4 => ?_)
            · refine ww_run 75 4 (pc' := 4) (lv' := [(3, .int ((nI i) + 1)), (2, .int (-1)), (5, .int 0), (4, .int 0), (0, .ref 0), (1, .int m)]) (st' := []) (w' := wMv wi ki mo (hoF sty wset wfor) cd sr stk names till sitter on was sat stood rose turn pe (nI C) ru lent J K) (Ps := []) rfl trivial ?_
              rw [nI_1 i]
              refine ww_lv [4, 5, 1, 0] (lv' := [(0, .ref 0), (1, .int m), (2, .int (-1)), (3, .int (nI (i + 1)))]) rfl ?_
              have e : bestOf (fun c => decide (mFree C ki mo till sitter lent c m)) (fun c b => decide (eAhead sty till c b)) (i + 1) = none := bestOf_nn hb (decide_eq_false (by grind))
              have h := ih (i + 1) (by omega) (by omega)
              rw [e] at h
              exact h
            · exact absurd c4 (by decide)
          · exact absurd c3 (by decide)
        · rw [b2i_ne0] at c2
          refine ww_run 13 5 (pc' := 28) (lv' := [(0, .ref 0), (1, .int m), (2, .int (-1)), (3, .int (nI i))]) (st' := [.int (-1), .int (sitter (nI i).toNatClampNeg)]) (w' := wMv wi ki mo (hoF sty wset wfor) cd sr stk names till sitter on was sat stood rose turn pe (nI C) ru lent J K) (Ps := [vp_in (nI i) 6]) rfl ⟨(vp_in_nI (by omega) (by omega)), trivial⟩ ?_
          rw [nI_clamp (n := i) (by omega)]
          refine ww_icmp_ne 18 rfl (tgt := 44) rfl (fun c5 => ?_) (fun c5 => ?_)
          · refine ww_run 26 4 (pc' := 49) (lv' := [(4, .int 0), (0, .ref 0), (1, .int m), (2, .int (-1)), (3, .int (nI i))]) (st' := [.int (-1), .int (-1)]) (w' := wMv wi ki mo (hoF sty wset wfor) cd sr stk names till sitter on was sat stood rose turn pe (nI C) ru lent J K) (Ps := []) rfl trivial ?_
            refine ww_icmp_eq 30 rfl (tgt := 109) rfl (fun c6 => ?_) (fun c6 => ?_)
            · refine ww_run 64 3 (pc' := 114) (lv' := [(5, .int 0), (4, .int 0), (0, .ref 0), (1, .int m), (2, .int (-1)), (3, .int (nI i))]) (st' := [.int 0]) (w' := wMv wi ki mo (hoF sty wset wfor) cd sr stk names till sitter on was sat stood rose turn pe (nI C) ru lent J K) (Ps := []) rfl trivial ?_
              refine ww_if_eq 67 rfl (tgt := 131) rfl (fun c7 => ?_) (fun c7 => ?_)
              · refine ww_run 75 4 (pc' := 4) (lv' := [(3, .int ((nI i) + 1)), (2, .int (-1)), (5, .int 0), (4, .int 0), (0, .ref 0), (1, .int m)]) (st' := []) (w' := wMv wi ki mo (hoF sty wset wfor) cd sr stk names till sitter on was sat stood rose turn pe (nI C) ru lent J K) (Ps := []) rfl trivial ?_
                rw [nI_1 i]
                refine ww_lv [4, 5, 1, 0] (lv' := [(0, .ref 0), (1, .int m), (2, .int (-1)), (3, .int (nI (i + 1)))]) rfl ?_
                have e : bestOf (fun c => decide (mFree C ki mo till sitter lent c m)) (fun c b => decide (eAhead sty till c b)) (i + 1) = none := bestOf_nn hb (decide_eq_false (by grind))
                have h := ih (i + 1) (by omega) (by omega)
                rw [e] at h
                exact h
              · exact absurd c7 (by decide)
            · exact absurd c6 (by decide)
          · refine ww_run 19 3 (pc' := 34) (lv' := [(0, .ref 0), (1, .int m), (2, .int (-1)), (3, .int (nI i))]) (st' := [.int m, .int (nI i), .ref 0]) (w' := wMv wi ki mo (hoF sty wset wfor) cd sr stk names till sitter on was sat stood rose turn pe (nI C) ru lent J K) (Ps := []) rfl trivial ?_
            refine ww_cVi 22 ok_X7_lets (c_X7_lets wi ki mo (hoF sty wset wfor) cd sr stk names till sitter on was sat stood rose turn pe (nI C) ru lent J K i m (by omega)) lk_X7_214 rfl (by omega) (rest := []) rfl (Nat.le_of_ble_eq_true rfl) rfl rfl rfl rfl ?_
            refine ww_if_eq 23 rfl (tgt := 44) rfl (fun c8 => ?_) (fun c8 => ?_)
            · rw [b2i_eq0] at c8
              refine ww_run 26 4 (pc' := 49) (lv' := [(4, .int 0), (0, .ref 0), (1, .int m), (2, .int (-1)), (3, .int (nI i))]) (st' := [.int (-1), .int (-1)]) (w' := wMv wi ki mo (hoF sty wset wfor) cd sr stk names till sitter on was sat stood rose turn pe (nI C) ru lent J K) (Ps := []) rfl trivial ?_
              refine ww_icmp_eq 30 rfl (tgt := 109) rfl (fun c9 => ?_) (fun c9 => ?_)
              · refine ww_run 64 3 (pc' := 114) (lv' := [(5, .int 0), (4, .int 0), (0, .ref 0), (1, .int m), (2, .int (-1)), (3, .int (nI i))]) (st' := [.int 0]) (w' := wMv wi ki mo (hoF sty wset wfor) cd sr stk names till sitter on was sat stood rose turn pe (nI C) ru lent J K) (Ps := []) rfl trivial ?_
                refine ww_if_eq 67 rfl (tgt := 131) rfl (fun c10 => ?_) (fun c10 => ?_)
                · refine ww_run 75 4 (pc' := 4) (lv' := [(3, .int ((nI i) + 1)), (2, .int (-1)), (5, .int 0), (4, .int 0), (0, .ref 0), (1, .int m)]) (st' := []) (w' := wMv wi ki mo (hoF sty wset wfor) cd sr stk names till sitter on was sat stood rose turn pe (nI C) ru lent J K) (Ps := []) rfl trivial ?_
                  rw [nI_1 i]
                  refine ww_lv [4, 5, 1, 0] (lv' := [(0, .ref 0), (1, .int m), (2, .int (-1)), (3, .int (nI (i + 1)))]) rfl ?_
                  have e : bestOf (fun c => decide (mFree C ki mo till sitter lent c m)) (fun c b => decide (eAhead sty till c b)) (i + 1) = none := bestOf_nn hb (decide_eq_false (by grind))
                  have h := ih (i + 1) (by omega) (by omega)
                  rw [e] at h
                  exact h
                · exact absurd c10 (by decide)
              · exact absurd c9 (by decide)
            · rw [b2i_ne0] at c8
              refine ww_run 24 2 (pc' := 45) (lv' := [(0, .ref 0), (1, .int m), (2, .int (-1)), (3, .int (nI i))]) (st' := [.int 1]) (w' := wMv wi ki mo (hoF sty wset wfor) cd sr stk names till sitter on was sat stood rose turn pe (nI C) ru lent J K) (Ps := []) rfl trivial ?_
              refine ww_run 27 3 (pc' := 49) (lv' := [(4, .int 1), (0, .ref 0), (1, .int m), (2, .int (-1)), (3, .int (nI i))]) (st' := [.int (-1), .int (-1)]) (w' := wMv wi ki mo (hoF sty wset wfor) cd sr stk names till sitter on was sat stood rose turn pe (nI C) ru lent J K) (Ps := []) rfl trivial ?_
              refine ww_icmp_eq 30 rfl (tgt := 109) rfl (fun c11 => ?_) (fun c11 => ?_)
              · refine ww_run 64 3 (pc' := 114) (lv' := [(5, .int 0), (4, .int 1), (0, .ref 0), (1, .int m), (2, .int (-1)), (3, .int (nI i))]) (st' := [.int 1]) (w' := wMv wi ki mo (hoF sty wset wfor) cd sr stk names till sitter on was sat stood rose turn pe (nI C) ru lent J K) (Ps := []) rfl trivial ?_
                refine ww_if_eq 67 rfl (tgt := 131) rfl (fun c12 => ?_) (fun c12 => ?_)
                · exact absurd c12 (by decide)
                · refine ww_run 68 2 (pc' := 119) (lv' := [(5, .int 0), (4, .int 1), (0, .ref 0), (1, .int m), (2, .int (-1)), (3, .int (nI i))]) (st' := [.int (-1), .int (-1)]) (w' := wMv wi ki mo (hoF sty wset wfor) cd sr stk names till sitter on was sat stood rose turn pe (nI C) ru lent J K) (Ps := []) rfl trivial ?_
                  refine ww_icmp_eq 70 rfl (tgt := 127) rfl (fun c13 => ?_) (fun c13 => ?_)
                  · refine ww_run 73 2 (pc' := 132) (lv' := [(5, .int 0), (4, .int 1), (0, .ref 0), (1, .int m), (2, .int (-1)), (3, .int (nI i))]) (st' := [.int (nI i)]) (w' := wMv wi ki mo (hoF sty wset wfor) cd sr stk names till sitter on was sat stood rose turn pe (nI C) ru lent J K) (Ps := []) rfl trivial ?_
                    refine ww_run 76 3 (pc' := 4) (lv' := [(3, .int ((nI i) + 1)), (2, .int (nI i)), (5, .int 0), (4, .int 1), (0, .ref 0), (1, .int m)]) (st' := []) (w' := wMv wi ki mo (hoF sty wset wfor) cd sr stk names till sitter on was sat stood rose turn pe (nI C) ru lent J K) (Ps := []) rfl trivial ?_
                    rw [nI_1 i]
                    refine ww_lv [4, 5, 1, 0] (lv' := [(0, .ref 0), (1, .int m), (2, .int (nI i)), (3, .int (nI (i + 1)))]) rfl ?_
                    have e : bestOf (fun c => decide (mFree C ki mo till sitter lent c m)) (fun c b => decide (eAhead sty till c b)) (i + 1) = some i := bestOf_nt hb (decide_eq_true (by grind))
                    have h := ih (i + 1) (by omega) (by omega)
                    rw [e] at h
                    exact h
                  · exact absurd c13 (by decide)
              · exact absurd c11 (by decide)
      · have hbl := bestOf_lt hb
        refine ww_run 8 3 (pc' := 15) (lv' := [(0, .ref 0), (1, .int m), (2, .int (nI b)), (3, .int (nI i))]) (st' := [.int m, .int (nI i), .ref 0]) (w' := wMv wi ki mo (hoF sty wset wfor) cd sr stk names till sitter on was sat stood rose turn pe (nI C) ru lent J K) (Ps := []) rfl trivial ?_
        refine ww_cVi 11 ok_X7_isWarm (c_X7_isWarm wi ki mo (hoF sty wset wfor) cd sr stk names till sitter on was sat stood rose turn pe ru lent J K i m C hC (by omega)) lk_X7_211 rfl (by omega) (rest := []) rfl (Nat.le_of_ble_eq_true rfl) rfl rfl rfl rfl ?_
        refine ww_if_eq 12 rfl (tgt := 44) rfl (fun c14 => ?_) (fun c14 => ?_)
        · rw [b2i_eq0] at c14
          refine ww_run 26 4 (pc' := 49) (lv' := [(4, .int 0), (0, .ref 0), (1, .int m), (2, .int (nI b)), (3, .int (nI i))]) (st' := [.int (-1), .int (nI b)]) (w' := wMv wi ki mo (hoF sty wset wfor) cd sr stk names till sitter on was sat stood rose turn pe (nI C) ru lent J K) (Ps := []) rfl trivial ?_
          refine ww_icmp_eq 30 rfl (tgt := 109) rfl (fun c15 => ?_) (fun c15 => ?_)
          · exact absurd c15 (nI_ne_m1 (by omega))
          · refine ww_run 31 5 (pc' := 59) (lv' := [(4, .int 0), (0, .ref 0), (1, .int m), (2, .int (nI b)), (3, .int (nI i))]) (st' := [.int 1, .int sty]) (w' := wMv wi ki mo (hoF sty wset wfor) cd sr stk names till sitter on was sat stood rose turn pe (nI C) ru lent J K) (Ps := [vp_in 0 3]) rfl ⟨(vp_in_nI (n := 0) (by decide) (by decide)), trivial⟩ ?_
            refine ww_icmp_ne 36 rfl (tgt := 80) rfl (fun c16 => ?_) (fun c16 => ?_)
            · refine ww_run 47 5 (pc' := 87) (lv' := [(4, .int 0), (0, .ref 0), (1, .int m), (2, .int (nI b)), (3, .int (nI i))]) (st' := [.int 2, .int sty]) (w' := wMv wi ki mo (hoF sty wset wfor) cd sr stk names till sitter on was sat stood rose turn pe (nI C) ru lent J K) (Ps := [vp_in 0 3]) rfl ⟨(vp_in_nI (n := 0) (by decide) (by decide)), trivial⟩ ?_
              refine ww_icmp_ne 52 rfl (tgt := 109) rfl (fun c17 => ?_) (fun c17 => ?_)
              · refine ww_run 64 3 (pc' := 114) (lv' := [(5, .int 0), (4, .int 0), (0, .ref 0), (1, .int m), (2, .int (nI b)), (3, .int (nI i))]) (st' := [.int 0]) (w' := wMv wi ki mo (hoF sty wset wfor) cd sr stk names till sitter on was sat stood rose turn pe (nI C) ru lent J K) (Ps := []) rfl trivial ?_
                refine ww_if_eq 67 rfl (tgt := 131) rfl (fun c18 => ?_) (fun c18 => ?_)
                · refine ww_run 75 4 (pc' := 4) (lv' := [(3, .int ((nI i) + 1)), (2, .int (nI b)), (5, .int 0), (4, .int 0), (0, .ref 0), (1, .int m)]) (st' := []) (w' := wMv wi ki mo (hoF sty wset wfor) cd sr stk names till sitter on was sat stood rose turn pe (nI C) ru lent J K) (Ps := []) rfl trivial ?_
                  rw [nI_1 i]
                  refine ww_lv [4, 5, 1, 0] (lv' := [(0, .ref 0), (1, .int m), (2, .int (nI b)), (3, .int (nI (i + 1)))]) rfl ?_
                  have e : bestOf (fun c => decide (mFree C ki mo till sitter lent c m)) (fun c b => decide (eAhead sty till c b)) (i + 1) = some b := bestOf_sf hb (decide_eq_false (by grind))
                  have h := ih (i + 1) (by omega) (by omega)
                  rw [e] at h
                  exact h
                · exact absurd c18 (by decide)
              · refine ww_run 53 8 (pc' := 102) (lv' := [(4, .int 0), (0, .ref 0), (1, .int m), (2, .int (nI b)), (3, .int (nI i))]) (st' := [.int (till (nI b).toNatClampNeg), .int (till (nI i).toNatClampNeg)]) (w' := wMv wi ki mo (hoF sty wset wfor) cd sr stk names till sitter on was sat stood rose turn pe (nI C) ru lent J K) (Ps := [vp_in (nI i) 6, vp_in (nI b) 6]) rfl ⟨(vp_in_nI (by omega) (by omega)), (vp_in_nI (by omega) (by omega)), trivial⟩ ?_
                rw [nI_clamp (n := b) (by omega)]
                rw [nI_clamp (n := i) (by omega)]
                refine ww_icmp_ge 61 rfl (tgt := 109) rfl (fun c19 => ?_) (fun c19 => ?_)
                · refine ww_run 64 3 (pc' := 114) (lv' := [(5, .int 0), (4, .int 0), (0, .ref 0), (1, .int m), (2, .int (nI b)), (3, .int (nI i))]) (st' := [.int 0]) (w' := wMv wi ki mo (hoF sty wset wfor) cd sr stk names till sitter on was sat stood rose turn pe (nI C) ru lent J K) (Ps := []) rfl trivial ?_
                  refine ww_if_eq 67 rfl (tgt := 131) rfl (fun c20 => ?_) (fun c20 => ?_)
                  · refine ww_run 75 4 (pc' := 4) (lv' := [(3, .int ((nI i) + 1)), (2, .int (nI b)), (5, .int 0), (4, .int 0), (0, .ref 0), (1, .int m)]) (st' := []) (w' := wMv wi ki mo (hoF sty wset wfor) cd sr stk names till sitter on was sat stood rose turn pe (nI C) ru lent J K) (Ps := []) rfl trivial ?_
                    rw [nI_1 i]
                    refine ww_lv [4, 5, 1, 0] (lv' := [(0, .ref 0), (1, .int m), (2, .int (nI b)), (3, .int (nI (i + 1)))]) rfl ?_
                    have e : bestOf (fun c => decide (mFree C ki mo till sitter lent c m)) (fun c b => decide (eAhead sty till c b)) (i + 1) = some b := bestOf_sf hb (decide_eq_false (by grind))
                    have h := ih (i + 1) (by omega) (by omega)
                    rw [e] at h
                    exact h
                  · exact absurd c20 (by decide)
                · refine ww_run 62 2 (pc' := 110) (lv' := [(4, .int 0), (0, .ref 0), (1, .int m), (2, .int (nI b)), (3, .int (nI i))]) (st' := [.int 1]) (w' := wMv wi ki mo (hoF sty wset wfor) cd sr stk names till sitter on was sat stood rose turn pe (nI C) ru lent J K) (Ps := []) rfl trivial ?_
                  refine ww_run 65 2 (pc' := 114) (lv' := [(5, .int 1), (4, .int 0), (0, .ref 0), (1, .int m), (2, .int (nI b)), (3, .int (nI i))]) (st' := [.int 0]) (w' := wMv wi ki mo (hoF sty wset wfor) cd sr stk names till sitter on was sat stood rose turn pe (nI C) ru lent J K) (Ps := []) rfl trivial ?_
                  refine ww_if_eq 67 rfl (tgt := 131) rfl (fun c21 => ?_) (fun c21 => ?_)
                  · refine ww_run 75 4 (pc' := 4) (lv' := [(3, .int ((nI i) + 1)), (2, .int (nI b)), (5, .int 1), (4, .int 0), (0, .ref 0), (1, .int m)]) (st' := []) (w' := wMv wi ki mo (hoF sty wset wfor) cd sr stk names till sitter on was sat stood rose turn pe (nI C) ru lent J K) (Ps := []) rfl trivial ?_
                    rw [nI_1 i]
                    refine ww_lv [4, 5, 1, 0] (lv' := [(0, .ref 0), (1, .int m), (2, .int (nI b)), (3, .int (nI (i + 1)))]) rfl ?_
                    have e : bestOf (fun c => decide (mFree C ki mo till sitter lent c m)) (fun c b => decide (eAhead sty till c b)) (i + 1) = some b := bestOf_sf hb (decide_eq_false (by grind))
                    have h := ih (i + 1) (by omega) (by omega)
                    rw [e] at h
                    exact h
                  · exact absurd c21 (by decide)
            · refine ww_run 37 8 (pc' := 74) (lv' := [(4, .int 0), (0, .ref 0), (1, .int m), (2, .int (nI b)), (3, .int (nI i))]) (st' := [.int (till (nI b).toNatClampNeg), .int (till (nI i).toNatClampNeg)]) (w' := wMv wi ki mo (hoF sty wset wfor) cd sr stk names till sitter on was sat stood rose turn pe (nI C) ru lent J K) (Ps := [vp_in (nI i) 6, vp_in (nI b) 6]) rfl ⟨(vp_in_nI (by omega) (by omega)), (vp_in_nI (by omega) (by omega)), trivial⟩ ?_
              rw [nI_clamp (n := b) (by omega)]
              rw [nI_clamp (n := i) (by omega)]
              refine ww_icmp_le 45 rfl (tgt := 109) rfl (fun c22 => ?_) (fun c22 => ?_)
              · refine ww_run 64 3 (pc' := 114) (lv' := [(5, .int 0), (4, .int 0), (0, .ref 0), (1, .int m), (2, .int (nI b)), (3, .int (nI i))]) (st' := [.int 0]) (w' := wMv wi ki mo (hoF sty wset wfor) cd sr stk names till sitter on was sat stood rose turn pe (nI C) ru lent J K) (Ps := []) rfl trivial ?_
                refine ww_if_eq 67 rfl (tgt := 131) rfl (fun c23 => ?_) (fun c23 => ?_)
                · refine ww_run 75 4 (pc' := 4) (lv' := [(3, .int ((nI i) + 1)), (2, .int (nI b)), (5, .int 0), (4, .int 0), (0, .ref 0), (1, .int m)]) (st' := []) (w' := wMv wi ki mo (hoF sty wset wfor) cd sr stk names till sitter on was sat stood rose turn pe (nI C) ru lent J K) (Ps := []) rfl trivial ?_
                  rw [nI_1 i]
                  refine ww_lv [4, 5, 1, 0] (lv' := [(0, .ref 0), (1, .int m), (2, .int (nI b)), (3, .int (nI (i + 1)))]) rfl ?_
                  have e : bestOf (fun c => decide (mFree C ki mo till sitter lent c m)) (fun c b => decide (eAhead sty till c b)) (i + 1) = some b := bestOf_sf hb (decide_eq_false (by grind))
                  have h := ih (i + 1) (by omega) (by omega)
                  rw [e] at h
                  exact h
                · exact absurd c23 (by decide)
              · refine ww_run 46 1 (pc' := 105) (lv' := [(4, .int 0), (0, .ref 0), (1, .int m), (2, .int (nI b)), (3, .int (nI i))]) (st' := []) (w' := wMv wi ki mo (hoF sty wset wfor) cd sr stk names till sitter on was sat stood rose turn pe (nI C) ru lent J K) (Ps := []) rfl trivial ?_
                refine ww_run 62 2 (pc' := 110) (lv' := [(4, .int 0), (0, .ref 0), (1, .int m), (2, .int (nI b)), (3, .int (nI i))]) (st' := [.int 1]) (w' := wMv wi ki mo (hoF sty wset wfor) cd sr stk names till sitter on was sat stood rose turn pe (nI C) ru lent J K) (Ps := []) rfl trivial ?_
                refine ww_run 65 2 (pc' := 114) (lv' := [(5, .int 1), (4, .int 0), (0, .ref 0), (1, .int m), (2, .int (nI b)), (3, .int (nI i))]) (st' := [.int 0]) (w' := wMv wi ki mo (hoF sty wset wfor) cd sr stk names till sitter on was sat stood rose turn pe (nI C) ru lent J K) (Ps := []) rfl trivial ?_
                refine ww_if_eq 67 rfl (tgt := 131) rfl (fun c24 => ?_) (fun c24 => ?_)
                · refine ww_run 75 4 (pc' := 4) (lv' := [(3, .int ((nI i) + 1)), (2, .int (nI b)), (5, .int 1), (4, .int 0), (0, .ref 0), (1, .int m)]) (st' := []) (w' := wMv wi ki mo (hoF sty wset wfor) cd sr stk names till sitter on was sat stood rose turn pe (nI C) ru lent J K) (Ps := []) rfl trivial ?_
                  rw [nI_1 i]
                  refine ww_lv [4, 5, 1, 0] (lv' := [(0, .ref 0), (1, .int m), (2, .int (nI b)), (3, .int (nI (i + 1)))]) rfl ?_
                  have e : bestOf (fun c => decide (mFree C ki mo till sitter lent c m)) (fun c b => decide (eAhead sty till c b)) (i + 1) = some b := bestOf_sf hb (decide_eq_false (by grind))
                  have h := ih (i + 1) (by omega) (by omega)
                  rw [e] at h
                  exact h
                · exact absurd c24 (by decide)
        · rw [b2i_ne0] at c14
          refine ww_run 13 5 (pc' := 28) (lv' := [(0, .ref 0), (1, .int m), (2, .int (nI b)), (3, .int (nI i))]) (st' := [.int (-1), .int (sitter (nI i).toNatClampNeg)]) (w' := wMv wi ki mo (hoF sty wset wfor) cd sr stk names till sitter on was sat stood rose turn pe (nI C) ru lent J K) (Ps := [vp_in (nI i) 6]) rfl ⟨(vp_in_nI (by omega) (by omega)), trivial⟩ ?_
          rw [nI_clamp (n := i) (by omega)]
          refine ww_icmp_ne 18 rfl (tgt := 44) rfl (fun c25 => ?_) (fun c25 => ?_)
          · refine ww_run 26 4 (pc' := 49) (lv' := [(4, .int 0), (0, .ref 0), (1, .int m), (2, .int (nI b)), (3, .int (nI i))]) (st' := [.int (-1), .int (nI b)]) (w' := wMv wi ki mo (hoF sty wset wfor) cd sr stk names till sitter on was sat stood rose turn pe (nI C) ru lent J K) (Ps := []) rfl trivial ?_
            refine ww_icmp_eq 30 rfl (tgt := 109) rfl (fun c26 => ?_) (fun c26 => ?_)
            · exact absurd c26 (nI_ne_m1 (by omega))
            · refine ww_run 31 5 (pc' := 59) (lv' := [(4, .int 0), (0, .ref 0), (1, .int m), (2, .int (nI b)), (3, .int (nI i))]) (st' := [.int 1, .int sty]) (w' := wMv wi ki mo (hoF sty wset wfor) cd sr stk names till sitter on was sat stood rose turn pe (nI C) ru lent J K) (Ps := [vp_in 0 3]) rfl ⟨(vp_in_nI (n := 0) (by decide) (by decide)), trivial⟩ ?_
              refine ww_icmp_ne 36 rfl (tgt := 80) rfl (fun c27 => ?_) (fun c27 => ?_)
              · refine ww_run 47 5 (pc' := 87) (lv' := [(4, .int 0), (0, .ref 0), (1, .int m), (2, .int (nI b)), (3, .int (nI i))]) (st' := [.int 2, .int sty]) (w' := wMv wi ki mo (hoF sty wset wfor) cd sr stk names till sitter on was sat stood rose turn pe (nI C) ru lent J K) (Ps := [vp_in 0 3]) rfl ⟨(vp_in_nI (n := 0) (by decide) (by decide)), trivial⟩ ?_
                refine ww_icmp_ne 52 rfl (tgt := 109) rfl (fun c28 => ?_) (fun c28 => ?_)
                · refine ww_run 64 3 (pc' := 114) (lv' := [(5, .int 0), (4, .int 0), (0, .ref 0), (1, .int m), (2, .int (nI b)), (3, .int (nI i))]) (st' := [.int 0]) (w' := wMv wi ki mo (hoF sty wset wfor) cd sr stk names till sitter on was sat stood rose turn pe (nI C) ru lent J K) (Ps := []) rfl trivial ?_
                  refine ww_if_eq 67 rfl (tgt := 131) rfl (fun c29 => ?_) (fun c29 => ?_)
                  · refine ww_run 75 4 (pc' := 4) (lv' := [(3, .int ((nI i) + 1)), (2, .int (nI b)), (5, .int 0), (4, .int 0), (0, .ref 0), (1, .int m)]) (st' := []) (w' := wMv wi ki mo (hoF sty wset wfor) cd sr stk names till sitter on was sat stood rose turn pe (nI C) ru lent J K) (Ps := []) rfl trivial ?_
                    rw [nI_1 i]
                    refine ww_lv [4, 5, 1, 0] (lv' := [(0, .ref 0), (1, .int m), (2, .int (nI b)), (3, .int (nI (i + 1)))]) rfl ?_
                    have e : bestOf (fun c => decide (mFree C ki mo till sitter lent c m)) (fun c b => decide (eAhead sty till c b)) (i + 1) = some b := bestOf_sf hb (decide_eq_false (by grind))
                    have h := ih (i + 1) (by omega) (by omega)
                    rw [e] at h
                    exact h
                  · exact absurd c29 (by decide)
                · refine ww_run 53 8 (pc' := 102) (lv' := [(4, .int 0), (0, .ref 0), (1, .int m), (2, .int (nI b)), (3, .int (nI i))]) (st' := [.int (till (nI b).toNatClampNeg), .int (till (nI i).toNatClampNeg)]) (w' := wMv wi ki mo (hoF sty wset wfor) cd sr stk names till sitter on was sat stood rose turn pe (nI C) ru lent J K) (Ps := [vp_in (nI i) 6, vp_in (nI b) 6]) rfl ⟨(vp_in_nI (by omega) (by omega)), (vp_in_nI (by omega) (by omega)), trivial⟩ ?_
                  rw [nI_clamp (n := b) (by omega)]
                  rw [nI_clamp (n := i) (by omega)]
                  refine ww_icmp_ge 61 rfl (tgt := 109) rfl (fun c30 => ?_) (fun c30 => ?_)
                  · refine ww_run 64 3 (pc' := 114) (lv' := [(5, .int 0), (4, .int 0), (0, .ref 0), (1, .int m), (2, .int (nI b)), (3, .int (nI i))]) (st' := [.int 0]) (w' := wMv wi ki mo (hoF sty wset wfor) cd sr stk names till sitter on was sat stood rose turn pe (nI C) ru lent J K) (Ps := []) rfl trivial ?_
                    refine ww_if_eq 67 rfl (tgt := 131) rfl (fun c31 => ?_) (fun c31 => ?_)
                    · refine ww_run 75 4 (pc' := 4) (lv' := [(3, .int ((nI i) + 1)), (2, .int (nI b)), (5, .int 0), (4, .int 0), (0, .ref 0), (1, .int m)]) (st' := []) (w' := wMv wi ki mo (hoF sty wset wfor) cd sr stk names till sitter on was sat stood rose turn pe (nI C) ru lent J K) (Ps := []) rfl trivial ?_
                      rw [nI_1 i]
                      refine ww_lv [4, 5, 1, 0] (lv' := [(0, .ref 0), (1, .int m), (2, .int (nI b)), (3, .int (nI (i + 1)))]) rfl ?_
                      have e : bestOf (fun c => decide (mFree C ki mo till sitter lent c m)) (fun c b => decide (eAhead sty till c b)) (i + 1) = some b := bestOf_sf hb (decide_eq_false (by grind))
                      have h := ih (i + 1) (by omega) (by omega)
                      rw [e] at h
                      exact h
                    · exact absurd c31 (by decide)
                  · refine ww_run 62 2 (pc' := 110) (lv' := [(4, .int 0), (0, .ref 0), (1, .int m), (2, .int (nI b)), (3, .int (nI i))]) (st' := [.int 1]) (w' := wMv wi ki mo (hoF sty wset wfor) cd sr stk names till sitter on was sat stood rose turn pe (nI C) ru lent J K) (Ps := []) rfl trivial ?_
                    refine ww_run 65 2 (pc' := 114) (lv' := [(5, .int 1), (4, .int 0), (0, .ref 0), (1, .int m), (2, .int (nI b)), (3, .int (nI i))]) (st' := [.int 0]) (w' := wMv wi ki mo (hoF sty wset wfor) cd sr stk names till sitter on was sat stood rose turn pe (nI C) ru lent J K) (Ps := []) rfl trivial ?_
                    refine ww_if_eq 67 rfl (tgt := 131) rfl (fun c32 => ?_) (fun c32 => ?_)
                    · refine ww_run 75 4 (pc' := 4) (lv' := [(3, .int ((nI i) + 1)), (2, .int (nI b)), (5, .int 1), (4, .int 0), (0, .ref 0), (1, .int m)]) (st' := []) (w' := wMv wi ki mo (hoF sty wset wfor) cd sr stk names till sitter on was sat stood rose turn pe (nI C) ru lent J K) (Ps := []) rfl trivial ?_
                      rw [nI_1 i]
                      refine ww_lv [4, 5, 1, 0] (lv' := [(0, .ref 0), (1, .int m), (2, .int (nI b)), (3, .int (nI (i + 1)))]) rfl ?_
                      have e : bestOf (fun c => decide (mFree C ki mo till sitter lent c m)) (fun c b => decide (eAhead sty till c b)) (i + 1) = some b := bestOf_sf hb (decide_eq_false (by grind))
                      have h := ih (i + 1) (by omega) (by omega)
                      rw [e] at h
                      exact h
                    · exact absurd c32 (by decide)
              · refine ww_run 37 8 (pc' := 74) (lv' := [(4, .int 0), (0, .ref 0), (1, .int m), (2, .int (nI b)), (3, .int (nI i))]) (st' := [.int (till (nI b).toNatClampNeg), .int (till (nI i).toNatClampNeg)]) (w' := wMv wi ki mo (hoF sty wset wfor) cd sr stk names till sitter on was sat stood rose turn pe (nI C) ru lent J K) (Ps := [vp_in (nI i) 6, vp_in (nI b) 6]) rfl ⟨(vp_in_nI (by omega) (by omega)), (vp_in_nI (by omega) (by omega)), trivial⟩ ?_
                rw [nI_clamp (n := b) (by omega)]
                rw [nI_clamp (n := i) (by omega)]
                refine ww_icmp_le 45 rfl (tgt := 109) rfl (fun c33 => ?_) (fun c33 => ?_)
                · refine ww_run 64 3 (pc' := 114) (lv' := [(5, .int 0), (4, .int 0), (0, .ref 0), (1, .int m), (2, .int (nI b)), (3, .int (nI i))]) (st' := [.int 0]) (w' := wMv wi ki mo (hoF sty wset wfor) cd sr stk names till sitter on was sat stood rose turn pe (nI C) ru lent J K) (Ps := []) rfl trivial ?_
                  refine ww_if_eq 67 rfl (tgt := 131) rfl (fun c34 => ?_) (fun c34 => ?_)
                  · refine ww_run 75 4 (pc' := 4) (lv' := [(3, .int ((nI i) + 1)), (2, .int (nI b)), (5, .int 0), (4, .int 0), (0, .ref 0), (1, .int m)]) (st' := []) (w' := wMv wi ki mo (hoF sty wset wfor) cd sr stk names till sitter on was sat stood rose turn pe (nI C) ru lent J K) (Ps := []) rfl trivial ?_
                    rw [nI_1 i]
                    refine ww_lv [4, 5, 1, 0] (lv' := [(0, .ref 0), (1, .int m), (2, .int (nI b)), (3, .int (nI (i + 1)))]) rfl ?_
                    have e : bestOf (fun c => decide (mFree C ki mo till sitter lent c m)) (fun c b => decide (eAhead sty till c b)) (i + 1) = some b := bestOf_sf hb (decide_eq_false (by grind))
                    have h := ih (i + 1) (by omega) (by omega)
                    rw [e] at h
                    exact h
                  · exact absurd c34 (by decide)
                · refine ww_run 46 1 (pc' := 105) (lv' := [(4, .int 0), (0, .ref 0), (1, .int m), (2, .int (nI b)), (3, .int (nI i))]) (st' := []) (w' := wMv wi ki mo (hoF sty wset wfor) cd sr stk names till sitter on was sat stood rose turn pe (nI C) ru lent J K) (Ps := []) rfl trivial ?_
                  refine ww_run 62 2 (pc' := 110) (lv' := [(4, .int 0), (0, .ref 0), (1, .int m), (2, .int (nI b)), (3, .int (nI i))]) (st' := [.int 1]) (w' := wMv wi ki mo (hoF sty wset wfor) cd sr stk names till sitter on was sat stood rose turn pe (nI C) ru lent J K) (Ps := []) rfl trivial ?_
                  refine ww_run 65 2 (pc' := 114) (lv' := [(5, .int 1), (4, .int 0), (0, .ref 0), (1, .int m), (2, .int (nI b)), (3, .int (nI i))]) (st' := [.int 0]) (w' := wMv wi ki mo (hoF sty wset wfor) cd sr stk names till sitter on was sat stood rose turn pe (nI C) ru lent J K) (Ps := []) rfl trivial ?_
                  refine ww_if_eq 67 rfl (tgt := 131) rfl (fun c35 => ?_) (fun c35 => ?_)
                  · refine ww_run 75 4 (pc' := 4) (lv' := [(3, .int ((nI i) + 1)), (2, .int (nI b)), (5, .int 1), (4, .int 0), (0, .ref 0), (1, .int m)]) (st' := []) (w' := wMv wi ki mo (hoF sty wset wfor) cd sr stk names till sitter on was sat stood rose turn pe (nI C) ru lent J K) (Ps := []) rfl trivial ?_
                    rw [nI_1 i]
                    refine ww_lv [4, 5, 1, 0] (lv' := [(0, .ref 0), (1, .int m), (2, .int (nI b)), (3, .int (nI (i + 1)))]) rfl ?_
                    have e : bestOf (fun c => decide (mFree C ki mo till sitter lent c m)) (fun c b => decide (eAhead sty till c b)) (i + 1) = some b := bestOf_sf hb (decide_eq_false (by grind))
                    have h := ih (i + 1) (by omega) (by omega)
                    rw [e] at h
                    exact h
                  · exact absurd c35 (by decide)
          · refine ww_run 19 3 (pc' := 34) (lv' := [(0, .ref 0), (1, .int m), (2, .int (nI b)), (3, .int (nI i))]) (st' := [.int m, .int (nI i), .ref 0]) (w' := wMv wi ki mo (hoF sty wset wfor) cd sr stk names till sitter on was sat stood rose turn pe (nI C) ru lent J K) (Ps := []) rfl trivial ?_
            refine ww_cVi 22 ok_X7_lets (c_X7_lets wi ki mo (hoF sty wset wfor) cd sr stk names till sitter on was sat stood rose turn pe (nI C) ru lent J K i m (by omega)) lk_X7_214 rfl (by omega) (rest := []) rfl (Nat.le_of_ble_eq_true rfl) rfl rfl rfl rfl ?_
            refine ww_if_eq 23 rfl (tgt := 44) rfl (fun c36 => ?_) (fun c36 => ?_)
            · rw [b2i_eq0] at c36
              refine ww_run 26 4 (pc' := 49) (lv' := [(4, .int 0), (0, .ref 0), (1, .int m), (2, .int (nI b)), (3, .int (nI i))]) (st' := [.int (-1), .int (nI b)]) (w' := wMv wi ki mo (hoF sty wset wfor) cd sr stk names till sitter on was sat stood rose turn pe (nI C) ru lent J K) (Ps := []) rfl trivial ?_
              refine ww_icmp_eq 30 rfl (tgt := 109) rfl (fun c37 => ?_) (fun c37 => ?_)
              · exact absurd c37 (nI_ne_m1 (by omega))
              · refine ww_run 31 5 (pc' := 59) (lv' := [(4, .int 0), (0, .ref 0), (1, .int m), (2, .int (nI b)), (3, .int (nI i))]) (st' := [.int 1, .int sty]) (w' := wMv wi ki mo (hoF sty wset wfor) cd sr stk names till sitter on was sat stood rose turn pe (nI C) ru lent J K) (Ps := [vp_in 0 3]) rfl ⟨(vp_in_nI (n := 0) (by decide) (by decide)), trivial⟩ ?_
                refine ww_icmp_ne 36 rfl (tgt := 80) rfl (fun c38 => ?_) (fun c38 => ?_)
                · refine ww_run 47 5 (pc' := 87) (lv' := [(4, .int 0), (0, .ref 0), (1, .int m), (2, .int (nI b)), (3, .int (nI i))]) (st' := [.int 2, .int sty]) (w' := wMv wi ki mo (hoF sty wset wfor) cd sr stk names till sitter on was sat stood rose turn pe (nI C) ru lent J K) (Ps := [vp_in 0 3]) rfl ⟨(vp_in_nI (n := 0) (by decide) (by decide)), trivial⟩ ?_
                  refine ww_icmp_ne 52 rfl (tgt := 109) rfl (fun c39 => ?_) (fun c39 => ?_)
                  · refine ww_run 64 3 (pc' := 114) (lv' := [(5, .int 0), (4, .int 0), (0, .ref 0), (1, .int m), (2, .int (nI b)), (3, .int (nI i))]) (st' := [.int 0]) (w' := wMv wi ki mo (hoF sty wset wfor) cd sr stk names till sitter on was sat stood rose turn pe (nI C) ru lent J K) (Ps := []) rfl trivial ?_
                    refine ww_if_eq 67 rfl (tgt := 131) rfl (fun c40 => ?_) (fun c40 => ?_)
                    · refine ww_run 75 4 (pc' := 4) (lv' := [(3, .int ((nI i) + 1)), (2, .int (nI b)), (5, .int 0), (4, .int 0), (0, .ref 0), (1, .int m)]) (st' := []) (w' := wMv wi ki mo (hoF sty wset wfor) cd sr stk names till sitter on was sat stood rose turn pe (nI C) ru lent J K) (Ps := []) rfl trivial ?_
                      rw [nI_1 i]
                      refine ww_lv [4, 5, 1, 0] (lv' := [(0, .ref 0), (1, .int m), (2, .int (nI b)), (3, .int (nI (i + 1)))]) rfl ?_
                      have e : bestOf (fun c => decide (mFree C ki mo till sitter lent c m)) (fun c b => decide (eAhead sty till c b)) (i + 1) = some b := bestOf_sf hb (decide_eq_false (by grind))
                      have h := ih (i + 1) (by omega) (by omega)
                      rw [e] at h
                      exact h
                    · exact absurd c40 (by decide)
                  · refine ww_run 53 8 (pc' := 102) (lv' := [(4, .int 0), (0, .ref 0), (1, .int m), (2, .int (nI b)), (3, .int (nI i))]) (st' := [.int (till (nI b).toNatClampNeg), .int (till (nI i).toNatClampNeg)]) (w' := wMv wi ki mo (hoF sty wset wfor) cd sr stk names till sitter on was sat stood rose turn pe (nI C) ru lent J K) (Ps := [vp_in (nI i) 6, vp_in (nI b) 6]) rfl ⟨(vp_in_nI (by omega) (by omega)), (vp_in_nI (by omega) (by omega)), trivial⟩ ?_
                    rw [nI_clamp (n := b) (by omega)]
                    rw [nI_clamp (n := i) (by omega)]
                    refine ww_icmp_ge 61 rfl (tgt := 109) rfl (fun c41 => ?_) (fun c41 => ?_)
                    · refine ww_run 64 3 (pc' := 114) (lv' := [(5, .int 0), (4, .int 0), (0, .ref 0), (1, .int m), (2, .int (nI b)), (3, .int (nI i))]) (st' := [.int 0]) (w' := wMv wi ki mo (hoF sty wset wfor) cd sr stk names till sitter on was sat stood rose turn pe (nI C) ru lent J K) (Ps := []) rfl trivial ?_
                      refine ww_if_eq 67 rfl (tgt := 131) rfl (fun c42 => ?_) (fun c42 => ?_)
                      · refine ww_run 75 4 (pc' := 4) (lv' := [(3, .int ((nI i) + 1)), (2, .int (nI b)), (5, .int 0), (4, .int 0), (0, .ref 0), (1, .int m)]) (st' := []) (w' := wMv wi ki mo (hoF sty wset wfor) cd sr stk names till sitter on was sat stood rose turn pe (nI C) ru lent J K) (Ps := []) rfl trivial ?_
                        rw [nI_1 i]
                        refine ww_lv [4, 5, 1, 0] (lv' := [(0, .ref 0), (1, .int m), (2, .int (nI b)), (3, .int (nI (i + 1)))]) rfl ?_
                        have e : bestOf (fun c => decide (mFree C ki mo till sitter lent c m)) (fun c b => decide (eAhead sty till c b)) (i + 1) = some b := bestOf_sf hb (decide_eq_false (by grind))
                        have h := ih (i + 1) (by omega) (by omega)
                        rw [e] at h
                        exact h
                      · exact absurd c42 (by decide)
                    · refine ww_run 62 2 (pc' := 110) (lv' := [(4, .int 0), (0, .ref 0), (1, .int m), (2, .int (nI b)), (3, .int (nI i))]) (st' := [.int 1]) (w' := wMv wi ki mo (hoF sty wset wfor) cd sr stk names till sitter on was sat stood rose turn pe (nI C) ru lent J K) (Ps := []) rfl trivial ?_
                      refine ww_run 65 2 (pc' := 114) (lv' := [(5, .int 1), (4, .int 0), (0, .ref 0), (1, .int m), (2, .int (nI b)), (3, .int (nI i))]) (st' := [.int 0]) (w' := wMv wi ki mo (hoF sty wset wfor) cd sr stk names till sitter on was sat stood rose turn pe (nI C) ru lent J K) (Ps := []) rfl trivial ?_
                      refine ww_if_eq 67 rfl (tgt := 131) rfl (fun c43 => ?_) (fun c43 => ?_)
                      · refine ww_run 75 4 (pc' := 4) (lv' := [(3, .int ((nI i) + 1)), (2, .int (nI b)), (5, .int 1), (4, .int 0), (0, .ref 0), (1, .int m)]) (st' := []) (w' := wMv wi ki mo (hoF sty wset wfor) cd sr stk names till sitter on was sat stood rose turn pe (nI C) ru lent J K) (Ps := []) rfl trivial ?_
                        rw [nI_1 i]
                        refine ww_lv [4, 5, 1, 0] (lv' := [(0, .ref 0), (1, .int m), (2, .int (nI b)), (3, .int (nI (i + 1)))]) rfl ?_
                        have e : bestOf (fun c => decide (mFree C ki mo till sitter lent c m)) (fun c b => decide (eAhead sty till c b)) (i + 1) = some b := bestOf_sf hb (decide_eq_false (by grind))
                        have h := ih (i + 1) (by omega) (by omega)
                        rw [e] at h
                        exact h
                      · exact absurd c43 (by decide)
                · refine ww_run 37 8 (pc' := 74) (lv' := [(4, .int 0), (0, .ref 0), (1, .int m), (2, .int (nI b)), (3, .int (nI i))]) (st' := [.int (till (nI b).toNatClampNeg), .int (till (nI i).toNatClampNeg)]) (w' := wMv wi ki mo (hoF sty wset wfor) cd sr stk names till sitter on was sat stood rose turn pe (nI C) ru lent J K) (Ps := [vp_in (nI i) 6, vp_in (nI b) 6]) rfl ⟨(vp_in_nI (by omega) (by omega)), (vp_in_nI (by omega) (by omega)), trivial⟩ ?_
                  rw [nI_clamp (n := b) (by omega)]
                  rw [nI_clamp (n := i) (by omega)]
                  refine ww_icmp_le 45 rfl (tgt := 109) rfl (fun c44 => ?_) (fun c44 => ?_)
                  · refine ww_run 64 3 (pc' := 114) (lv' := [(5, .int 0), (4, .int 0), (0, .ref 0), (1, .int m), (2, .int (nI b)), (3, .int (nI i))]) (st' := [.int 0]) (w' := wMv wi ki mo (hoF sty wset wfor) cd sr stk names till sitter on was sat stood rose turn pe (nI C) ru lent J K) (Ps := []) rfl trivial ?_
                    refine ww_if_eq 67 rfl (tgt := 131) rfl (fun c45 => ?_) (fun c45 => ?_)
                    · refine ww_run 75 4 (pc' := 4) (lv' := [(3, .int ((nI i) + 1)), (2, .int (nI b)), (5, .int 0), (4, .int 0), (0, .ref 0), (1, .int m)]) (st' := []) (w' := wMv wi ki mo (hoF sty wset wfor) cd sr stk names till sitter on was sat stood rose turn pe (nI C) ru lent J K) (Ps := []) rfl trivial ?_
                      rw [nI_1 i]
                      refine ww_lv [4, 5, 1, 0] (lv' := [(0, .ref 0), (1, .int m), (2, .int (nI b)), (3, .int (nI (i + 1)))]) rfl ?_
                      have e : bestOf (fun c => decide (mFree C ki mo till sitter lent c m)) (fun c b => decide (eAhead sty till c b)) (i + 1) = some b := bestOf_sf hb (decide_eq_false (by grind))
                      have h := ih (i + 1) (by omega) (by omega)
                      rw [e] at h
                      exact h
                    · exact absurd c45 (by decide)
                  · refine ww_run 46 1 (pc' := 105) (lv' := [(4, .int 0), (0, .ref 0), (1, .int m), (2, .int (nI b)), (3, .int (nI i))]) (st' := []) (w' := wMv wi ki mo (hoF sty wset wfor) cd sr stk names till sitter on was sat stood rose turn pe (nI C) ru lent J K) (Ps := []) rfl trivial ?_
                    refine ww_run 62 2 (pc' := 110) (lv' := [(4, .int 0), (0, .ref 0), (1, .int m), (2, .int (nI b)), (3, .int (nI i))]) (st' := [.int 1]) (w' := wMv wi ki mo (hoF sty wset wfor) cd sr stk names till sitter on was sat stood rose turn pe (nI C) ru lent J K) (Ps := []) rfl trivial ?_
                    refine ww_run 65 2 (pc' := 114) (lv' := [(5, .int 1), (4, .int 0), (0, .ref 0), (1, .int m), (2, .int (nI b)), (3, .int (nI i))]) (st' := [.int 0]) (w' := wMv wi ki mo (hoF sty wset wfor) cd sr stk names till sitter on was sat stood rose turn pe (nI C) ru lent J K) (Ps := []) rfl trivial ?_
                    refine ww_if_eq 67 rfl (tgt := 131) rfl (fun c46 => ?_) (fun c46 => ?_)
                    · refine ww_run 75 4 (pc' := 4) (lv' := [(3, .int ((nI i) + 1)), (2, .int (nI b)), (5, .int 1), (4, .int 0), (0, .ref 0), (1, .int m)]) (st' := []) (w' := wMv wi ki mo (hoF sty wset wfor) cd sr stk names till sitter on was sat stood rose turn pe (nI C) ru lent J K) (Ps := []) rfl trivial ?_
                      rw [nI_1 i]
                      refine ww_lv [4, 5, 1, 0] (lv' := [(0, .ref 0), (1, .int m), (2, .int (nI b)), (3, .int (nI (i + 1)))]) rfl ?_
                      have e : bestOf (fun c => decide (mFree C ki mo till sitter lent c m)) (fun c b => decide (eAhead sty till c b)) (i + 1) = some b := bestOf_sf hb (decide_eq_false (by grind))
                      have h := ih (i + 1) (by omega) (by omega)
                      rw [e] at h
                      exact h
                    · exact absurd c46 (by decide)
            · rw [b2i_ne0] at c36
              refine ww_run 24 2 (pc' := 45) (lv' := [(0, .ref 0), (1, .int m), (2, .int (nI b)), (3, .int (nI i))]) (st' := [.int 1]) (w' := wMv wi ki mo (hoF sty wset wfor) cd sr stk names till sitter on was sat stood rose turn pe (nI C) ru lent J K) (Ps := []) rfl trivial ?_
              refine ww_run 27 3 (pc' := 49) (lv' := [(4, .int 1), (0, .ref 0), (1, .int m), (2, .int (nI b)), (3, .int (nI i))]) (st' := [.int (-1), .int (nI b)]) (w' := wMv wi ki mo (hoF sty wset wfor) cd sr stk names till sitter on was sat stood rose turn pe (nI C) ru lent J K) (Ps := []) rfl trivial ?_
              refine ww_icmp_eq 30 rfl (tgt := 109) rfl (fun c47 => ?_) (fun c47 => ?_)
              · exact absurd c47 (nI_ne_m1 (by omega))
              · refine ww_run 31 5 (pc' := 59) (lv' := [(4, .int 1), (0, .ref 0), (1, .int m), (2, .int (nI b)), (3, .int (nI i))]) (st' := [.int 1, .int sty]) (w' := wMv wi ki mo (hoF sty wset wfor) cd sr stk names till sitter on was sat stood rose turn pe (nI C) ru lent J K) (Ps := [vp_in 0 3]) rfl ⟨(vp_in_nI (n := 0) (by decide) (by decide)), trivial⟩ ?_
                refine ww_icmp_ne 36 rfl (tgt := 80) rfl (fun c48 => ?_) (fun c48 => ?_)
                · refine ww_run 47 5 (pc' := 87) (lv' := [(4, .int 1), (0, .ref 0), (1, .int m), (2, .int (nI b)), (3, .int (nI i))]) (st' := [.int 2, .int sty]) (w' := wMv wi ki mo (hoF sty wset wfor) cd sr stk names till sitter on was sat stood rose turn pe (nI C) ru lent J K) (Ps := [vp_in 0 3]) rfl ⟨(vp_in_nI (n := 0) (by decide) (by decide)), trivial⟩ ?_
                  refine ww_icmp_ne 52 rfl (tgt := 109) rfl (fun c49 => ?_) (fun c49 => ?_)
                  · refine ww_run 64 3 (pc' := 114) (lv' := [(5, .int 0), (4, .int 1), (0, .ref 0), (1, .int m), (2, .int (nI b)), (3, .int (nI i))]) (st' := [.int 1]) (w' := wMv wi ki mo (hoF sty wset wfor) cd sr stk names till sitter on was sat stood rose turn pe (nI C) ru lent J K) (Ps := []) rfl trivial ?_
                    refine ww_if_eq 67 rfl (tgt := 131) rfl (fun c50 => ?_) (fun c50 => ?_)
                    · exact absurd c50 (by decide)
                    · refine ww_run 68 2 (pc' := 119) (lv' := [(5, .int 0), (4, .int 1), (0, .ref 0), (1, .int m), (2, .int (nI b)), (3, .int (nI i))]) (st' := [.int (-1), .int (nI b)]) (w' := wMv wi ki mo (hoF sty wset wfor) cd sr stk names till sitter on was sat stood rose turn pe (nI C) ru lent J K) (Ps := []) rfl trivial ?_
                      refine ww_icmp_eq 70 rfl (tgt := 127) rfl (fun c51 => ?_) (fun c51 => ?_)
                      · exact absurd c51 (nI_ne_m1 (by omega))
                      · refine ww_run 71 1 (pc' := 124) (lv' := [(5, .int 0), (4, .int 1), (0, .ref 0), (1, .int m), (2, .int (nI b)), (3, .int (nI i))]) (st' := [.int 0]) (w' := wMv wi ki mo (hoF sty wset wfor) cd sr stk names till sitter on was sat stood rose turn pe (nI C) ru lent J K) (Ps := []) rfl trivial ?_
                        refine ww_if_eq 72 rfl (tgt := 131) rfl (fun c52 => ?_) (fun c52 => ?_)
                        · refine ww_run 75 4 (pc' := 4) (lv' := [(3, .int ((nI i) + 1)), (2, .int (nI b)), (5, .int 0), (4, .int 1), (0, .ref 0), (1, .int m)]) (st' := []) (w' := wMv wi ki mo (hoF sty wset wfor) cd sr stk names till sitter on was sat stood rose turn pe (nI C) ru lent J K) (Ps := []) rfl trivial ?_
                          rw [nI_1 i]
                          refine ww_lv [4, 5, 1, 0] (lv' := [(0, .ref 0), (1, .int m), (2, .int (nI b)), (3, .int (nI (i + 1)))]) rfl ?_
                          have e : bestOf (fun c => decide (mFree C ki mo till sitter lent c m)) (fun c b => decide (eAhead sty till c b)) (i + 1) = some b := bestOf_sa hb (decide_eq_false (by grind))
                          have h := ih (i + 1) (by omega) (by omega)
                          rw [e] at h
                          exact h
                        · exact absurd c52 (by decide)
                  · refine ww_run 53 8 (pc' := 102) (lv' := [(4, .int 1), (0, .ref 0), (1, .int m), (2, .int (nI b)), (3, .int (nI i))]) (st' := [.int (till (nI b).toNatClampNeg), .int (till (nI i).toNatClampNeg)]) (w' := wMv wi ki mo (hoF sty wset wfor) cd sr stk names till sitter on was sat stood rose turn pe (nI C) ru lent J K) (Ps := [vp_in (nI i) 6, vp_in (nI b) 6]) rfl ⟨(vp_in_nI (by omega) (by omega)), (vp_in_nI (by omega) (by omega)), trivial⟩ ?_
                    rw [nI_clamp (n := b) (by omega)]
                    rw [nI_clamp (n := i) (by omega)]
                    refine ww_icmp_ge 61 rfl (tgt := 109) rfl (fun c53 => ?_) (fun c53 => ?_)
                    · refine ww_run 64 3 (pc' := 114) (lv' := [(5, .int 0), (4, .int 1), (0, .ref 0), (1, .int m), (2, .int (nI b)), (3, .int (nI i))]) (st' := [.int 1]) (w' := wMv wi ki mo (hoF sty wset wfor) cd sr stk names till sitter on was sat stood rose turn pe (nI C) ru lent J K) (Ps := []) rfl trivial ?_
                      refine ww_if_eq 67 rfl (tgt := 131) rfl (fun c54 => ?_) (fun c54 => ?_)
                      · exact absurd c54 (by decide)
                      · refine ww_run 68 2 (pc' := 119) (lv' := [(5, .int 0), (4, .int 1), (0, .ref 0), (1, .int m), (2, .int (nI b)), (3, .int (nI i))]) (st' := [.int (-1), .int (nI b)]) (w' := wMv wi ki mo (hoF sty wset wfor) cd sr stk names till sitter on was sat stood rose turn pe (nI C) ru lent J K) (Ps := []) rfl trivial ?_
                        refine ww_icmp_eq 70 rfl (tgt := 127) rfl (fun c55 => ?_) (fun c55 => ?_)
                        · exact absurd c55 (nI_ne_m1 (by omega))
                        · refine ww_run 71 1 (pc' := 124) (lv' := [(5, .int 0), (4, .int 1), (0, .ref 0), (1, .int m), (2, .int (nI b)), (3, .int (nI i))]) (st' := [.int 0]) (w' := wMv wi ki mo (hoF sty wset wfor) cd sr stk names till sitter on was sat stood rose turn pe (nI C) ru lent J K) (Ps := []) rfl trivial ?_
                          refine ww_if_eq 72 rfl (tgt := 131) rfl (fun c56 => ?_) (fun c56 => ?_)
                          · refine ww_run 75 4 (pc' := 4) (lv' := [(3, .int ((nI i) + 1)), (2, .int (nI b)), (5, .int 0), (4, .int 1), (0, .ref 0), (1, .int m)]) (st' := []) (w' := wMv wi ki mo (hoF sty wset wfor) cd sr stk names till sitter on was sat stood rose turn pe (nI C) ru lent J K) (Ps := []) rfl trivial ?_
                            rw [nI_1 i]
                            refine ww_lv [4, 5, 1, 0] (lv' := [(0, .ref 0), (1, .int m), (2, .int (nI b)), (3, .int (nI (i + 1)))]) rfl ?_
                            have e : bestOf (fun c => decide (mFree C ki mo till sitter lent c m)) (fun c b => decide (eAhead sty till c b)) (i + 1) = some b := bestOf_sa hb (decide_eq_false (by grind))
                            have h := ih (i + 1) (by omega) (by omega)
                            rw [e] at h
                            exact h
                          · exact absurd c56 (by decide)
                    · refine ww_run 62 2 (pc' := 110) (lv' := [(4, .int 1), (0, .ref 0), (1, .int m), (2, .int (nI b)), (3, .int (nI i))]) (st' := [.int 1]) (w' := wMv wi ki mo (hoF sty wset wfor) cd sr stk names till sitter on was sat stood rose turn pe (nI C) ru lent J K) (Ps := []) rfl trivial ?_
                      refine ww_run 65 2 (pc' := 114) (lv' := [(5, .int 1), (4, .int 1), (0, .ref 0), (1, .int m), (2, .int (nI b)), (3, .int (nI i))]) (st' := [.int 1]) (w' := wMv wi ki mo (hoF sty wset wfor) cd sr stk names till sitter on was sat stood rose turn pe (nI C) ru lent J K) (Ps := []) rfl trivial ?_
                      refine ww_if_eq 67 rfl (tgt := 131) rfl (fun c57 => ?_) (fun c57 => ?_)
                      · exact absurd c57 (by decide)
                      · refine ww_run 68 2 (pc' := 119) (lv' := [(5, .int 1), (4, .int 1), (0, .ref 0), (1, .int m), (2, .int (nI b)), (3, .int (nI i))]) (st' := [.int (-1), .int (nI b)]) (w' := wMv wi ki mo (hoF sty wset wfor) cd sr stk names till sitter on was sat stood rose turn pe (nI C) ru lent J K) (Ps := []) rfl trivial ?_
                        refine ww_icmp_eq 70 rfl (tgt := 127) rfl (fun c58 => ?_) (fun c58 => ?_)
                        · exact absurd c58 (nI_ne_m1 (by omega))
                        · refine ww_run 71 1 (pc' := 124) (lv' := [(5, .int 1), (4, .int 1), (0, .ref 0), (1, .int m), (2, .int (nI b)), (3, .int (nI i))]) (st' := [.int 1]) (w' := wMv wi ki mo (hoF sty wset wfor) cd sr stk names till sitter on was sat stood rose turn pe (nI C) ru lent J K) (Ps := []) rfl trivial ?_
                          refine ww_if_eq 72 rfl (tgt := 131) rfl (fun c59 => ?_) (fun c59 => ?_)
                          · exact absurd c59 (by decide)
                          · refine ww_run 73 2 (pc' := 132) (lv' := [(5, .int 1), (4, .int 1), (0, .ref 0), (1, .int m), (2, .int (nI b)), (3, .int (nI i))]) (st' := [.int (nI i)]) (w' := wMv wi ki mo (hoF sty wset wfor) cd sr stk names till sitter on was sat stood rose turn pe (nI C) ru lent J K) (Ps := []) rfl trivial ?_
                            refine ww_run 76 3 (pc' := 4) (lv' := [(3, .int ((nI i) + 1)), (2, .int (nI i)), (5, .int 1), (4, .int 1), (0, .ref 0), (1, .int m)]) (st' := []) (w' := wMv wi ki mo (hoF sty wset wfor) cd sr stk names till sitter on was sat stood rose turn pe (nI C) ru lent J K) (Ps := []) rfl trivial ?_
                            rw [nI_1 i]
                            refine ww_lv [4, 5, 1, 0] (lv' := [(0, .ref 0), (1, .int m), (2, .int (nI i)), (3, .int (nI (i + 1)))]) rfl ?_
                            have e : bestOf (fun c => decide (mFree C ki mo till sitter lent c m)) (fun c b => decide (eAhead sty till c b)) (i + 1) = some i := bestOf_st hb (decide_eq_true (by grind)) (decide_eq_true (by grind))
                            have h := ih (i + 1) (by omega) (by omega)
                            rw [e] at h
                            exact h
                · refine ww_run 37 8 (pc' := 74) (lv' := [(4, .int 1), (0, .ref 0), (1, .int m), (2, .int (nI b)), (3, .int (nI i))]) (st' := [.int (till (nI b).toNatClampNeg), .int (till (nI i).toNatClampNeg)]) (w' := wMv wi ki mo (hoF sty wset wfor) cd sr stk names till sitter on was sat stood rose turn pe (nI C) ru lent J K) (Ps := [vp_in (nI i) 6, vp_in (nI b) 6]) rfl ⟨(vp_in_nI (by omega) (by omega)), (vp_in_nI (by omega) (by omega)), trivial⟩ ?_
                  rw [nI_clamp (n := b) (by omega)]
                  rw [nI_clamp (n := i) (by omega)]
                  refine ww_icmp_le 45 rfl (tgt := 109) rfl (fun c60 => ?_) (fun c60 => ?_)
                  · refine ww_run 64 3 (pc' := 114) (lv' := [(5, .int 0), (4, .int 1), (0, .ref 0), (1, .int m), (2, .int (nI b)), (3, .int (nI i))]) (st' := [.int 1]) (w' := wMv wi ki mo (hoF sty wset wfor) cd sr stk names till sitter on was sat stood rose turn pe (nI C) ru lent J K) (Ps := []) rfl trivial ?_
                    refine ww_if_eq 67 rfl (tgt := 131) rfl (fun c61 => ?_) (fun c61 => ?_)
                    · exact absurd c61 (by decide)
                    · refine ww_run 68 2 (pc' := 119) (lv' := [(5, .int 0), (4, .int 1), (0, .ref 0), (1, .int m), (2, .int (nI b)), (3, .int (nI i))]) (st' := [.int (-1), .int (nI b)]) (w' := wMv wi ki mo (hoF sty wset wfor) cd sr stk names till sitter on was sat stood rose turn pe (nI C) ru lent J K) (Ps := []) rfl trivial ?_
                      refine ww_icmp_eq 70 rfl (tgt := 127) rfl (fun c62 => ?_) (fun c62 => ?_)
                      · exact absurd c62 (nI_ne_m1 (by omega))
                      · refine ww_run 71 1 (pc' := 124) (lv' := [(5, .int 0), (4, .int 1), (0, .ref 0), (1, .int m), (2, .int (nI b)), (3, .int (nI i))]) (st' := [.int 0]) (w' := wMv wi ki mo (hoF sty wset wfor) cd sr stk names till sitter on was sat stood rose turn pe (nI C) ru lent J K) (Ps := []) rfl trivial ?_
                        refine ww_if_eq 72 rfl (tgt := 131) rfl (fun c63 => ?_) (fun c63 => ?_)
                        · refine ww_run 75 4 (pc' := 4) (lv' := [(3, .int ((nI i) + 1)), (2, .int (nI b)), (5, .int 0), (4, .int 1), (0, .ref 0), (1, .int m)]) (st' := []) (w' := wMv wi ki mo (hoF sty wset wfor) cd sr stk names till sitter on was sat stood rose turn pe (nI C) ru lent J K) (Ps := []) rfl trivial ?_
                          rw [nI_1 i]
                          refine ww_lv [4, 5, 1, 0] (lv' := [(0, .ref 0), (1, .int m), (2, .int (nI b)), (3, .int (nI (i + 1)))]) rfl ?_
                          have e : bestOf (fun c => decide (mFree C ki mo till sitter lent c m)) (fun c b => decide (eAhead sty till c b)) (i + 1) = some b := bestOf_sa hb (decide_eq_false (by grind))
                          have h := ih (i + 1) (by omega) (by omega)
                          rw [e] at h
                          exact h
                        · exact absurd c63 (by decide)
                  · refine ww_run 46 1 (pc' := 105) (lv' := [(4, .int 1), (0, .ref 0), (1, .int m), (2, .int (nI b)), (3, .int (nI i))]) (st' := []) (w' := wMv wi ki mo (hoF sty wset wfor) cd sr stk names till sitter on was sat stood rose turn pe (nI C) ru lent J K) (Ps := []) rfl trivial ?_
                    refine ww_run 62 2 (pc' := 110) (lv' := [(4, .int 1), (0, .ref 0), (1, .int m), (2, .int (nI b)), (3, .int (nI i))]) (st' := [.int 1]) (w' := wMv wi ki mo (hoF sty wset wfor) cd sr stk names till sitter on was sat stood rose turn pe (nI C) ru lent J K) (Ps := []) rfl trivial ?_
                    refine ww_run 65 2 (pc' := 114) (lv' := [(5, .int 1), (4, .int 1), (0, .ref 0), (1, .int m), (2, .int (nI b)), (3, .int (nI i))]) (st' := [.int 1]) (w' := wMv wi ki mo (hoF sty wset wfor) cd sr stk names till sitter on was sat stood rose turn pe (nI C) ru lent J K) (Ps := []) rfl trivial ?_
                    refine ww_if_eq 67 rfl (tgt := 131) rfl (fun c64 => ?_) (fun c64 => ?_)
                    · exact absurd c64 (by decide)
                    · refine ww_run 68 2 (pc' := 119) (lv' := [(5, .int 1), (4, .int 1), (0, .ref 0), (1, .int m), (2, .int (nI b)), (3, .int (nI i))]) (st' := [.int (-1), .int (nI b)]) (w' := wMv wi ki mo (hoF sty wset wfor) cd sr stk names till sitter on was sat stood rose turn pe (nI C) ru lent J K) (Ps := []) rfl trivial ?_
                      refine ww_icmp_eq 70 rfl (tgt := 127) rfl (fun c65 => ?_) (fun c65 => ?_)
                      · exact absurd c65 (nI_ne_m1 (by omega))
                      · refine ww_run 71 1 (pc' := 124) (lv' := [(5, .int 1), (4, .int 1), (0, .ref 0), (1, .int m), (2, .int (nI b)), (3, .int (nI i))]) (st' := [.int 1]) (w' := wMv wi ki mo (hoF sty wset wfor) cd sr stk names till sitter on was sat stood rose turn pe (nI C) ru lent J K) (Ps := []) rfl trivial ?_
                        refine ww_if_eq 72 rfl (tgt := 131) rfl (fun c66 => ?_) (fun c66 => ?_)
                        · exact absurd c66 (by decide)
                        · refine ww_run 73 2 (pc' := 132) (lv' := [(5, .int 1), (4, .int 1), (0, .ref 0), (1, .int m), (2, .int (nI b)), (3, .int (nI i))]) (st' := [.int (nI i)]) (w' := wMv wi ki mo (hoF sty wset wfor) cd sr stk names till sitter on was sat stood rose turn pe (nI C) ru lent J K) (Ps := []) rfl trivial ?_
                          refine ww_run 76 3 (pc' := 4) (lv' := [(3, .int ((nI i) + 1)), (2, .int (nI i)), (5, .int 1), (4, .int 1), (0, .ref 0), (1, .int m)]) (st' := []) (w' := wMv wi ki mo (hoF sty wset wfor) cd sr stk names till sitter on was sat stood rose turn pe (nI C) ru lent J K) (Ps := []) rfl trivial ?_
                          rw [nI_1 i]
                          refine ww_lv [4, 5, 1, 0] (lv' := [(0, .ref 0), (1, .int m), (2, .int (nI i)), (3, .int (nI (i + 1)))]) rfl ?_
                          have e : bestOf (fun c => decide (mFree C ki mo till sitter lent c m)) (fun c b => decide (eAhead sty till c b)) (i + 1) = some i := bestOf_st hb (decide_eq_true (by grind)) (decide_eq_true (by grind))
                          have h := ih (i + 1) (by omega) (by omega)
                          rw [e] at h
                          exact h
set_option maxHeartbeats 4000000 in
set_option maxRecDepth 100000 in
theorem c_X7_takes (wi ki mo cd sr stk names till sitter on was sat stood rose turn : Nat → Int32) (pe ru lent : Int32) (J : Nat → Int32) (K : Nat → Nat → Int32) (sty wset wfor m : Int32) (C : Nat) (hC : C ≤ 6) : Co M_X7_takes 4 0 0 [.ref 0, .int m] (wMv wi ki mo (hoF sty wset wfor) cd sr stk names till sitter on was sat stood rose turn pe (nI C) ru lent J K) (Qi (o2i (bestOf (fun c => decide (mFree C ki mo till sitter lent c m)) (fun c b => decide (eAhead sty till c b)) C)) (wMv wi ki mo (hoF sty wset wfor) cd sr stk names till sitter on was sat stood rose turn pe (nI C) ru lent J K)) := by
  refine Co.of ok_X7_takes rfl ?_
  refine ww_run 0 4 (pc' := 4) (lv' := [(3, .int 0), (2, .int (-1)), (0, .ref 0), (1, .int m)]) (st' := []) (w' := wMv wi ki mo (hoF sty wset wfor) cd sr stk names till sitter on was sat stood rose turn pe (nI C) ru lent J K) (Ps := []) rfl trivial ?_
  refine ww_lv [2, 3, 1, 0] (lv' := [(0, .ref 0), (1, .int m), (2, .int (-1)), (3, .int 0)]) rfl ?_
  refine l_X7_takes_4 (by omega) wi ki mo cd sr stk names till sitter on was sat stood rose turn pe ru lent J K sty wset wfor m C hC ?_ (C + 1) 0 (by omega) (by omega)
  refine ww_run 79 1 (pc' := 140) (lv' := [(0, .ref 0), (1, .int m), (2, .int (o2i (bestOf (fun c => decide (mFree C ki mo till sitter lent c m)) (fun c b => decide (eAhead sty till c b)) C))), (3, .int (nI C))]) (st' := [.int (o2i (bestOf (fun c => decide (mFree C ki mo till sitter lent c m)) (fun c b => decide (eAhead sty till c b)) C))]) (w' := wMv wi ki mo (hoF sty wset wfor) cd sr stk names till sitter on was sat stood rose turn pe (nI C) ru lent J K) (Ps := []) rfl trivial ?_
  refine ww_iret 80 rfl rfl ?_
  exact ⟨rfl, rfl⟩
