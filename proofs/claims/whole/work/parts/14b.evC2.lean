set_option maxHeartbeats 4000000 in
set_option maxRecDepth 100000 in
theorem c_X3_says (nc : Nat) (codes ends stk names : Nat → Int32) (part : Nat) (e : Nat → Nat) (hpart : part < 3) (hnc : nc < 1000) (he : ∀ j, j < 3 → ends j = nI (e j)) (h01 : e 0 ≤ e 1) (h12 : e 1 ≤ e 2) (h2n : e 2 ≤ nc) : Co M_X3_says 1 0 0 [.ref 0, .int (nI part), .ref 4] (wLaw nc codes ends stk names) (Qi (clamp99 ((sayC codes e part stk names).1 0)) (wLaw nc codes ends ((sayC codes e part stk names).1) names)) := by
  refine Co.of ok_X3_says rfl ?_
  refine ww_run 0 7 (pc' := 9) (lv' := [(3, .int 0), (0, .ref 0), (1, .int (nI part)), (2, .ref 4)]) (st' := []) (w' := wLaw nc codes ends (upd stk 0 0) names) (Ps := [vp_in 0 40]) rfl ⟨(vp_in_nI (n := 0) (by decide) (by decide)), trivial⟩ ?_
  rcases part with _ | pq
  · skip
    refine ww_run 7 1 (pc' := 10) (lv' := [(3, .int 0), (0, .ref 0), (1, .int (nI 0)), (2, .ref 4)]) (st' := [.int (nI 0)]) (w' := wLaw nc codes ends (upd stk 0 0) names) (Ps := []) rfl trivial ?_
    refine ww_if_ne 8 rfl (tgt := 17) rfl (fun c1 => ?_) (fun c1 => ?_)
    · exact absurd c1 (by decide)
    · have c1 : 0 = 0 := (nI_eq (a := 0) (b := 0) (by omega) (by omega)).mp c1
      refine ww_run 9 2 (pc' := 25) (lv' := [(3, .int 0), (0, .ref 0), (1, .int (nI 0)), (2, .ref 4)]) (st' := [.int 0]) (w' := wLaw nc codes ends (upd stk 0 0) names) (Ps := []) rfl trivial ?_
      refine ww_run 17 1 (pc' := 27) (lv' := [(4, .int 0), (3, .int 0), (0, .ref 0), (1, .int (nI 0)), (2, .ref 4)]) (st' := []) (w' := wLaw nc codes ends (upd stk 0 0) names) (Ps := []) rfl trivial ?_
      refine ww_lv [2, 3, 4, 1, 0] (lv' := [(0, .ref 0), (1, .int (nI 0)), (2, .ref 4), (3, .int 0), (4, .int 0)]) rfl ?_
      refine l_X3_says_27 (by omega) nc codes ends stk names 0 e hpart hnc he h01 h12 h2n (by exact sFrom_le h01 h12 hpart) (by exact e_le h01 h12 h2n hpart) (fun sk t ht hs => ?_) (e 0 + 1) (sFrom e 0) (upd stk 0 0) 0 (by exact sFrom_le h01 h12 hpart) (by omega) (Nat.le_refl _) (by omega) (by simp [sRun])
      refine ww_run 116 6 (pc' := 215) (lv' := [(0, .ref 0), (1, .int (nI 0)), (2, .ref 4), (3, .int (nI t)), (4, .int (nI (e 0)))]) (st' := [.int (sk 0), .int 99, .int 0]) (w' := wLaw nc codes ends sk names) (Ps := [vp_in 0 40]) rfl ⟨(vp_in_nI (n := 0) (by decide) (by decide)), trivial⟩ ?_
      refine ww_mmin 122 (idx := 25) (by decide +kernel) (by omega) (Nat.le_of_ble_eq_true rfl) rfl ?_
      refine ww_mmax 123 (idx := 31) (by decide +kernel) (by omega) (Nat.le_of_ble_eq_true rfl) rfl ?_
      refine ww_iret 124 rfl rfl ?_
      exact ⟨by rw [hs]; rfl, by rw [hs]⟩
  · skip
    refine ww_run 7 1 (pc' := 10) (lv' := [(3, .int 0), (0, .ref 0), (1, .int (nI (pq + 1))), (2, .ref 4)]) (st' := [.int (nI (pq + 1))]) (w' := wLaw nc codes ends (upd stk 0 0) names) (Ps := []) rfl trivial ?_
    refine ww_if_ne 8 rfl (tgt := 17) rfl (fun c2 => ?_) (fun c2 => ?_)
    · have c2 : ¬ pq + 1 = 0 := fun q => c2 ((nI_eq (a := (pq + 1)) (b := 0) (by omega) (by omega)).mpr q)
      refine ww_run 11 7 (pc' := 27) (lv' := [(4, .int (ends ((nI (pq + 1)) - 1).toNatClampNeg)), (3, .int 0), (0, .ref 0), (1, .int (nI (pq + 1))), (2, .ref 4)]) (st' := []) (w' := wLaw nc codes ends (upd stk 0 0) names) (Ps := [vp_in ((nI (pq + 1)) - 1) 3]) rfl ⟨(by rw [nI_pred pq]; exact vp_in_nI (by omega) (by omega)), trivial⟩ ?_
      rw [nI_pred pq]
      rw [nI_clamp (n := pq) (by omega)]
      rw [he pq (by omega)]
      refine ww_lv [2, 3, 4, 1, 0] (lv' := [(0, .ref 0), (1, .int (nI (pq + 1))), (2, .ref 4), (3, .int 0), (4, .int (nI (e pq)))]) rfl ?_
      refine l_X3_says_27 (by omega) nc codes ends stk names (pq + 1) e hpart hnc he h01 h12 h2n (by exact sFrom_le h01 h12 hpart) (by exact e_le h01 h12 h2n hpart) (fun sk t ht hs => ?_) (e (pq + 1) + 1) (sFrom e (pq + 1)) (upd stk 0 0) 0 (by exact sFrom_le h01 h12 hpart) (by omega) (Nat.le_refl _) (by omega) (by simp [sRun])
      refine ww_run 116 6 (pc' := 215) (lv' := [(0, .ref 0), (1, .int (nI (pq + 1))), (2, .ref 4), (3, .int (nI t)), (4, .int (nI (e (pq + 1))))]) (st' := [.int (sk 0), .int 99, .int 0]) (w' := wLaw nc codes ends sk names) (Ps := [vp_in 0 40]) rfl ⟨(vp_in_nI (n := 0) (by decide) (by decide)), trivial⟩ ?_
      refine ww_mmin 122 (idx := 25) (by decide +kernel) (by omega) (Nat.le_of_ble_eq_true rfl) rfl ?_
      refine ww_mmax 123 (idx := 31) (by decide +kernel) (by omega) (Nat.le_of_ble_eq_true rfl) rfl ?_
      refine ww_iret 124 rfl rfl ?_
      exact ⟨by rw [hs]; rfl, by rw [hs]⟩
    · exact absurd c2 (nI_ne0 (by omega) (by omega))
