set_option maxHeartbeats 8000000 in
set_option maxRecDepth 100000 in
theorem ly_mini {Q : Option Value → List va_E → Prop} (KK : WW M_X7_init 5 Q (28, 2231, 28, 2231) 1146 [(1, .int (nI 50)), (0, .ref 0)] [] (wMr (dfB 50) (fun _ => 0) (fun _ => 0) woT (fun _ => 0) 0 0 0 0 0 0 0 0 0 Jst Kst)) : ∀ (n i : Nat), i ≤ 50 → 51 ≤ i + n → WW M_X7_init 5 Q (28, 2231, 28, 2231) 1122 [(1, .int (nI i)), (0, .ref 0)] [] (wMr (dfB i) (fun _ => 0) (fun _ => 0) woT (fun _ => 0) 0 0 0 0 0 0 0 0 0 Jst Kst) := by
  intro n
  induction n with
  | zero => intros; omega
  | succ n ih =>
    intro i hi hn
    refine ww_run 731 2 (pc' := 1125) (lv' := [(1, .int (nI i)), (0, .ref 0)]) (st' := [.int 50, .int (nI i)]) (w' := wMr (dfB i) (fun _ => 0) (fun _ => 0) woT (fun _ => 0) 0 0 0 0 0 0 0 0 0 Jst Kst) (Ps := []) rfl trivial ?_
    refine ww_icmp_ge 733 rfl (tgt := 1146) rfl (fun c => ?_) (fun c => ?_)
    · have c : 50 ≤ i := (nI_leI (a := 50) (b := i) (by omega) (by omega)).mp c
      obtain rfl : i = 50 := by omega
      exact KK
    · have c : ¬ 50 ≤ i := fun q => c ((nI_leI (a := 50) (b := i) (by omega) (by omega)).mpr q)
      refine ww_run 734 8 (pc' := 1140) (lv' := [(1, .int (nI i)), (0, .ref 0)]) (st' := []) (w' := wMr (upd (dfB i) (nI i).toNatClampNeg (sbyt 0 (nI i).toNatClampNeg)) (fun _ => 0) (fun _ => 0) woT (fun _ => 0) 0 0 0 0 0 0 0 0 0 Jst Kst) (Ps := [vp_in (nI i) 50, vp_in (nI i) 160]) rfl ⟨vp_in_nI (by omega) (by omega), vp_in_nI (by omega) (by omega), trivial⟩ ?_
      rw [nI_clamp (n := i) (by omega), dfB_s i]
      refine ww_run 742 2 (pc' := 1122) (lv' := [(1, .int (nI i + 1)), (0, .ref 0)]) (st' := []) (w' := wMr (dfB (i + 1)) (fun _ => 0) (fun _ => 0) woT (fun _ => 0) 0 0 0 0 0 0 0 0 0 Jst Kst) (Ps := []) rfl trivial ?_
      rw [nI_1 i]
      exact ih (i + 1) (by omega) (by omega)
set_option maxRecDepth 100000 in
theorem rf_start : (match rfR (dfB 50) 50 3 0 [] 0 [] with | .inl _ => false | .inr _ => true) = true := by decide +kernel
set_option maxHeartbeats 8000000 in
set_option maxRecDepth 100000 in
theorem x_minit : Co M_X7_init 5 28 2231 [.ref 0] [.inr (6, [.int 0, .null, .int 0, .null, .null, .null, .null, .int 0, .null, .null, .int 0, .int 0, .int 0, .int 0, .int 0, .int 0, .null, .null, .null, .null, .null, .null, .null, .int 0, .int 0, .int 0, .int 0, .null, .null, .int 0, .int 0, .int 0, .null, .null, .null, .null, .null, .null, .null, .null, .null, .null, .int 0, .null, .int 0, .int 0, .null])] (fun r w' => r = none ∧ ∃ (O' : List Int32) (L : List Nat) (he : Nat → Int32) (hm op pt bg tk vl ou : Int32), rfR (dfB 50) 50 3 0 [] 0 [] = .inr (O', L) ∧ w' = wMr (dfB 50) (cdB (fun _ => 0) (200 * 0) O') (srL (fun _ => 0) (4 * 0) L) woT he 0 (nI 1) pt bg tk vl hm op ou Jst Kst) := by
  refine Co.of ok_X7_init rfl ?_
  refine x_minit1 ?_
  refine ww_run 729 2 (pc' := 1122) (lv' := [(1, .int 0), (0, .ref 0)]) (st' := []) (w' := wMr (fun _ => 0) (fun _ => 0) (fun _ => 0) woT (fun _ => 0) 0 0 0 0 0 0 0 0 0 Jst Kst) (Ps := []) rfl trivial ?_
  have e0 : wMr (fun _ => 0) (fun _ => 0) (fun _ => 0) woT (fun _ => 0) 0 0 0 0 0 0 0 0 0 Jst Kst = wMr (dfB 0) (fun _ => 0) (fun _ => 0) woT (fun _ => 0) 0 0 0 0 0 0 0 0 0 Jst Kst := by rw [show dfB 0 = (fun _ => 0) by funext j; unfold dfB; rw [if_neg (Nat.not_lt_zero j)]]
  rw [e0]
  refine ly_mini ?_ 51 0 (by omega) (by omega)
  refine ww_run 744 4 (pc' := 1153) (lv' := [(1, .int (nI 50)), (0, .ref 0)]) (st' := [.ref 0]) (w' := wMr (dfB 50) (fun _ => 0) (fun _ => 0) woT (fun _ => 0) 50 0 0 0 0 0 0 0 0 Jst Kst) (Ps := []) rfl trivial ?_
  refine ww_callV 748 (b := 0) (av := []) ok_X7_text (m_text (dfB 50) (fun _ => 0) (fun _ => 0) woT (fun _ => 0) 0 0 0 0 0 0 0 Jst Kst 50 0 (by decide) (by decide) (fun j _ => rfl)) lk_X7_101 rfl (Nat.le_of_ble_eq_true rfl) (Nat.le_of_ble_eq_true rfl) (Or.inl rfl) (by omega) (rest := []) rfl (Nat.le_of_ble_eq_true rfl) rfl rfl rfl rfl (fun r w' hq => ?_)
  rcases hq with ⟨h6, -⟩ | ⟨a, O', sr', he, hm, op, pt, bg, tk, vl, ou, -, hR, -⟩ | ⟨O', L, he, hm, op, pt, bg, tk, vl, ou, -, hR, rfl, rfl⟩
  · exact absurd h6 (by decide)
  · have h1 := rf_start
    rw [hR] at h1
    cases h1
  · refine ww_run 749 1 (pc' := 1157) (lv' := [(1, .int (nI 50)), (0, .ref 0)]) (st' := []) (w' := wMr (dfB 50) (cdB (fun _ => 0) (200 * 0) O') (srL (fun _ => 0) (4 * 0) L) woT he 0 (nI (0 + 1)) pt bg tk vl hm op ou Jst Kst) (Ps := []) rfl trivial ?_
    refine ww_vret 750 rfl rfl ?_
    exact ⟨rfl, O', L, he, hm, op, pt, bg, tk, vl, ou, hR, rfl⟩
