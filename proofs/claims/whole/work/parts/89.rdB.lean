set_option maxHeartbeats 4000000 in
set_option maxRecDepth 100000 in
theorem m_rank  (k0 : Int32) : Co M_X7_rank 0 0 0 [.int k0] (wZero ) (Qi (nI (rk k0)) wZero ) := by
  refine Co.of ok_X7_rank rfl ?_
  refine ww_run 0 1 (pc' := 1) (lv' := [(0, .int k0)]) (st' := [.int k0]) (w' := wZero ) (Ps := []) rfl trivial ?_
  refine ww_if_ne 1 rfl (tgt := 8) rfl (fun c1 => ?_) (fun c1 => ?_)
  · refine ww_run 4 2 (pc' := 11) (lv' := [(0, .int k0)]) (st' := [.int 11, .int k0]) (w' := wZero ) (Ps := []) rfl trivial ?_
    refine ww_icmp_ne 6 rfl (tgt := 18) rfl (fun c2 => ?_) (fun c2 => ?_)
    · refine ww_run 9 2 (pc' := 21) (lv' := [(0, .int k0)]) (st' := [.int 12, .int k0]) (w' := wZero ) (Ps := []) rfl trivial ?_
      refine ww_icmp_ne 11 rfl (tgt := 28) rfl (fun c3 => ?_) (fun c3 => ?_)
      · refine ww_run 14 2 (pc' := 31) (lv' := [(0, .int k0)]) (st' := [.int 13, .int k0]) (w' := wZero ) (Ps := []) rfl trivial ?_
        refine ww_icmp_ne 16 rfl (tgt := 38) rfl (fun c4 => ?_) (fun c4 => ?_)
        · refine ww_run 19 2 (pc' := 41) (lv' := [(0, .int k0)]) (st' := [.int 15, .int k0]) (w' := wZero ) (Ps := []) rfl trivial ?_
          refine ww_icmp_gt 21 rfl (tgt := 48) rfl (fun c5 => ?_) (fun c5 => ?_)
          · refine ww_run 24 2 (pc' := 51) (lv' := [(0, .int k0)]) (st' := [.int 17, .int k0]) (w' := wZero ) (Ps := []) rfl trivial ?_
            refine ww_icmp_gt 26 rfl (tgt := 58) rfl (fun c6 => ?_) (fun c6 => ?_)
            · refine ww_run 29 2 (pc' := 61) (lv' := [(0, .int k0)]) (st' := [.int 18, .int k0]) (w' := wZero ) (Ps := []) rfl trivial ?_
              refine ww_icmp_ne 31 rfl (tgt := 69) rfl (fun c7 => ?_) (fun c7 => ?_)
              · refine ww_run 34 1 (pc' := 71) (lv' := [(0, .int k0)]) (st' := [.int 7]) (w' := wZero ) (Ps := []) rfl trivial ?_
                refine ww_iret 35 rfl rfl ?_
                exact ⟨by unfold rk; rw [if_neg c1, if_neg c2, if_neg c3, if_neg c4, if_neg (Int32.not_le.mpr c5), if_neg (Int32.not_le.mpr c6), if_neg c7]; rfl, rfl⟩
              · refine ww_run 32 2 (pc' := 71) (lv' := [(0, .int k0)]) (st' := [.int 6]) (w' := wZero ) (Ps := []) rfl trivial ?_
                refine ww_iret 35 rfl rfl ?_
                exact ⟨by unfold rk; rw [if_neg c1, if_neg c2, if_neg c3, if_neg c4, if_neg (Int32.not_le.mpr c5), if_neg (Int32.not_le.mpr c6), if_pos c7]; rfl, rfl⟩
            · refine ww_run 27 2 (pc' := 71) (lv' := [(0, .int k0)]) (st' := [.int 5]) (w' := wZero ) (Ps := []) rfl trivial ?_
              refine ww_iret 35 rfl rfl ?_
              exact ⟨by unfold rk; rw [if_neg c1, if_neg c2, if_neg c3, if_neg c4, if_neg (Int32.not_le.mpr c5), if_pos (Int32.not_lt.mp c6)]; rfl, rfl⟩
          · refine ww_run 22 2 (pc' := 71) (lv' := [(0, .int k0)]) (st' := [.int 4]) (w' := wZero ) (Ps := []) rfl trivial ?_
            refine ww_iret 35 rfl rfl ?_
            exact ⟨by unfold rk; rw [if_neg c1, if_neg c2, if_neg c3, if_neg c4, if_pos (Int32.not_lt.mp c5)]; rfl, rfl⟩
        · refine ww_run 17 2 (pc' := 71) (lv' := [(0, .int k0)]) (st' := [.int 3]) (w' := wZero ) (Ps := []) rfl trivial ?_
          refine ww_iret 35 rfl rfl ?_
          exact ⟨by unfold rk; rw [if_neg c1, if_neg c2, if_neg c3, if_pos c4]; rfl, rfl⟩
      · refine ww_run 12 2 (pc' := 71) (lv' := [(0, .int k0)]) (st' := [.int 2]) (w' := wZero ) (Ps := []) rfl trivial ?_
        refine ww_iret 35 rfl rfl ?_
        exact ⟨by unfold rk; rw [if_neg c1, if_neg c2, if_pos c3]; rfl, rfl⟩
    · refine ww_run 7 2 (pc' := 71) (lv' := [(0, .int k0)]) (st' := [.int 1]) (w' := wZero ) (Ps := []) rfl trivial ?_
      refine ww_iret 35 rfl rfl ?_
      exact ⟨by unfold rk; rw [if_neg c1, if_pos c2]; rfl, rfl⟩
  · refine ww_run 2 2 (pc' := 71) (lv' := [(0, .int k0)]) (st' := [.int 0]) (w' := wZero ) (Ps := []) rfl trivial ?_
    refine ww_iret 35 rfl rfl ?_
    exact ⟨by unfold rk; rw [if_pos c1]; rfl, rfl⟩
set_option maxHeartbeats 4000000 in
set_option maxRecDepth 100000 in
theorem ly_wf_26 {Q : Option Value → List va_E → Prop} {d : Nat} (hd : 0 ≤ d) (tp cd sr wo he : Nat → Int32) (tn tx pt bg tk vl hm op ou : Int32) (J : Nat → Int32) (K : Nat → Nat → Int32)  (a e k : Nat) (hk : k < 12) (he8 : e ≤ 160) (hae : a ≤ e) (hwo : ∀ j, j < 96 → wo j = woT j) (KK : ∀ (l : Int32) (i : Nat), ((l = 1 ∧ lkW tp a e k) ∨ (l = 0 ∧ ¬ lkW tp a e k)) → WW M_X7_wordFrom d Q xz 88 [(0, .ref 0), (1, .int (nI a)), (2, .int (nI e)), (3, .int (nI k)), (4, .int l), (5, .int (nI i))] [] (wMr tp cd sr wo he tn tx pt bg tk vl hm op ou J K)) :
    ∀ (n i : Nat) (l : Int32), i ≤ 8 → 8 + 1 ≤ i + n → ((l = 1 ∧ e - a ≤ 8 ∧ (∀ j, j < i → woT (8 * k + j) = if a + j < e then tp (a + j) else 32)) ∨ (l = 0 ∧ ¬ lkW tp a e k)) → WW M_X7_wordFrom d Q xz 26 [(0, .ref 0), (1, .int (nI a)), (2, .int (nI e)), (3, .int (nI k)), (4, .int l), (5, .int (nI i))] [] (wMr tp cd sr wo he tn tx pt bg tk vl hm op ou J K) := by
  intro n
  induction n with
  | zero => intro i; intros; omega
  | succ n ih =>
    intro i l hi hn hl
    refine ww_run 16 2 (pc' := 30) (lv' := [(0, .ref 0), (1, .int (nI a)), (2, .int (nI e)), (3, .int (nI k)), (4, .int l), (5, .int (nI i))]) (st' := [.int 8, .int (nI i)]) (w' := wMr tp cd sr wo he tn tx pt bg tk vl hm op ou J K) (Ps := []) rfl trivial ?_
    refine ww_icmp_ge 18 rfl (tgt := 88) rfl (fun c1 => ?_) (fun c1 => ?_)
    · have c1 : 8 ≤ i := (nI_leI (a := 8) (b := i) (by omega) (by omega)).mp c1
      obtain rfl : i = 8 := by omega
      refine KK l 8 ?_
      rcases hl with ⟨h1, h2, h3⟩ | h
      · exact Or.inl ⟨h1, h2, h3⟩
      · exact Or.inr h
    · have c1 : ¬ 8 ≤ i := fun q => c1 ((nI_leI (a := 8) (b := i) (by omega) (by omega)).mpr q)
      refine ww_run 19 1 (pc' := 35) (lv' := [(0, .ref 0), (1, .int (nI a)), (2, .int (nI e)), (3, .int (nI k)), (4, .int l), (5, .int (nI i))]) (st' := [.int l]) (w' := wMr tp cd sr wo he tn tx pt bg tk vl hm op ou J K) (Ps := []) rfl trivial ?_
      refine ww_if_eq 20 rfl (tgt := 88) rfl (fun c2 => ?_) (fun c2 => ?_)
      · exact KK l i (Or.inr (hl.resolve_left (fun q => absurd (q.1.symm.trans c2) (by decide))))
      · obtain ⟨-, hlen, hjs⟩ := hl.resolve_right (fun q => c2 q.1)
        refine ww_run 21 12 (pc' := 55) (lv' := [(0, .ref 0), (1, .int (nI a)), (2, .int (nI e)), (3, .int (nI k)), (4, .int l), (5, .int (nI i))]) (st' := [.int (nI e), .int ((nI a) + (nI i)), .int (wo ((8 * (nI k)) + (nI i)).toNatClampNeg)]) (w' := wMr tp cd sr wo he tn tx pt bg tk vl hm op ou J K) (Ps := [vp_in ((8 * (nI k)) + (nI i)) 96]) rfl ⟨(by rw [show (8 : Int32) * nI k = nI (8 * k) from pk_mul 8 k, nI_add (8 * k) i]; exact vp_in_nI (by omega) (by omega)), trivial⟩ ?_
        rw [show (8 : Int32) * nI k = nI (8 * k) from pk_mul 8 k]
        rw [nI_add a i]
        rw [nI_add (8 * k) i]
        rw [nI_clamp (n := (8 * k + i)) (by omega)]
        refine ww_icmp_ge 33 rfl (tgt := 70) rfl (fun c3 => ?_) (fun c3 => ?_)
        · have c3 : e ≤ a + i := (nI_leI (a := e) (b := (a + i)) (by omega) (by omega)).mp c3
          refine ww_run 41 1 (pc' := 72) (lv' := [(0, .ref 0), (1, .int (nI a)), (2, .int (nI e)), (3, .int (nI k)), (4, .int l), (5, .int (nI i))]) (st' := [.int 32, .int (wo (8 * k + i))]) (w' := wMr tp cd sr wo he tn tx pt bg tk vl hm op ou J K) (Ps := []) rfl trivial ?_
          refine ww_icmp_ne 42 rfl (tgt := 79) rfl (fun c4 => ?_) (fun c4 => ?_)
          · refine ww_run 45 4 (pc' := 26) (lv' := [(5, .int ((nI i) + 1)), (4, .int 0), (0, .ref 0), (1, .int (nI a)), (2, .int (nI e)), (3, .int (nI k))]) (st' := []) (w' := wMr tp cd sr wo he tn tx pt bg tk vl hm op ou J K) (Ps := []) rfl trivial ?_
            rw [nI_1 i]
            refine ww_lv [2, 3, 4, 5, 1, 0] (lv' := [(0, .ref 0), (1, .int (nI a)), (2, .int (nI e)), (3, .int (nI k)), (4, .int 0), (5, .int (nI (i + 1)))]) rfl ?_
            refine ih (i + 1) 0 (by omega) (by omega) (Or.inr ⟨rfl, fun q => c4 ?_⟩)
            rw [hwo _ (by omega), q.2 i (by omega), if_neg (show ¬ a + i < e by omega)]
          · refine ww_run 43 2 (pc' := 80) (lv' := [(0, .ref 0), (1, .int (nI a)), (2, .int (nI e)), (3, .int (nI k)), (4, .int l), (5, .int (nI i))]) (st' := [.int 1]) (w' := wMr tp cd sr wo he tn tx pt bg tk vl hm op ou J K) (Ps := []) rfl trivial ?_
            refine ww_run 46 3 (pc' := 26) (lv' := [(5, .int ((nI i) + 1)), (4, .int 1), (0, .ref 0), (1, .int (nI a)), (2, .int (nI e)), (3, .int (nI k))]) (st' := []) (w' := wMr tp cd sr wo he tn tx pt bg tk vl hm op ou J K) (Ps := []) rfl trivial ?_
            rw [nI_1 i]
            refine ww_lv [2, 3, 4, 5, 1, 0] (lv' := [(0, .ref 0), (1, .int (nI a)), (2, .int (nI e)), (3, .int (nI k)), (4, .int 1), (5, .int (nI (i + 1)))]) rfl ?_
            refine ih (i + 1) 1 (by omega) (by omega) (Or.inl ⟨rfl, hlen, fun j hj => ?_⟩)
            rcases Nat.lt_or_ge j i with g | g
            · exact hjs j g
            · obtain rfl : j = i := by omega
              rw [← hwo _ (by omega), c4, if_neg (show ¬ a + j < e by omega)]
        · have c3 : ¬ e ≤ a + i := fun q => c3 ((nI_leI (a := e) (b := (a + i)) (by omega) (by omega)).mpr q)
          refine ww_run 34 7 (pc' := 72) (lv' := [(0, .ref 0), (1, .int (nI a)), (2, .int (nI e)), (3, .int (nI k)), (4, .int l), (5, .int (nI i))]) (st' := [.int (tp ((nI a) + (nI i)).toNatClampNeg), .int (wo (8 * k + i))]) (w' := wMr tp cd sr wo he tn tx pt bg tk vl hm op ou J K) (Ps := [vp_in ((nI a) + (nI i)) 160]) rfl ⟨(by rw [nI_add a i]; exact vp_in_nI (by omega) (by omega)), trivial⟩ ?_
          rw [nI_add a i]
          rw [nI_clamp (n := (a + i)) (by omega)]
          refine ww_icmp_ne 42 rfl (tgt := 79) rfl (fun c5 => ?_) (fun c5 => ?_)
          · refine ww_run 45 4 (pc' := 26) (lv' := [(5, .int ((nI i) + 1)), (4, .int 0), (0, .ref 0), (1, .int (nI a)), (2, .int (nI e)), (3, .int (nI k))]) (st' := []) (w' := wMr tp cd sr wo he tn tx pt bg tk vl hm op ou J K) (Ps := []) rfl trivial ?_
            rw [nI_1 i]
            refine ww_lv [2, 3, 4, 5, 1, 0] (lv' := [(0, .ref 0), (1, .int (nI a)), (2, .int (nI e)), (3, .int (nI k)), (4, .int 0), (5, .int (nI (i + 1)))]) rfl ?_
            refine ih (i + 1) 0 (by omega) (by omega) (Or.inr ⟨rfl, fun q => c5 ?_⟩)
            rw [hwo _ (by omega), q.2 i (by omega), if_pos (show a + i < e by omega)]
          · refine ww_run 43 2 (pc' := 80) (lv' := [(0, .ref 0), (1, .int (nI a)), (2, .int (nI e)), (3, .int (nI k)), (4, .int l), (5, .int (nI i))]) (st' := [.int 1]) (w' := wMr tp cd sr wo he tn tx pt bg tk vl hm op ou J K) (Ps := []) rfl trivial ?_
            refine ww_run 46 3 (pc' := 26) (lv' := [(5, .int ((nI i) + 1)), (4, .int 1), (0, .ref 0), (1, .int (nI a)), (2, .int (nI e)), (3, .int (nI k))]) (st' := []) (w' := wMr tp cd sr wo he tn tx pt bg tk vl hm op ou J K) (Ps := []) rfl trivial ?_
            rw [nI_1 i]
            refine ww_lv [2, 3, 4, 5, 1, 0] (lv' := [(0, .ref 0), (1, .int (nI a)), (2, .int (nI e)), (3, .int (nI k)), (4, .int 1), (5, .int (nI (i + 1)))]) rfl ?_
            refine ih (i + 1) 1 (by omega) (by omega) (Or.inl ⟨rfl, hlen, fun j hj => ?_⟩)
            rcases Nat.lt_or_ge j i with g | g
            · exact hjs j g
            · obtain rfl : j = i := by omega
              rw [← hwo _ (by omega), c5, if_pos (show a + j < e by omega)]
set_option maxHeartbeats 4000000 in
set_option maxRecDepth 100000 in
theorem ly_wf_2 {Q : Option Value → List va_E → Prop} {d : Nat} (hd : 0 ≤ d) (tp cd sr wo he : Nat → Int32) (tn tx pt bg tk vl hm op ou : Int32) (J : Nat → Int32) (K : Nat → Nat → Int32)  (a e : Nat) (he8 : e ≤ 160) (hae : a ≤ e) (V : Nat) (hwo : ∀ j, j < 96 → wo j = woT j) (KK : Q (some (.int (nI V))) (wMr tp cd sr wo he tn tx pt bg tk vl hm op ou J K)) :
    ∀ (n i : Nat) , i ≤ 12 → 12 + 1 ≤ i + n → wfF tp a e (12 - i) i = V → WW M_X7_wordFrom d Q xz 2 [(0, .ref 0), (1, .int (nI a)), (2, .int (nI e)), (3, .int (nI i))] [] (wMr tp cd sr wo he tn tx pt bg tk vl hm op ou J K) := by
  intro n
  induction n with
  | zero => intro i; intros; omega
  | succ n ih =>
    intro i  hi hn hv
    refine ww_run 2 2 (pc' := 5) (lv' := [(0, .ref 0), (1, .int (nI a)), (2, .int (nI e)), (3, .int (nI i))]) (st' := [.int 12, .int (nI i)]) (w' := wMr tp cd sr wo he tn tx pt bg tk vl hm op ou J K) (Ps := []) rfl trivial ?_
    refine ww_icmp_ge 4 rfl (tgt := 101) rfl (fun c1 => ?_) (fun c1 => ?_)
    · have c1 : 12 ≤ i := (nI_leI (a := 12) (b := i) (by omega) (by omega)).mp c1
      refine ww_run 55 1 (pc' := 103) (lv' := [(0, .ref 0), (1, .int (nI a)), (2, .int (nI e)), (3, .int (nI i))]) (st' := [.int 12]) (w' := wMr tp cd sr wo he tn tx pt bg tk vl hm op ou J K) (Ps := []) rfl trivial ?_
      refine ww_iret 56 rfl rfl ?_
      obtain rfl : i = 12 := by omega
      simp only [Nat.sub_self, wfF] at hv
      subst hv
      exact KK
    · have c1 : ¬ 12 ≤ i := fun q => c1 ((nI_leI (a := 12) (b := i) (by omega) (by omega)).mpr q)
      refine ww_run 5 4 (pc' := 13) (lv' := [(0, .ref 0), (1, .int (nI a)), (2, .int (nI e)), (3, .int (nI i))]) (st' := [.int 8, .int ((nI e) - (nI a))]) (w' := wMr tp cd sr wo he tn tx pt bg tk vl hm op ou J K) (Ps := []) rfl trivial ?_
      rw [pk_sub (a := e) (b := a) hae]
      refine ww_icmp_gt 9 rfl (tgt := 20) rfl (fun c2 => ?_) (fun c2 => ?_)
      · have c2 : 8 < e - a := (nI_ltI (a := 8) (b := (e - a)) (by omega) (by omega)).mp c2
        refine ww_run 12 4 (pc' := 26) (lv' := [(5, .int 0), (4, .int 0), (0, .ref 0), (1, .int (nI a)), (2, .int (nI e)), (3, .int (nI i))]) (st' := []) (w' := wMr tp cd sr wo he tn tx pt bg tk vl hm op ou J K) (Ps := []) rfl trivial ?_
        refine ww_lv [2, 3, 4, 5, 1, 0] (lv' := [(0, .ref 0), (1, .int (nI a)), (2, .int (nI e)), (3, .int (nI i)), (4, .int 0), (5, .int 0)]) rfl ?_
        refine ly_wf_26 (Nat.zero_le _) tp cd sr wo he tn tx pt bg tk vl hm op ou J K a e i (by omega) he8 hae hwo (fun l j hl => ?_) 9 0 0 (by omega) (by omega) (Or.inr ⟨rfl, fun q => absurd q.1 (by omega)⟩)
        refine ww_run 49 1 (pc' := 90) (lv' := [(0, .ref 0), (1, .int (nI a)), (2, .int (nI e)), (3, .int (nI i)), (4, .int l), (5, .int (nI j))]) (st' := [.int l]) (w' := wMr tp cd sr wo he tn tx pt bg tk vl hm op ou J K) (Ps := []) rfl trivial ?_
        refine ww_if_eq 50 rfl (tgt := 95) rfl (fun c3 => ?_) (fun c3 => ?_)
        · refine ww_run 53 2 (pc' := 2) (lv' := [(3, .int ((nI i) + 1)), (0, .ref 0), (1, .int (nI a)), (2, .int (nI e)), (4, .int l), (5, .int (nI j))]) (st' := []) (w' := wMr tp cd sr wo he tn tx pt bg tk vl hm op ou J K) (Ps := []) rfl trivial ?_
          rw [nI_1 i]
          refine ww_lv [1, 2, 3, 0] (lv' := [(0, .ref 0), (1, .int (nI a)), (2, .int (nI e)), (3, .int (nI (i + 1)))]) rfl ?_
          refine ih (i + 1) (by omega) (by omega) ?_
          rw [show 12 - i = (12 - (i + 1)) + 1 by omega] at hv
          simp only [wfF] at hv
          rw [if_neg (hl.resolve_left (fun q => absurd (q.1.symm.trans c3) (by decide))).2] at hv
          exact hv
        · refine ww_run 51 1 (pc' := 94) (lv' := [(0, .ref 0), (1, .int (nI a)), (2, .int (nI e)), (3, .int (nI i)), (4, .int l), (5, .int (nI j))]) (st' := [.int (nI i)]) (w' := wMr tp cd sr wo he tn tx pt bg tk vl hm op ou J K) (Ps := []) rfl trivial ?_
          refine ww_iret 52 rfl rfl ?_
          rw [show 12 - i = (12 - (i + 1)) + 1 by omega] at hv
          simp only [wfF] at hv
          rw [if_pos (hl.resolve_right (fun q => c3 q.1)).2] at hv
          subst hv
          exact KK
      · have c2 : ¬ 8 < e - a := fun q => c2 ((nI_ltI (a := 8) (b := (e - a)) (by omega) (by omega)).mpr q)
        refine ww_run 10 2 (pc' := 21) (lv' := [(0, .ref 0), (1, .int (nI a)), (2, .int (nI e)), (3, .int (nI i))]) (st' := [.int 1]) (w' := wMr tp cd sr wo he tn tx pt bg tk vl hm op ou J K) (Ps := []) rfl trivial ?_
        refine ww_run 13 3 (pc' := 26) (lv' := [(5, .int 0), (4, .int 1), (0, .ref 0), (1, .int (nI a)), (2, .int (nI e)), (3, .int (nI i))]) (st' := []) (w' := wMr tp cd sr wo he tn tx pt bg tk vl hm op ou J K) (Ps := []) rfl trivial ?_
        refine ww_lv [2, 3, 4, 5, 1, 0] (lv' := [(0, .ref 0), (1, .int (nI a)), (2, .int (nI e)), (3, .int (nI i)), (4, .int 1), (5, .int 0)]) rfl ?_
        refine ly_wf_26 (Nat.zero_le _) tp cd sr wo he tn tx pt bg tk vl hm op ou J K a e i (by omega) he8 hae hwo (fun l j hl => ?_) 9 0 1 (by omega) (by omega) (Or.inl ⟨rfl, by omega, fun j h => absurd h (by omega)⟩)
        refine ww_run 49 1 (pc' := 90) (lv' := [(0, .ref 0), (1, .int (nI a)), (2, .int (nI e)), (3, .int (nI i)), (4, .int l), (5, .int (nI j))]) (st' := [.int l]) (w' := wMr tp cd sr wo he tn tx pt bg tk vl hm op ou J K) (Ps := []) rfl trivial ?_
        refine ww_if_eq 50 rfl (tgt := 95) rfl (fun c4 => ?_) (fun c4 => ?_)
        · refine ww_run 53 2 (pc' := 2) (lv' := [(3, .int ((nI i) + 1)), (0, .ref 0), (1, .int (nI a)), (2, .int (nI e)), (4, .int l), (5, .int (nI j))]) (st' := []) (w' := wMr tp cd sr wo he tn tx pt bg tk vl hm op ou J K) (Ps := []) rfl trivial ?_
          rw [nI_1 i]
          refine ww_lv [1, 2, 3, 0] (lv' := [(0, .ref 0), (1, .int (nI a)), (2, .int (nI e)), (3, .int (nI (i + 1)))]) rfl ?_
          refine ih (i + 1) (by omega) (by omega) ?_
          rw [show 12 - i = (12 - (i + 1)) + 1 by omega] at hv
          simp only [wfF] at hv
          rw [if_neg (hl.resolve_left (fun q => absurd (q.1.symm.trans c4) (by decide))).2] at hv
          exact hv
        · refine ww_run 51 1 (pc' := 94) (lv' := [(0, .ref 0), (1, .int (nI a)), (2, .int (nI e)), (3, .int (nI i)), (4, .int l), (5, .int (nI j))]) (st' := [.int (nI i)]) (w' := wMr tp cd sr wo he tn tx pt bg tk vl hm op ou J K) (Ps := []) rfl trivial ?_
          refine ww_iret 52 rfl rfl ?_
          rw [show 12 - i = (12 - (i + 1)) + 1 by omega] at hv
          simp only [wfF] at hv
          rw [if_pos (hl.resolve_right (fun q => c4 q.1)).2] at hv
          subst hv
          exact KK
set_option maxHeartbeats 4000000 in
set_option maxRecDepth 100000 in
theorem m_wordFrom (tp cd sr wo he : Nat → Int32) (tn tx pt bg tk vl hm op ou : Int32) (J : Nat → Int32) (K : Nat → Nat → Int32) (a e : Nat) (he8 : e ≤ 160) (hae : a ≤ e) (hwo : ∀ j, j < 96 → wo j = woT j) : Co M_X7_wordFrom 0 0 0 [.ref 0, .int (nI a), .int (nI e)] (wMr tp cd sr wo he tn tx pt bg tk vl hm op ou J K) (Qi (nI (wfF tp a e 12 0)) (wMr tp cd sr wo he tn tx pt bg tk vl hm op ou J K)) := by
  refine Co.of ok_X7_wordFrom rfl ?_
  refine ww_run 0 2 (pc' := 2) (lv' := [(3, .int 0), (0, .ref 0), (1, .int (nI a)), (2, .int (nI e))]) (st' := []) (w' := wMr tp cd sr wo he tn tx pt bg tk vl hm op ou J K) (Ps := []) rfl trivial ?_
  refine ww_lv [1, 2, 3, 0] (lv' := [(0, .ref 0), (1, .int (nI a)), (2, .int (nI e)), (3, .int 0)]) rfl ?_
  exact ly_wf_2 (Nat.zero_le _) tp cd sr wo he tn tx pt bg tk vl hm op ou J K a e he8 hae _ hwo ⟨rfl, rfl⟩ 13 0 (by omega) (by omega) rfl
