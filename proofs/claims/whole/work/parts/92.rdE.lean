set_option maxHeartbeats 4000000 in
set_option maxRecDepth 100000 in
theorem m_puts (tp cd sr wo he : Nat → Int32) (tn pt bg tk vl hm op : Int32) (J : Nat → Int32) (K : Nat → Nat → Int32) (t o : Nat) (ht : t < 6) (ho : o < 200) (v : Int32) : Co M_X7_puts 0 0 0 [.ref 0, .int v] (wMr tp cd sr wo he tn (nI t) pt bg tk vl hm op (nI o) J K) (Qv (wMr tp (upd cd (200 * t + o) v) sr wo he tn (nI t) pt bg tk vl hm op (nI (o + 1)) J K)) := by
  refine Co.of ok_X7_puts rfl ?_
  refine ww_run 0 17 (pc' := 29) (lv' := [(0, .ref 0), (1, .int v)]) (st' := []) (w' := wMr tp (upd cd (((200 * (nI t)) + (nI o)).toNatClampNeg) v) sr wo he tn (nI t) pt bg tk vl hm op ((nI o) + 1) J K) (Ps := [vp_in ((200 * (nI t)) + (nI o)) 1200]) rfl ⟨(by rw [show (200 : Int32) * nI t = nI (200 * t) from pk_mul 200 t, nI_add (200 * t) o]; exact vp_in_nI (by omega) (by omega)), trivial⟩ ?_
  rw [nI_1 o]
  rw [show (200 : Int32) * nI t = nI (200 * t) from pk_mul 200 t]
  rw [nI_add (200 * t) o]
  rw [nI_clamp (n := (200 * t + o)) (by omega)]
  refine ww_vret 17 rfl rfl ?_
  exact ⟨rfl, rfl⟩
set_option maxHeartbeats 4000000 in
set_option maxRecDepth 100000 in
theorem m_holds (tp cd sr wo he : Nat → Int32) (tn tx pt bg tk vl op ou : Int32) (J : Nat → Int32) (K : Nat → Nat → Int32) (h : Nat) (hh : h < 200) (v : Int32) : Co M_X7_holds 0 0 0 [.ref 0, .int v] (wMr tp cd sr wo he tn tx pt bg tk vl (nI h) op ou J K) (Qv (wMr tp cd sr wo (upd he h v) tn tx pt bg tk vl (nI (h + 1)) op ou J K)) := by
  refine Co.of ok_X7_holds rfl ?_
  refine ww_run 0 12 (pc' := 20) (lv' := [(0, .ref 0), (1, .int v)]) (st' := []) (w' := wMr tp cd sr wo (upd he ((nI h).toNatClampNeg) v) tn tx pt bg tk vl ((nI h) + 1) op ou J K) (Ps := [vp_in (nI h) 200]) rfl ⟨(vp_in_nI (by omega) (by omega)), trivial⟩ ?_
  rw [nI_clamp (n := h) (by omega)]
  rw [nI_1 h]
  refine ww_vret 12 rfl rfl ?_
  exact ⟨rfl, rfl⟩
set_option maxHeartbeats 4000000 in
set_option maxRecDepth 100000 in
theorem m_opensOne (tp cd sr wo he : Nat → Int32) (tn tx pt bg tk vl ou : Int32) (J : Nat → Int32) (K : Nat → Nat → Int32) (h o : Nat) (hh : h < 200) (ho : o ≤ 200) (v : Int32) : Co M_X7_opensOne 1 0 0 [.ref 0, .int v] (wMr tp cd sr wo he tn tx pt bg tk vl (nI h) (nI o) ou J K) (fun r w' => ((o = 5) ∧ r = some (.int 0) ∧ w' = wMr tp cd sr wo he tn tx pt bg tk vl (nI h) (nI o) ou J K) ∨ ((¬ o = 5) ∧ r = some (.int 1) ∧ w' = wMr tp cd sr wo (upd he h v) tn tx pt bg tk vl (nI (h + 1)) (nI (o + 1)) ou J K)) := by
  refine Co.of ok_X7_opensOne rfl ?_
  refine ww_run 0 3 (pc' := 5) (lv' := [(0, .ref 0), (1, .int v)]) (st' := [.int 5, .int (nI o)]) (w' := wMr tp cd sr wo he tn tx pt bg tk vl (nI h) (nI o) ou J K) (Ps := []) rfl trivial ?_
  refine ww_icmp_ne 3 rfl (tgt := 10) rfl (fun c1 => ?_) (fun c1 => ?_)
  · have c1 : ¬ o = 5 := fun q => c1 ((nI_eq (a := o) (b := 5) (by omega) (by omega)).mpr q)
    refine ww_run 6 8 (pc' := 22) (lv' := [(0, .ref 0), (1, .int v)]) (st' := [.int v, .ref 0]) (w' := wMr tp cd sr wo he tn tx pt bg tk vl (nI h) ((nI o) + 1) ou J K) (Ps := []) rfl trivial ?_
    rw [nI_1 o]
    refine ww_cVv 14 ok_X7_holds (m_holds tp cd sr wo he tn tx pt bg tk vl (nI (o + 1)) ou J K h (by omega) v) lk_X7_161 rfl (by omega) (rest := []) rfl (Nat.le_of_ble_eq_true rfl) rfl rfl rfl rfl ?_
    refine ww_run 15 1 (pc' := 26) (lv' := [(0, .ref 0), (1, .int v)]) (st' := [.int 1]) (w' := wMr tp cd sr wo (upd he h v) tn tx pt bg tk vl (nI (h + 1)) (nI (o + 1)) ou J K) (Ps := []) rfl trivial ?_
    refine ww_zret 16 rfl rfl rfl ?_
    exact Or.inr ⟨by omega, rfl, rfl⟩
  · have c1 : o = 5 := (nI_eq (a := o) (b := 5) (by omega) (by omega)).mp c1
    refine ww_run 4 1 (pc' := 9) (lv' := [(0, .ref 0), (1, .int v)]) (st' := [.int 0]) (w' := wMr tp cd sr wo he tn tx pt bg tk vl (nI h) (nI o) ou J K) (Ps := []) rfl trivial ?_
    refine ww_zret 5 rfl rfl rfl ?_
    exact Or.inl ⟨by omega, rfl, rfl⟩
set_option maxHeartbeats 4000000 in
set_option maxRecDepth 100000 in
theorem m_signOf (tp cd sr wo he : Nat → Int32) (tn tx pt bg tk vl hm op ou : Int32) (J : Nat → Int32) (K : Nat → Nat → Int32)  : Co M_X7_signOf 0 0 0 [.ref 0] (wMr tp cd sr wo he tn tx pt bg tk vl hm op ou J K) (Qi (sgT tk) (wMr tp cd sr wo he tn tx pt bg tk vl hm op ou J K)) := by
  refine Co.of ok_X7_signOf rfl ?_
  refine ww_run 0 3 (pc' := 5) (lv' := [(0, .ref 0)]) (st' := [.int 4, .int tk]) (w' := wMr tp cd sr wo he tn tx pt bg tk vl hm op ou J K) (Ps := []) rfl trivial ?_
  refine ww_icmp_ne 3 rfl (tgt := 13) rfl (fun c1 => ?_) (fun c1 => ?_)
  · refine ww_run 6 3 (pc' := 18) (lv' := [(0, .ref 0)]) (st' := [.int 5, .int tk]) (w' := wMr tp cd sr wo he tn tx pt bg tk vl hm op ou J K) (Ps := []) rfl trivial ?_
    refine ww_icmp_ne 9 rfl (tgt := 26) rfl (fun c2 => ?_) (fun c2 => ?_)
    · refine ww_run 12 3 (pc' := 32) (lv' := [(0, .ref 0)]) (st' := [.int 60, .int tk]) (w' := wMr tp cd sr wo he tn tx pt bg tk vl hm op ou J K) (Ps := []) rfl trivial ?_
      refine ww_icmp_ne 15 rfl (tgt := 40) rfl (fun c3 => ?_) (fun c3 => ?_)
      · refine ww_run 18 3 (pc' := 46) (lv' := [(0, .ref 0)]) (st' := [.int 61, .int tk]) (w' := wMr tp cd sr wo he tn tx pt bg tk vl hm op ou J K) (Ps := []) rfl trivial ?_
        refine ww_icmp_ne 21 rfl (tgt := 54) rfl (fun c4 => ?_) (fun c4 => ?_)
        · refine ww_run 24 3 (pc' := 60) (lv' := [(0, .ref 0)]) (st' := [.int 43, .int tk]) (w' := wMr tp cd sr wo he tn tx pt bg tk vl hm op ou J K) (Ps := []) rfl trivial ?_
          refine ww_icmp_ne 27 rfl (tgt := 68) rfl (fun c5 => ?_) (fun c5 => ?_)
          · refine ww_run 30 3 (pc' := 74) (lv' := [(0, .ref 0)]) (st' := [.int 45, .int tk]) (w' := wMr tp cd sr wo he tn tx pt bg tk vl hm op ou J K) (Ps := []) rfl trivial ?_
            refine ww_icmp_ne 33 rfl (tgt := 82) rfl (fun c6 => ?_) (fun c6 => ?_)
            · refine ww_run 36 3 (pc' := 88) (lv' := [(0, .ref 0)]) (st' := [.int 42, .int tk]) (w' := wMr tp cd sr wo he tn tx pt bg tk vl hm op ou J K) (Ps := []) rfl trivial ?_
              refine ww_icmp_ne 39 rfl (tgt := 96) rfl (fun c7 => ?_) (fun c7 => ?_)
              · refine ww_run 42 1 (pc' := 97) (lv' := [(0, .ref 0)]) (st' := [.int (-1)]) (w' := wMr tp cd sr wo he tn tx pt bg tk vl hm op ou J K) (Ps := []) rfl trivial ?_
                refine ww_iret 43 rfl rfl ?_
                exact ⟨by unfold sgT; rw [if_neg c1, if_neg c2, if_neg c3, if_neg c4, if_neg c5, if_neg c6, if_neg c7], rfl⟩
              · refine ww_run 40 2 (pc' := 97) (lv' := [(0, .ref 0)]) (st' := [.int 18]) (w' := wMr tp cd sr wo he tn tx pt bg tk vl hm op ou J K) (Ps := []) rfl trivial ?_
                refine ww_iret 43 rfl rfl ?_
                exact ⟨by unfold sgT; rw [if_neg c1, if_neg c2, if_neg c3, if_neg c4, if_neg c5, if_neg c6, if_pos c7], rfl⟩
            · refine ww_run 34 2 (pc' := 97) (lv' := [(0, .ref 0)]) (st' := [.int 17]) (w' := wMr tp cd sr wo he tn tx pt bg tk vl hm op ou J K) (Ps := []) rfl trivial ?_
              refine ww_iret 43 rfl rfl ?_
              exact ⟨by unfold sgT; rw [if_neg c1, if_neg c2, if_neg c3, if_neg c4, if_neg c5, if_pos c6], rfl⟩
          · refine ww_run 28 2 (pc' := 97) (lv' := [(0, .ref 0)]) (st' := [.int 16]) (w' := wMr tp cd sr wo he tn tx pt bg tk vl hm op ou J K) (Ps := []) rfl trivial ?_
            refine ww_iret 43 rfl rfl ?_
            exact ⟨by unfold sgT; rw [if_neg c1, if_neg c2, if_neg c3, if_neg c4, if_pos c5], rfl⟩
        · refine ww_run 22 2 (pc' := 97) (lv' := [(0, .ref 0)]) (st' := [.int 15]) (w' := wMr tp cd sr wo he tn tx pt bg tk vl hm op ou J K) (Ps := []) rfl trivial ?_
          refine ww_iret 43 rfl rfl ?_
          exact ⟨by unfold sgT; rw [if_neg c1, if_neg c2, if_neg c3, if_pos c4], rfl⟩
      · refine ww_run 16 2 (pc' := 97) (lv' := [(0, .ref 0)]) (st' := [.int 14]) (w' := wMr tp cd sr wo he tn tx pt bg tk vl hm op ou J K) (Ps := []) rfl trivial ?_
        refine ww_iret 43 rfl rfl ?_
        exact ⟨by unfold sgT; rw [if_neg c1, if_neg c2, if_pos c3], rfl⟩
    · refine ww_run 10 2 (pc' := 97) (lv' := [(0, .ref 0)]) (st' := [.int 12]) (w' := wMr tp cd sr wo he tn tx pt bg tk vl hm op ou J K) (Ps := []) rfl trivial ?_
      refine ww_iret 43 rfl rfl ?_
      exact ⟨by unfold sgT; rw [if_neg c1, if_pos c2], rfl⟩
  · refine ww_run 4 2 (pc' := 97) (lv' := [(0, .ref 0)]) (st' := [.int 11]) (w' := wMr tp cd sr wo he tn tx pt bg tk vl hm op ou J K) (Ps := []) rfl trivial ?_
    refine ww_iret 43 rfl rfl ?_
    exact ⟨by unfold sgT; rw [if_pos c1], rfl⟩
set_option maxHeartbeats 4000000 in
set_option maxRecDepth 100000 in
theorem ly_unw {Q : Option Value → List va_E → Prop} {d : Nat} (hd : 1 ≤ d) (tp sr wo he : Nat → Int32) (tn pt bg tk vl : Int32) (J : Nat → Int32) (K : Nat → Nat → Int32) (cd0 : Nat → Int32) (t l : Nat) (ht : t < 6) (hl : 1 ≤ l) (hl8 : l < 8) (V : List Int32 × List Int32) (KK : WW M_X7_unwinds d Q xz 79 [(0, .ref 0), (1, .int (nI l))] [] (wMr tp (cdB cd0 (200 * t) V.2) sr wo he tn (nI t) pt bg tk vl (nI V.1.length) (nI (opn V.1)) (nI V.2.length) J K)) :
    ∀ (H O : List Int32), H.length + O.length ≤ 199 → StkR he H → unw l H O = V → WW M_X7_unwinds d Q xz 0 [(0, .ref 0), (1, .int (nI l))] [] (wMr tp (cdB cd0 (200 * t) O) sr wo he tn (nI t) pt bg tk vl (nI H.length) (nI (opn H)) (nI O.length) J K) := by
  intro H
  induction H with
  | nil =>
    intro O hb hs hv
    refine ww_run 0 2 (pc' := 4) (lv' := [(0, .ref 0), (1, .int (nI l))]) (st' := [.int (nI 0)]) (w' := wMr tp (cdB cd0 (200 * t) O) sr wo he tn (nI t) pt bg tk vl (nI 0) (nI 0) (nI O.length) J K) (Ps := []) rfl trivial ?_
    refine ww_if_le 2 rfl (tgt := 79) rfl (fun c1 => ?_) (fun c1 => ?_)
    · have c1 : 0 ≤ 0 := (nI_leI (a := 0) (b := 0) (by omega) (by omega)).mp c1
      simp only [unw] at hv
      subst hv
      exact KK
    · exact absurd c1 (by decide)
  | cons x H ih =>
    intro O hb hs hv
    have hb : H.length + 1 + O.length ≤ 199 := hb
    have hrk := rk_le x
    refine ww_run 0 2 (pc' := 4) (lv' := [(0, .ref 0), (1, .int (nI l))]) (st' := [.int (nI (H.length + 1))]) (w' := wMr tp (cdB cd0 (200 * t) O) sr wo he tn (nI t) pt bg tk vl (nI (H.length + 1)) (nI (opn (x :: H))) (nI O.length) J K) (Ps := []) rfl trivial ?_
    refine ww_if_le 2 rfl (tgt := 79) rfl (fun c1 => ?_) (fun c1 => ?_)
    · have c1 : H.length + 1 ≤ 0 := (nI_leI (a := (H.length + 1)) (b := 0) (by omega) (by omega)).mp c1
      exfalso
      omega
    · have c1 : ¬ H.length + 1 ≤ 0 := fun q => c1 ((nI_leI (a := (H.length + 1)) (b := 0) (by omega) (by omega)).mpr q)
      refine ww_run 3 7 (pc' := 18) (lv' := [(0, .ref 0), (1, .int (nI l))]) (st' := [.int (he ((nI (H.length + 1)) - 1).toNatClampNeg)]) (w' := wMr tp (cdB cd0 (200 * t) O) sr wo he tn (nI t) pt bg tk vl (nI (H.length + 1)) (nI (opn (x :: H))) (nI O.length) J K) (Ps := [vp_in ((nI (H.length + 1)) - 1) 200]) rfl ⟨(by rw [nI_pred H.length]; exact vp_in_nI (by omega) (by omega)), trivial⟩ ?_
      rw [nI_pred H.length]
      rw [nI_clamp (n := H.length) (by omega)]
      rw [hs.1]
      refine ww_cSi 10 ok_X7_rank (Co.fr0 (m_rank x) rfl) lk_X7_150 rfl (by omega) (rest := []) rfl (Nat.le_of_ble_eq_true rfl) rfl ?_
      refine ww_run 11 1 (pc' := 22) (lv' := [(0, .ref 0), (1, .int (nI l))]) (st' := [.int (nI l), .int (nI (rk x))]) (w' := wMr tp (cdB cd0 (200 * t) O) sr wo he tn (nI t) pt bg tk vl (nI (H.length + 1)) (nI (opn (x :: H))) (nI O.length) J K) (Ps := []) rfl trivial ?_
      refine ww_icmp_lt 12 rfl (tgt := 79) rfl (fun c2 => ?_) (fun c2 => ?_)
      · have c2 : rk x < l := (nI_ltI (a := (rk x)) (b := l) (by omega) (by omega)).mp c2
        rw [unw_no O (show rk x < l by omega)] at hv
        subst hv
        exact KK
      · have c2 : ¬ rk x < l := fun q => c2 ((nI_ltI (a := (rk x)) (b := l) (by omega) (by omega)).mpr q)
        refine ww_run 13 11 (pc' := 44) (lv' := [(0, .ref 0), (1, .int (nI l))]) (st' := [.int (he ((nI (H.length + 1)) - 1).toNatClampNeg)]) (w' := wMr tp (cdB cd0 (200 * t) O) sr wo he tn (nI t) pt bg tk vl ((nI (H.length + 1)) - 1) (nI (opn (x :: H))) (nI O.length) J K) (Ps := [vp_in ((nI (H.length + 1)) - 1) 200]) rfl ⟨(by rw [nI_pred H.length]; exact vp_in_nI (by omega) (by omega)), trivial⟩ ?_
        rw [nI_pred H.length]
        rw [nI_clamp (n := H.length) (by omega)]
        rw [hs.1]
        refine ww_run 24 6 (pc' := 53) (lv' := [(2, .int x), (0, .ref 0), (1, .int (nI l))]) (st' := [.int 13, .int x, .int (nI (opn (x :: H))), .ref 0]) (w' := wMr tp (cdB cd0 (200 * t) O) sr wo he tn (nI t) pt bg tk vl (nI H.length) (nI (opn (x :: H))) (nI O.length) J K) (Ps := []) rfl trivial ?_
        refine ww_icmp_eq 30 rfl (tgt := 62) rfl (fun c3 => ?_) (fun c3 => ?_)
        · refine ww_run 34 2 (pc' := 67) (lv' := [(2, .int x), (0, .ref 0), (1, .int (nI l))]) (st' := [.int 1, .int (nI (opn (x :: H))), .ref 0]) (w' := wMr tp (cdB cd0 (200 * t) O) sr wo he tn (nI t) pt bg tk vl (nI H.length) (nI (opn (x :: H))) (nI O.length) J K) (Ps := []) rfl trivial ?_
          refine ww_run 37 1 (pc' := 68) (lv' := [(2, .int x), (0, .ref 0), (1, .int (nI l))]) (st' := [.int ((nI (opn (x :: H))) - 1), .ref 0]) (w' := wMr tp (cdB cd0 (200 * t) O) sr wo he tn (nI t) pt bg tk vl (nI H.length) (nI (opn (x :: H))) (nI O.length) J K) (Ps := []) rfl trivial ?_
          rw [opn_m1 (Or.inl c3)]
          refine ww_run 38 3 (pc' := 73) (lv' := [(2, .int x), (0, .ref 0), (1, .int (nI l))]) (st' := [.int x, .ref 0]) (w' := wMr tp (cdB cd0 (200 * t) O) sr wo he tn (nI t) pt bg tk vl (nI H.length) (nI (opn H)) (nI O.length) J K) (Ps := []) rfl trivial ?_
          refine ww_cVv 41 ok_X7_puts (m_puts tp (cdB cd0 (200 * t) O) sr wo he tn pt bg tk vl (nI H.length) (nI (opn H)) J K t O.length (by omega) (by omega) x) lk_X7_157 rfl (by omega) (rest := []) rfl (Nat.le_of_ble_eq_true rfl) rfl rfl rfl rfl ?_
          refine ww_run 42 1 (pc' := 0) (lv' := [(2, .int x), (0, .ref 0), (1, .int (nI l))]) (st' := []) (w' := wMr tp (upd (cdB cd0 (200 * t) O) (200 * t + O.length) x) sr wo he tn (nI t) pt bg tk vl (nI H.length) (nI (opn H)) (nI (O.length + 1)) J K) (Ps := []) rfl trivial ?_
          refine ww_lv [1, 2] (lv' := [(0, .ref 0), (1, .int (nI l))]) rfl ?_
          refine ih (x :: O) (by show H.length + (O.length + 1) ≤ 199; omega) hs.2 ?_
          rw [← hv, unw_cons H O (show l ≤ rk x by omega)]
        · refine ww_run 31 2 (pc' := 59) (lv' := [(2, .int x), (0, .ref 0), (1, .int (nI l))]) (st' := [.int 19, .int x, .int (nI (opn (x :: H))), .ref 0]) (w' := wMr tp (cdB cd0 (200 * t) O) sr wo he tn (nI t) pt bg tk vl (nI H.length) (nI (opn (x :: H))) (nI O.length) J K) (Ps := []) rfl trivial ?_
          refine ww_icmp_ne 33 rfl (tgt := 66) rfl (fun c4 => ?_) (fun c4 => ?_)
          · refine ww_run 36 2 (pc' := 68) (lv' := [(2, .int x), (0, .ref 0), (1, .int (nI l))]) (st' := [.int ((nI (opn (x :: H))) - 0), .ref 0]) (w' := wMr tp (cdB cd0 (200 * t) O) sr wo he tn (nI t) pt bg tk vl (nI H.length) (nI (opn (x :: H))) (nI O.length) J K) (Ps := []) rfl trivial ?_
            have hx0 : x ≠ 0 := fun e => by rw [e, show rk 0 = 0 by decide] at c2; omega
            rw [opn_z hx0 c3 c4]
            refine ww_run 38 3 (pc' := 73) (lv' := [(2, .int x), (0, .ref 0), (1, .int (nI l))]) (st' := [.int x, .ref 0]) (w' := wMr tp (cdB cd0 (200 * t) O) sr wo he tn (nI t) pt bg tk vl (nI H.length) (nI (opn H)) (nI O.length) J K) (Ps := []) rfl trivial ?_
            refine ww_cVv 41 ok_X7_puts (m_puts tp (cdB cd0 (200 * t) O) sr wo he tn pt bg tk vl (nI H.length) (nI (opn H)) J K t O.length (by omega) (by omega) x) lk_X7_157 rfl (by omega) (rest := []) rfl (Nat.le_of_ble_eq_true rfl) rfl rfl rfl rfl ?_
            refine ww_run 42 1 (pc' := 0) (lv' := [(2, .int x), (0, .ref 0), (1, .int (nI l))]) (st' := []) (w' := wMr tp (upd (cdB cd0 (200 * t) O) (200 * t + O.length) x) sr wo he tn (nI t) pt bg tk vl (nI H.length) (nI (opn H)) (nI (O.length + 1)) J K) (Ps := []) rfl trivial ?_
            refine ww_lv [1, 2] (lv' := [(0, .ref 0), (1, .int (nI l))]) rfl ?_
            refine ih (x :: O) (by show H.length + (O.length + 1) ≤ 199; omega) hs.2 ?_
            rw [← hv, unw_cons H O (show l ≤ rk x by omega)]
          · refine ww_run 34 2 (pc' := 67) (lv' := [(2, .int x), (0, .ref 0), (1, .int (nI l))]) (st' := [.int 1, .int (nI (opn (x :: H))), .ref 0]) (w' := wMr tp (cdB cd0 (200 * t) O) sr wo he tn (nI t) pt bg tk vl (nI H.length) (nI (opn (x :: H))) (nI O.length) J K) (Ps := []) rfl trivial ?_
            refine ww_run 37 1 (pc' := 68) (lv' := [(2, .int x), (0, .ref 0), (1, .int (nI l))]) (st' := [.int ((nI (opn (x :: H))) - 1), .ref 0]) (w' := wMr tp (cdB cd0 (200 * t) O) sr wo he tn (nI t) pt bg tk vl (nI H.length) (nI (opn (x :: H))) (nI O.length) J K) (Ps := []) rfl trivial ?_
            rw [opn_m1 (Or.inr c4)]
            refine ww_run 38 3 (pc' := 73) (lv' := [(2, .int x), (0, .ref 0), (1, .int (nI l))]) (st' := [.int x, .ref 0]) (w' := wMr tp (cdB cd0 (200 * t) O) sr wo he tn (nI t) pt bg tk vl (nI H.length) (nI (opn H)) (nI O.length) J K) (Ps := []) rfl trivial ?_
            refine ww_cVv 41 ok_X7_puts (m_puts tp (cdB cd0 (200 * t) O) sr wo he tn pt bg tk vl (nI H.length) (nI (opn H)) J K t O.length (by omega) (by omega) x) lk_X7_157 rfl (by omega) (rest := []) rfl (Nat.le_of_ble_eq_true rfl) rfl rfl rfl rfl ?_
            refine ww_run 42 1 (pc' := 0) (lv' := [(2, .int x), (0, .ref 0), (1, .int (nI l))]) (st' := []) (w' := wMr tp (upd (cdB cd0 (200 * t) O) (200 * t + O.length) x) sr wo he tn (nI t) pt bg tk vl (nI H.length) (nI (opn H)) (nI (O.length + 1)) J K) (Ps := []) rfl trivial ?_
            refine ww_lv [1, 2] (lv' := [(0, .ref 0), (1, .int (nI l))]) rfl ?_
            refine ih (x :: O) (by show H.length + (O.length + 1) ≤ 199; omega) hs.2 ?_
            rw [← hv, unw_cons H O (show l ≤ rk x by omega)]
set_option maxHeartbeats 4000000 in
set_option maxRecDepth 100000 in
theorem m_unwinds (tp sr wo he : Nat → Int32) (tn pt bg tk vl : Int32) (J : Nat → Int32) (K : Nat → Nat → Int32) (cd0 : Nat → Int32) (t l : Nat) (ht : t < 6) (hl : 1 ≤ l) (hl8 : l < 8) (H O : List Int32) (hb : H.length + O.length ≤ 199) (hs : StkR he H) : Co M_X7_unwinds 1 0 0 [.ref 0, .int (nI l)] (wMr tp (cdB cd0 (200 * t) O) sr wo he tn (nI t) pt bg tk vl (nI H.length) (nI (opn H)) (nI O.length) J K) (Qv (wMr tp (cdB cd0 (200 * t) ((unw l H O).2)) sr wo he tn (nI t) pt bg tk vl (nI (unw l H O).1.length) (nI (opn ((unw l H O).1))) (nI (unw l H O).2.length) J K)) := by
  refine Co.of ok_X7_unwinds rfl ?_
  generalize hv : unw l H O = V
  refine ly_unw (by omega) tp sr wo he tn pt bg tk vl J K cd0 t l ht hl hl8 V ?_ H O hb hs hv
  refine ww_vret 43 rfl rfl ?_
  exact ⟨rfl, rfl⟩
set_option maxHeartbeats 4000000 in
set_option maxRecDepth 100000 in
theorem m_between (tp sr wo he : Nat → Int32) (tn pt bg tk vl : Int32) (J : Nat → Int32) (K : Nat → Nat → Int32) (cd0 : Nat → Int32) (t : Nat) (ht : t < 6) (H O : List Int32) (hb : H.length + O.length ≤ 198) (hs : StkR he H) (g : Int32) (hg1 : 1 ≤ rk g) : Co M_X7_between 2 0 0 [.ref 0, .int g] (wMr tp (cdB cd0 (200 * t) O) sr wo he tn (nI t) pt bg tk vl (nI H.length) (nI (opn H)) (nI O.length) J K) (fun r w' => ((rk g = 4 ∧ topR (unw (levR g) H O).1 = 4) ∧ r = some (.int 0) ∧ w' = wMr tp (cdB cd0 (200 * t) ((unw (levR g) H O).2)) sr wo he tn (nI t) pt bg tk vl (nI (unw (levR g) H O).1.length) (nI (opn ((unw (levR g) H O).1))) (nI (unw (levR g) H O).2.length) J K) ∨ ((¬ (rk g = 4 ∧ topR (unw (levR g) H O).1 = 4)) ∧ r = some (.int 1) ∧ w' = wMr tp (cdB cd0 (200 * t) ((unw (levR g) H O).2)) sr wo (upd he (unw (levR g) H O).1.length g) tn (nI t) pt bg tk vl (nI ((unw (levR g) H O).1.length + 1)) (nI (opn ((unw (levR g) H O).1))) (nI (unw (levR g) H O).2.length) J K)) := by
  refine Co.of ok_X7_between rfl ?_
  have hrg := rk_le g
  have hlv : 1 ≤ levR g ∧ levR g < 8 := by unfold levR; split <;> omega
  refine ww_run 0 2 (pc' := 2) (lv' := [(0, .ref 0), (1, .int g)]) (st' := [.int g, .ref 0]) (w' := wMr tp (cdB cd0 (200 * t) O) sr wo he tn (nI t) pt bg tk vl (nI H.length) (nI (opn H)) (nI O.length) J K) (Ps := []) rfl trivial ?_
  refine ww_cSi 2 ok_X7_rank (Co.fr0 (m_rank g) rfl) lk_X7_150 rfl (by omega) (rest := [.ref 0]) rfl (Nat.le_of_ble_eq_true rfl) rfl ?_
  refine ww_run 3 1 (pc' := 6) (lv' := [(0, .ref 0), (1, .int g)]) (st' := [.int 4, .int (nI (rk g)), .ref 0]) (w' := wMr tp (cdB cd0 (200 * t) O) sr wo he tn (nI t) pt bg tk vl (nI H.length) (nI (opn H)) (nI O.length) J K) (Ps := []) rfl trivial ?_
  refine ww_icmp_ne 4 rfl (tgt := 13) rfl (fun c1 => ?_) (fun c1 => ?_)
  · have c1 : ¬ rk g = 4 := fun q => c1 ((nI_eq (a := (rk g)) (b := 4) (by omega) (by omega)).mpr q)
    refine ww_run 7 1 (pc' := 14) (lv' := [(0, .ref 0), (1, .int g)]) (st' := [.int g, .ref 0]) (w' := wMr tp (cdB cd0 (200 * t) O) sr wo he tn (nI t) pt bg tk vl (nI H.length) (nI (opn H)) (nI O.length) J K) (Ps := []) rfl trivial ?_
    refine ww_cSi 8 ok_X7_rank (Co.fr0 (m_rank g) rfl) lk_X7_150 rfl (by omega) (rest := [.ref 0]) rfl (Nat.le_of_ble_eq_true rfl) rfl ?_
    rw [show nI (rk g) = nI (levR g) by unfold levR; rw [if_neg c1]]
    refine ww_cVv 9 ok_X7_unwinds (m_unwinds tp sr wo he tn pt bg tk vl J K cd0 t (levR g) ht (by exact hlv.1) (by exact hlv.2) H O (by omega) hs) lk_X7_164 rfl (by omega) (rest := []) rfl (Nat.le_of_ble_eq_true rfl) rfl rfl rfl rfl ?_
    have hsU := stk_unw (l := (levR g)) H O hs
    have hlU := len_unw (l := (levR g)) H O
    generalize hU : unw (levR g) H O = U at hsU hlU ⊢
    refine ww_run 10 1 (pc' := 21) (lv' := [(0, .ref 0), (1, .int g)]) (st' := [.int g]) (w' := wMr tp (cdB cd0 (200 * t) U.2) sr wo he tn (nI t) pt bg tk vl (nI U.1.length) (nI (opn U.1)) (nI U.2.length) J K) (Ps := []) rfl trivial ?_
    refine ww_cSi 11 ok_X7_rank (Co.fr0 (m_rank g) rfl) lk_X7_150 rfl (by omega) (rest := []) rfl (Nat.le_of_ble_eq_true rfl) rfl ?_
    refine ww_run 12 1 (pc' := 25) (lv' := [(0, .ref 0), (1, .int g)]) (st' := [.int 4, .int (nI (rk g))]) (w' := wMr tp (cdB cd0 (200 * t) U.2) sr wo he tn (nI t) pt bg tk vl (nI U.1.length) (nI (opn U.1)) (nI U.2.length) J K) (Ps := []) rfl trivial ?_
    refine ww_icmp_ne 13 rfl (tgt := 55) rfl (fun c2 => ?_) (fun c2 => ?_)
    · have c2 : ¬ rk g = 4 := fun q => c2 ((nI_eq (a := (rk g)) (b := 4) (by omega) (by omega)).mpr q)
      refine ww_run 29 2 (pc' := 57) (lv' := [(0, .ref 0), (1, .int g)]) (st' := [.int g, .ref 0]) (w' := wMr tp (cdB cd0 (200 * t) U.2) sr wo he tn (nI t) pt bg tk vl (nI U.1.length) (nI (opn U.1)) (nI U.2.length) J K) (Ps := []) rfl trivial ?_
      have hcap : U.1.length < 200 := by omega
      refine ww_cVv 31 ok_X7_holds (m_holds tp (cdB cd0 (200 * t) U.2) sr wo he tn (nI t) pt bg tk vl (nI (opn U.1)) (nI U.2.length) J K U.1.length (by omega) g) lk_X7_161 rfl (by omega) (rest := []) rfl (Nat.le_of_ble_eq_true rfl) rfl rfl rfl rfl ?_
      refine ww_run 32 1 (pc' := 61) (lv' := [(0, .ref 0), (1, .int g)]) (st' := [.int 1]) (w' := wMr tp (cdB cd0 (200 * t) U.2) sr wo (upd he U.1.length g) tn (nI t) pt bg tk vl (nI (U.1.length + 1)) (nI (opn U.1)) (nI U.2.length) J K) (Ps := []) rfl trivial ?_
      refine ww_zret 33 rfl rfl rfl ?_
      exact Or.inr ⟨fun q => c2 q.1, rfl, rfl⟩
    · have c2 : rk g = 4 := (nI_eq (a := (rk g)) (b := 4) (by omega) (by omega)).mp c2
      obtain ⟨Hu, O1⟩ := U
      rcases Hu with _ | ⟨x, H1⟩
      · skip
        refine ww_run 14 2 (pc' := 32) (lv' := [(0, .ref 0), (1, .int g)]) (st' := [.int (nI 0)]) (w' := wMr tp (cdB cd0 (200 * t) O1) sr wo he tn (nI t) pt bg tk vl (nI 0) (nI (opn ([]))) (nI O1.length) J K) (Ps := []) rfl trivial ?_
        refine ww_if_le 16 rfl (tgt := 55) rfl (fun c3 => ?_) (fun c3 => ?_)
        · have c3 : 0 ≤ 0 := (nI_leI (a := 0) (b := 0) (by omega) (by omega)).mp c3
          refine ww_run 29 2 (pc' := 57) (lv' := [(0, .ref 0), (1, .int g)]) (st' := [.int g, .ref 0]) (w' := wMr tp (cdB cd0 (200 * t) O1) sr wo he tn (nI t) pt bg tk vl (nI 0) (nI (opn ([]))) (nI O1.length) J K) (Ps := []) rfl trivial ?_
          have hcap : 0 < 200 := by decide
          refine ww_cVv 31 ok_X7_holds (m_holds tp (cdB cd0 (200 * t) O1) sr wo he tn (nI t) pt bg tk vl (nI (opn ([]))) (nI O1.length) J K 0 (by omega) g) lk_X7_161 rfl (by omega) (rest := []) rfl (Nat.le_of_ble_eq_true rfl) rfl rfl rfl rfl ?_
          refine ww_run 32 1 (pc' := 61) (lv' := [(0, .ref 0), (1, .int g)]) (st' := [.int 1]) (w' := wMr tp (cdB cd0 (200 * t) O1) sr wo (upd he 0 g) tn (nI t) pt bg tk vl (nI (0 + 1)) (nI (opn ([]))) (nI O1.length) J K) (Ps := []) rfl trivial ?_
          refine ww_zret 33 rfl rfl rfl ?_
          exact Or.inr ⟨fun q => absurd (show (0 : Nat) = 4 from q.2) (by decide), rfl, rfl⟩
        · exact absurd c3 (by decide)
      · have hlU2 : H1.length + 1 ≤ H.length := hlU.2
        have hrx := rk_le x
        refine ww_run 14 2 (pc' := 32) (lv' := [(0, .ref 0), (1, .int g)]) (st' := [.int (nI (H1.length + 1))]) (w' := wMr tp (cdB cd0 (200 * t) O1) sr wo he tn (nI t) pt bg tk vl (nI (H1.length + 1)) (nI (opn (x :: H1))) (nI O1.length) J K) (Ps := []) rfl trivial ?_
        refine ww_if_le 16 rfl (tgt := 55) rfl (fun c4 => ?_) (fun c4 => ?_)
        · have c4 : H1.length + 1 ≤ 0 := (nI_leI (a := (H1.length + 1)) (b := 0) (by omega) (by omega)).mp c4
          exfalso
          omega
        · have c4 : ¬ H1.length + 1 ≤ 0 := fun q => c4 ((nI_leI (a := (H1.length + 1)) (b := 0) (by omega) (by omega)).mpr q)
          refine ww_run 17 7 (pc' := 46) (lv' := [(0, .ref 0), (1, .int g)]) (st' := [.int (he ((nI (H1.length + 1)) - 1).toNatClampNeg)]) (w' := wMr tp (cdB cd0 (200 * t) O1) sr wo he tn (nI t) pt bg tk vl (nI (H1.length + 1)) (nI (opn (x :: H1))) (nI O1.length) J K) (Ps := [vp_in ((nI (H1.length + 1)) - 1) 200]) rfl ⟨(by rw [nI_pred H1.length]; exact vp_in_nI (by omega) (by omega)), trivial⟩ ?_
          rw [nI_pred H1.length]
          rw [nI_clamp (n := H1.length) (by omega)]
          rw [hsU.1]
          refine ww_cSi 24 ok_X7_rank (Co.fr0 (m_rank x) rfl) lk_X7_150 rfl (by omega) (rest := []) rfl (Nat.le_of_ble_eq_true rfl) rfl ?_
          refine ww_run 25 1 (pc' := 50) (lv' := [(0, .ref 0), (1, .int g)]) (st' := [.int 4, .int (nI (rk x))]) (w' := wMr tp (cdB cd0 (200 * t) O1) sr wo he tn (nI t) pt bg tk vl (nI (H1.length + 1)) (nI (opn (x :: H1))) (nI O1.length) J K) (Ps := []) rfl trivial ?_
          refine ww_icmp_ne 26 rfl (tgt := 55) rfl (fun c5 => ?_) (fun c5 => ?_)
          · have c5 : ¬ rk x = 4 := fun q => c5 ((nI_eq (a := (rk x)) (b := 4) (by omega) (by omega)).mpr q)
            refine ww_run 29 2 (pc' := 57) (lv' := [(0, .ref 0), (1, .int g)]) (st' := [.int g, .ref 0]) (w' := wMr tp (cdB cd0 (200 * t) O1) sr wo he tn (nI t) pt bg tk vl (nI (H1.length + 1)) (nI (opn (x :: H1))) (nI O1.length) J K) (Ps := []) rfl trivial ?_
            have hcap : (H1.length + 1) < 200 := by have h9 : H1.length + 1 ≤ H.length := hlU.2; omega
            refine ww_cVv 31 ok_X7_holds (m_holds tp (cdB cd0 (200 * t) O1) sr wo he tn (nI t) pt bg tk vl (nI (opn (x :: H1))) (nI O1.length) J K (H1.length + 1) (by omega) g) lk_X7_161 rfl (by omega) (rest := []) rfl (Nat.le_of_ble_eq_true rfl) rfl rfl rfl rfl ?_
            refine ww_run 32 1 (pc' := 61) (lv' := [(0, .ref 0), (1, .int g)]) (st' := [.int 1]) (w' := wMr tp (cdB cd0 (200 * t) O1) sr wo (upd he (H1.length + 1) g) tn (nI t) pt bg tk vl (nI ((H1.length + 1) + 1)) (nI (opn (x :: H1))) (nI O1.length) J K) (Ps := []) rfl trivial ?_
            refine ww_zret 33 rfl rfl rfl ?_
            exact Or.inr ⟨fun q => c5 q.2, rfl, rfl⟩
          · have c5 : rk x = 4 := (nI_eq (a := (rk x)) (b := 4) (by omega) (by omega)).mp c5
            refine ww_run 27 1 (pc' := 54) (lv' := [(0, .ref 0), (1, .int g)]) (st' := [.int 0]) (w' := wMr tp (cdB cd0 (200 * t) O1) sr wo he tn (nI t) pt bg tk vl (nI (H1.length + 1)) (nI (opn (x :: H1))) (nI O1.length) J K) (Ps := []) rfl trivial ?_
            refine ww_zret 28 rfl rfl rfl ?_
            exact Or.inl ⟨⟨c2, c5⟩, rfl, rfl⟩
  · have c1 : rk g = 4 := (nI_eq (a := (rk g)) (b := 4) (by omega) (by omega)).mp c1
    refine ww_run 5 2 (pc' := 17) (lv' := [(0, .ref 0), (1, .int g)]) (st' := [.int 5, .ref 0]) (w' := wMr tp (cdB cd0 (200 * t) O) sr wo he tn (nI t) pt bg tk vl (nI H.length) (nI (opn H)) (nI O.length) J K) (Ps := []) rfl trivial ?_
    rw [show (5 : Int32) = nI (levR g) by unfold levR; rw [if_pos c1]; rfl]
    refine ww_cVv 9 ok_X7_unwinds (m_unwinds tp sr wo he tn pt bg tk vl J K cd0 t (levR g) ht (by exact hlv.1) (by exact hlv.2) H O (by omega) hs) lk_X7_164 rfl (by omega) (rest := []) rfl (Nat.le_of_ble_eq_true rfl) rfl rfl rfl rfl ?_
    have hsU := stk_unw (l := (levR g)) H O hs
    have hlU := len_unw (l := (levR g)) H O
    generalize hU : unw (levR g) H O = U at hsU hlU ⊢
    refine ww_run 10 1 (pc' := 21) (lv' := [(0, .ref 0), (1, .int g)]) (st' := [.int g]) (w' := wMr tp (cdB cd0 (200 * t) U.2) sr wo he tn (nI t) pt bg tk vl (nI U.1.length) (nI (opn U.1)) (nI U.2.length) J K) (Ps := []) rfl trivial ?_
    refine ww_cSi 11 ok_X7_rank (Co.fr0 (m_rank g) rfl) lk_X7_150 rfl (by omega) (rest := []) rfl (Nat.le_of_ble_eq_true rfl) rfl ?_
    refine ww_run 12 1 (pc' := 25) (lv' := [(0, .ref 0), (1, .int g)]) (st' := [.int 4, .int (nI (rk g))]) (w' := wMr tp (cdB cd0 (200 * t) U.2) sr wo he tn (nI t) pt bg tk vl (nI U.1.length) (nI (opn U.1)) (nI U.2.length) J K) (Ps := []) rfl trivial ?_
    refine ww_icmp_ne 13 rfl (tgt := 55) rfl (fun c6 => ?_) (fun c6 => ?_)
    · have c6 : ¬ rk g = 4 := fun q => c6 ((nI_eq (a := (rk g)) (b := 4) (by omega) (by omega)).mpr q)
      refine ww_run 29 2 (pc' := 57) (lv' := [(0, .ref 0), (1, .int g)]) (st' := [.int g, .ref 0]) (w' := wMr tp (cdB cd0 (200 * t) U.2) sr wo he tn (nI t) pt bg tk vl (nI U.1.length) (nI (opn U.1)) (nI U.2.length) J K) (Ps := []) rfl trivial ?_
      have hcap : U.1.length < 200 := by omega
      refine ww_cVv 31 ok_X7_holds (m_holds tp (cdB cd0 (200 * t) U.2) sr wo he tn (nI t) pt bg tk vl (nI (opn U.1)) (nI U.2.length) J K U.1.length (by omega) g) lk_X7_161 rfl (by omega) (rest := []) rfl (Nat.le_of_ble_eq_true rfl) rfl rfl rfl rfl ?_
      refine ww_run 32 1 (pc' := 61) (lv' := [(0, .ref 0), (1, .int g)]) (st' := [.int 1]) (w' := wMr tp (cdB cd0 (200 * t) U.2) sr wo (upd he U.1.length g) tn (nI t) pt bg tk vl (nI (U.1.length + 1)) (nI (opn U.1)) (nI U.2.length) J K) (Ps := []) rfl trivial ?_
      refine ww_zret 33 rfl rfl rfl ?_
      exact Or.inr ⟨fun q => c6 q.1, rfl, rfl⟩
    · have c6 : rk g = 4 := (nI_eq (a := (rk g)) (b := 4) (by omega) (by omega)).mp c6
      obtain ⟨Hu, O1⟩ := U
      rcases Hu with _ | ⟨x, H1⟩
      · skip
        refine ww_run 14 2 (pc' := 32) (lv' := [(0, .ref 0), (1, .int g)]) (st' := [.int (nI 0)]) (w' := wMr tp (cdB cd0 (200 * t) O1) sr wo he tn (nI t) pt bg tk vl (nI 0) (nI (opn ([]))) (nI O1.length) J K) (Ps := []) rfl trivial ?_
        refine ww_if_le 16 rfl (tgt := 55) rfl (fun c7 => ?_) (fun c7 => ?_)
        · have c7 : 0 ≤ 0 := (nI_leI (a := 0) (b := 0) (by omega) (by omega)).mp c7
          refine ww_run 29 2 (pc' := 57) (lv' := [(0, .ref 0), (1, .int g)]) (st' := [.int g, .ref 0]) (w' := wMr tp (cdB cd0 (200 * t) O1) sr wo he tn (nI t) pt bg tk vl (nI 0) (nI (opn ([]))) (nI O1.length) J K) (Ps := []) rfl trivial ?_
          have hcap : 0 < 200 := by decide
          refine ww_cVv 31 ok_X7_holds (m_holds tp (cdB cd0 (200 * t) O1) sr wo he tn (nI t) pt bg tk vl (nI (opn ([]))) (nI O1.length) J K 0 (by omega) g) lk_X7_161 rfl (by omega) (rest := []) rfl (Nat.le_of_ble_eq_true rfl) rfl rfl rfl rfl ?_
          refine ww_run 32 1 (pc' := 61) (lv' := [(0, .ref 0), (1, .int g)]) (st' := [.int 1]) (w' := wMr tp (cdB cd0 (200 * t) O1) sr wo (upd he 0 g) tn (nI t) pt bg tk vl (nI (0 + 1)) (nI (opn ([]))) (nI O1.length) J K) (Ps := []) rfl trivial ?_
          refine ww_zret 33 rfl rfl rfl ?_
          exact Or.inr ⟨fun q => absurd (show (0 : Nat) = 4 from q.2) (by decide), rfl, rfl⟩
        · exact absurd c7 (by decide)
      · have hlU2 : H1.length + 1 ≤ H.length := hlU.2
        have hrx := rk_le x
        refine ww_run 14 2 (pc' := 32) (lv' := [(0, .ref 0), (1, .int g)]) (st' := [.int (nI (H1.length + 1))]) (w' := wMr tp (cdB cd0 (200 * t) O1) sr wo he tn (nI t) pt bg tk vl (nI (H1.length + 1)) (nI (opn (x :: H1))) (nI O1.length) J K) (Ps := []) rfl trivial ?_
        refine ww_if_le 16 rfl (tgt := 55) rfl (fun c8 => ?_) (fun c8 => ?_)
        · have c8 : H1.length + 1 ≤ 0 := (nI_leI (a := (H1.length + 1)) (b := 0) (by omega) (by omega)).mp c8
          exfalso
          omega
        · have c8 : ¬ H1.length + 1 ≤ 0 := fun q => c8 ((nI_leI (a := (H1.length + 1)) (b := 0) (by omega) (by omega)).mpr q)
          refine ww_run 17 7 (pc' := 46) (lv' := [(0, .ref 0), (1, .int g)]) (st' := [.int (he ((nI (H1.length + 1)) - 1).toNatClampNeg)]) (w' := wMr tp (cdB cd0 (200 * t) O1) sr wo he tn (nI t) pt bg tk vl (nI (H1.length + 1)) (nI (opn (x :: H1))) (nI O1.length) J K) (Ps := [vp_in ((nI (H1.length + 1)) - 1) 200]) rfl ⟨(by rw [nI_pred H1.length]; exact vp_in_nI (by omega) (by omega)), trivial⟩ ?_
          rw [nI_pred H1.length]
          rw [nI_clamp (n := H1.length) (by omega)]
          rw [hsU.1]
          refine ww_cSi 24 ok_X7_rank (Co.fr0 (m_rank x) rfl) lk_X7_150 rfl (by omega) (rest := []) rfl (Nat.le_of_ble_eq_true rfl) rfl ?_
          refine ww_run 25 1 (pc' := 50) (lv' := [(0, .ref 0), (1, .int g)]) (st' := [.int 4, .int (nI (rk x))]) (w' := wMr tp (cdB cd0 (200 * t) O1) sr wo he tn (nI t) pt bg tk vl (nI (H1.length + 1)) (nI (opn (x :: H1))) (nI O1.length) J K) (Ps := []) rfl trivial ?_
          refine ww_icmp_ne 26 rfl (tgt := 55) rfl (fun c9 => ?_) (fun c9 => ?_)
          · have c9 : ¬ rk x = 4 := fun q => c9 ((nI_eq (a := (rk x)) (b := 4) (by omega) (by omega)).mpr q)
            refine ww_run 29 2 (pc' := 57) (lv' := [(0, .ref 0), (1, .int g)]) (st' := [.int g, .ref 0]) (w' := wMr tp (cdB cd0 (200 * t) O1) sr wo he tn (nI t) pt bg tk vl (nI (H1.length + 1)) (nI (opn (x :: H1))) (nI O1.length) J K) (Ps := []) rfl trivial ?_
            have hcap : (H1.length + 1) < 200 := by have h9 : H1.length + 1 ≤ H.length := hlU.2; omega
            refine ww_cVv 31 ok_X7_holds (m_holds tp (cdB cd0 (200 * t) O1) sr wo he tn (nI t) pt bg tk vl (nI (opn (x :: H1))) (nI O1.length) J K (H1.length + 1) (by omega) g) lk_X7_161 rfl (by omega) (rest := []) rfl (Nat.le_of_ble_eq_true rfl) rfl rfl rfl rfl ?_
            refine ww_run 32 1 (pc' := 61) (lv' := [(0, .ref 0), (1, .int g)]) (st' := [.int 1]) (w' := wMr tp (cdB cd0 (200 * t) O1) sr wo (upd he (H1.length + 1) g) tn (nI t) pt bg tk vl (nI ((H1.length + 1) + 1)) (nI (opn (x :: H1))) (nI O1.length) J K) (Ps := []) rfl trivial ?_
            refine ww_zret 33 rfl rfl rfl ?_
            exact Or.inr ⟨fun q => c9 q.2, rfl, rfl⟩
          · have c9 : rk x = 4 := (nI_eq (a := (rk x)) (b := 4) (by omega) (by omega)).mp c9
            refine ww_run 27 1 (pc' := 54) (lv' := [(0, .ref 0), (1, .int g)]) (st' := [.int 0]) (w' := wMr tp (cdB cd0 (200 * t) O1) sr wo he tn (nI t) pt bg tk vl (nI (H1.length + 1)) (nI (opn (x :: H1))) (nI O1.length) J K) (Ps := []) rfl trivial ?_
            refine ww_zret 28 rfl rfl rfl ?_
            exact Or.inl ⟨⟨c6, c9⟩, rfl, rfl⟩
