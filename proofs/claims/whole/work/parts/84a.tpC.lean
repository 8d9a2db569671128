set_option maxHeartbeats 4000000 in
set_option maxRecDepth 100000 in
theorem x_opd0 {N : Nat} (hN : N ≤ 160) {bytes : Nat → Int32} {D o : Nat}  : Ct N bytes M_X5_isOperand 8 5 (opR bytes N none) := by
  intro tends s ok_s
  refine Co.of ok_X5_isOperand rfl ?_
  refine ww_run 0 2 (pc' := 4) (lv' := [(0, .ref 0), (1, .int (nI 5))]) (st' := [.int s.tk]) (w' := wTp bytes s.cd tends (nI N) (nI s.ta) (nI s.cn) (nI s.pl) s.tk) (Ps := []) rfl trivial ?_
  refine ww_if_lt 2 rfl (tgt := 32) rfl (fun c1 => ?_) (fun c1 => ?_)
  · refine ww_run 16 2 (pc' := 34) (lv' := [(0, .ref 0), (1, .int (nI 5))]) (st' := [.int 5, .int (nI 5)]) (w' := wTp bytes s.cd tends (nI N) (nI s.ta) (nI s.cn) (nI s.pl) s.tk) (Ps := []) rfl trivial ?_
    refine ww_icmp_lt 18 rfl (tgt := 39) rfl (fun c2 => ?_) (fun c2 => ?_)
    · exact absurd c2 (by decide)
    · have c2 : ¬ 5 < 5 := fun q => c2 ((nI_ltI (a := 5) (b := 5) (by omega) (by omega)).mpr q)
      refine ww_run 19 1 (pc' := 38) (lv' := [(0, .ref 0), (1, .int (nI 5))]) (st' := [.int 0]) (w' := wTp bytes s.cd tends (nI N) (nI s.ta) (nI s.cn) (nI s.pl) s.tk) (Ps := []) rfl trivial ?_
      refine ww_zret 20 rfl rfl rfl ?_
      have hV : opR bytes N none s = (false, s) := by show (if 0 ≤ s.tk ∧ s.tk < 10006 then _ else _) = _; exact if_neg (fun q => absurd q.1 (Int32.not_le.mpr c1))
      rw [hV]
      exact ⟨rfl, rfl⟩
  · refine ww_run 3 3 (pc' := 14) (lv' := [(0, .ref 0), (1, .int (nI 5))]) (st' := [.int 10006, .int s.tk]) (w' := wTp bytes s.cd tends (nI N) (nI s.ta) (nI s.cn) (nI s.pl) s.tk) (Ps := []) rfl trivial ?_
    refine ww_icmp_ge 6 rfl (tgt := 32) rfl (fun c3 => ?_) (fun c3 => ?_)
    · refine ww_run 16 2 (pc' := 34) (lv' := [(0, .ref 0), (1, .int (nI 5))]) (st' := [.int 5, .int (nI 5)]) (w' := wTp bytes s.cd tends (nI N) (nI s.ta) (nI s.cn) (nI s.pl) s.tk) (Ps := []) rfl trivial ?_
      refine ww_icmp_lt 18 rfl (tgt := 39) rfl (fun c4 => ?_) (fun c4 => ?_)
      · exact absurd c4 (by decide)
      · have c4 : ¬ 5 < 5 := fun q => c4 ((nI_ltI (a := 5) (b := 5) (by omega) (by omega)).mpr q)
        refine ww_run 19 1 (pc' := 38) (lv' := [(0, .ref 0), (1, .int (nI 5))]) (st' := [.int 0]) (w' := wTp bytes s.cd tends (nI N) (nI s.ta) (nI s.cn) (nI s.pl) s.tk) (Ps := []) rfl trivial ?_
        refine ww_zret 20 rfl rfl rfl ?_
        have hV : opR bytes N none s = (false, s) := by show (if 0 ≤ s.tk ∧ s.tk < 10006 then _ else _) = _; exact if_neg (fun q => absurd q.2 (Int32.not_lt.mpr c3))
        rw [hV]
        exact ⟨rfl, rfl⟩
    · refine ww_run 7 4 (pc' := 23) (lv' := [(2, .int s.tk), (0, .ref 0), (1, .int (nI 5))]) (st' := [.ref 0]) (w' := wTp bytes s.cd tends (nI N) (nI s.ta) (nI s.cn) (nI s.pl) s.tk) (Ps := []) rfl trivial ?_
      refine ww_cVv 11 ok_X5_look (x_lookS bytes tends N s hN ok_s) lk_X5_37 rfl (by omega) (rest := []) rfl (Nat.le_of_ble_eq_true rfl) rfl rfl rfl rfl ?_
      have ok_s1 : tsK N (lkS bytes N s) := ok_lk ok_s
      generalize h_s1 : lkS bytes N s = s1 at ok_s1 ⊢
      refine ww_run 12 2 (pc' := 28) (lv' := [(2, .int s.tk), (0, .ref 0), (1, .int (nI 5))]) (st' := [.int s.tk, .ref 0]) (w' := wTp bytes s1.cd tends (nI N) (nI s1.ta) (nI s1.cn) (nI s1.pl) s1.tk) (Ps := []) rfl trivial ?_
      refine ww_cVi 14 ok_X5_emit (x_emitS bytes tends N s1 ok_s1 s.tk) lk_X5_61 rfl (by omega) (rest := []) rfl (Nat.le_of_ble_eq_true rfl) rfl rfl rfl rfl ?_
      have ok_r2 : tsK N (emS s.tk s1).2 := pr_em s.tk s1 ok_s1
      generalize h_r2 : emS s.tk s1 = r2 at ok_r2 ⊢
      refine ww_zret 15 rfl rfl (b2i_nar _) ?_
      have hV : opR bytes N none s = r2 := by show (if 0 ≤ s.tk ∧ s.tk < 10006 then _ else _) = _; rw [if_pos ⟨Int32.not_lt.mp c1, Int32.not_le.mp c3⟩, h_s1, h_r2]
      rw [hV]
      exact ⟨rfl, rfl⟩
set_option maxHeartbeats 4000000 in
set_option maxRecDepth 100000 in
theorem x_opd1 {N : Nat} (hN : N ≤ 160) {bytes : Nat → Int32} {D o : Nat} (ho : o < 5) (D1 D3 : Nat) (hD : 7 ≤ D) (hD1 : D1 ≤ D) (hD3 : D3 ≤ D) (l : RD × RD × RD) (h1 : Ct N bytes M_X5_isOperand D1 (o + 1) l.1) (h3 : Ct N bytes M_X5_isEither D3 (o + 1) l.2.2) (p1 : PrT N l.1) (p3 : PrT N l.2.2) : Ct N bytes M_X5_isOperand (D + 1) o (opR bytes N (some l)) := by
  intro tends s ok_s
  refine Co.of ok_X5_isOperand rfl ?_
  refine ww_run 0 2 (pc' := 4) (lv' := [(0, .ref 0), (1, .int (nI o))]) (st' := [.int s.tk]) (w' := wTp bytes s.cd tends (nI N) (nI s.ta) (nI s.cn) (nI s.pl) s.tk) (Ps := []) rfl trivial ?_
  refine ww_if_lt 2 rfl (tgt := 32) rfl (fun c1 => ?_) (fun c1 => ?_)
  · refine ww_run 16 2 (pc' := 34) (lv' := [(0, .ref 0), (1, .int (nI o))]) (st' := [.int 5, .int (nI o)]) (w' := wTp bytes s.cd tends (nI N) (nI s.ta) (nI s.cn) (nI s.pl) s.tk) (Ps := []) rfl trivial ?_
    refine ww_icmp_lt 18 rfl (tgt := 39) rfl (fun c2 => ?_) (fun c2 => ?_)
    · have c2 : o < 5 := (nI_ltI (a := o) (b := 5) (by omega) (by omega)).mp c2
      refine ww_run 21 3 (pc' := 46) (lv' := [(0, .ref 0), (1, .int (nI o))]) (st' := [.int 10011, .int s.tk]) (w' := wTp bytes s.cd tends (nI N) (nI s.ta) (nI s.cn) (nI s.pl) s.tk) (Ps := []) rfl trivial ?_
      refine ww_icmp_ne 24 rfl (tgt := 79) rfl (fun c3 => ?_) (fun c3 => ?_)
      · refine ww_run 41 2 (pc' := 82) (lv' := [(0, .ref 0), (1, .int (nI o))]) (st' := [.int (-3), .ref 0]) (w' := wTp bytes s.cd tends (nI N) (nI s.ta) (nI s.cn) (nI s.pl) s.tk) (Ps := []) rfl trivial ?_
        refine ww_cVi 43 ok_X5_passes (x_passes bytes tends N hN s ok_s (-3)) lk_X5_40 rfl (by omega) (rest := []) rfl (Nat.le_of_ble_eq_true rfl) rfl rfl rfl rfl ?_
        have ok_r1 : tsK N (psS bytes N (-3) s).2 := pr_ps (-3) s ok_s
        generalize h_r1 : psS bytes N (-3) s = r1 at ok_r1 ⊢
        refine ww_if_eq 44 rfl (tgt := 111) rfl (fun c4 => ?_) (fun c4 => ?_)
        · rw [b2i_eq0] at c4
          refine ww_run 57 1 (pc' := 112) (lv' := [(0, .ref 0), (1, .int (nI o))]) (st' := [.int 0]) (w' := wTp bytes r1.2.cd tends (nI N) (nI r1.2.ta) (nI r1.2.cn) (nI r1.2.pl) r1.2.tk) (Ps := []) rfl trivial ?_
          refine ww_zret 58 rfl rfl rfl ?_
          have hV : opR bytes N (some l) s = r1 := by show (if 0 ≤ s.tk ∧ s.tk < 10006 then _ else _) = _; rw [if_neg (fun q => absurd q.1 (Int32.not_le.mpr c1))]; show (if s.tk = 10011 then _ else _) = _; rw [if_neg c3]; show (if (psS bytes N (-3) s).1 = true then (if (l.2.2 (psS bytes N (-3) s).2).1 = true then psS bytes N (-4) (l.2.2 (psS bytes N (-3) s).2).2 else l.2.2 (psS bytes N (-3) s).2) else psS bytes N (-3) s) = _; rw [h_r1, if_neg c4]
          rw [hV]
          exact ⟨by rw [b2i_f c4], rfl⟩
        · rw [b2i_ne0] at c4
          refine ww_run 45 4 (pc' := 92) (lv' := [(0, .ref 0), (1, .int (nI o))]) (st' := [.int ((nI o) + 1), .ref 0]) (w' := wTp bytes r1.2.cd tends (nI N) (nI r1.2.ta) (nI r1.2.cn) (nI r1.2.pl) r1.2.tk) (Ps := []) rfl trivial ?_
          rw [nI_1 o]
          refine ww_cVi 49 ok_X5_isEither (h3 tends r1.2 ok_r1) lk_X5_44 rfl (by omega) (rest := []) rfl (Nat.le_of_ble_eq_true rfl) rfl rfl rfl rfl ?_
          have ok_r2 : tsK N (l.2.2 r1.2).2 := p3 r1.2 ok_r1
          generalize h_r2 : l.2.2 r1.2 = r2 at ok_r2 ⊢
          refine ww_if_eq 50 rfl (tgt := 111) rfl (fun c5 => ?_) (fun c5 => ?_)
          · rw [b2i_eq0] at c5
            refine ww_run 57 1 (pc' := 112) (lv' := [(0, .ref 0), (1, .int (nI o))]) (st' := [.int 0]) (w' := wTp bytes r2.2.cd tends (nI N) (nI r2.2.ta) (nI r2.2.cn) (nI r2.2.pl) r2.2.tk) (Ps := []) rfl trivial ?_
            refine ww_zret 58 rfl rfl rfl ?_
            have hV : opR bytes N (some l) s = r2 := by show (if 0 ≤ s.tk ∧ s.tk < 10006 then _ else _) = _; rw [if_neg (fun q => absurd q.1 (Int32.not_le.mpr c1))]; show (if s.tk = 10011 then _ else _) = _; rw [if_neg c3]; show (if (psS bytes N (-3) s).1 = true then (if (l.2.2 (psS bytes N (-3) s).2).1 = true then psS bytes N (-4) (l.2.2 (psS bytes N (-3) s).2).2 else l.2.2 (psS bytes N (-3) s).2) else psS bytes N (-3) s) = _; rw [h_r1, if_pos c4, h_r2, if_neg c5]
            rw [hV]
            exact ⟨by rw [b2i_f c5], rfl⟩
          · rw [b2i_ne0] at c5
            refine ww_run 51 2 (pc' := 101) (lv' := [(0, .ref 0), (1, .int (nI o))]) (st' := [.int (-4), .ref 0]) (w' := wTp bytes r2.2.cd tends (nI N) (nI r2.2.ta) (nI r2.2.cn) (nI r2.2.pl) r2.2.tk) (Ps := []) rfl trivial ?_
            refine ww_cVi 53 ok_X5_passes (x_passes bytes tends N hN r2.2 ok_r2 (-4)) lk_X5_40 rfl (by omega) (rest := []) rfl (Nat.le_of_ble_eq_true rfl) rfl rfl rfl rfl ?_
            have ok_r3 : tsK N (psS bytes N (-4) r2.2).2 := pr_ps (-4) r2.2 ok_r2
            generalize h_r3 : psS bytes N (-4) r2.2 = r3 at ok_r3 ⊢
            refine ww_if_eq 54 rfl (tgt := 111) rfl (fun c6 => ?_) (fun c6 => ?_)
            · rw [b2i_eq0] at c6
              refine ww_run 57 1 (pc' := 112) (lv' := [(0, .ref 0), (1, .int (nI o))]) (st' := [.int 0]) (w' := wTp bytes r3.2.cd tends (nI N) (nI r3.2.ta) (nI r3.2.cn) (nI r3.2.pl) r3.2.tk) (Ps := []) rfl trivial ?_
              refine ww_zret 58 rfl rfl rfl ?_
              have hV : opR bytes N (some l) s = r3 := by show (if 0 ≤ s.tk ∧ s.tk < 10006 then _ else _) = _; rw [if_neg (fun q => absurd q.1 (Int32.not_le.mpr c1))]; show (if s.tk = 10011 then _ else _) = _; rw [if_neg c3]; show (if (psS bytes N (-3) s).1 = true then (if (l.2.2 (psS bytes N (-3) s).2).1 = true then psS bytes N (-4) (l.2.2 (psS bytes N (-3) s).2).2 else l.2.2 (psS bytes N (-3) s).2) else psS bytes N (-3) s) = _; rw [h_r1, if_pos c4, h_r2, if_pos c5, h_r3]
              rw [hV]
              exact ⟨by rw [b2i_f c6], rfl⟩
            · rw [b2i_ne0] at c6
              refine ww_run 55 2 (pc' := 112) (lv' := [(0, .ref 0), (1, .int (nI o))]) (st' := [.int 1]) (w' := wTp bytes r3.2.cd tends (nI N) (nI r3.2.ta) (nI r3.2.cn) (nI r3.2.pl) r3.2.tk) (Ps := []) rfl trivial ?_
              refine ww_zret 58 rfl rfl rfl ?_
              have hV : opR bytes N (some l) s = r3 := by show (if 0 ≤ s.tk ∧ s.tk < 10006 then _ else _) = _; rw [if_neg (fun q => absurd q.1 (Int32.not_le.mpr c1))]; show (if s.tk = 10011 then _ else _) = _; rw [if_neg c3]; show (if (psS bytes N (-3) s).1 = true then (if (l.2.2 (psS bytes N (-3) s).2).1 = true then psS bytes N (-4) (l.2.2 (psS bytes N (-3) s).2).2 else l.2.2 (psS bytes N (-3) s).2) else psS bytes N (-3) s) = _; rw [h_r1, if_pos c4, h_r2, if_pos c5, h_r3]
              rw [hV]
              exact ⟨by rw [b2i_t c6], rfl⟩
      · refine ww_run 25 1 (pc' := 50) (lv' := [(0, .ref 0), (1, .int (nI o))]) (st' := [.ref 0]) (w' := wTp bytes s.cd tends (nI N) (nI s.ta) (nI s.cn) (nI s.pl) s.tk) (Ps := []) rfl trivial ?_
        refine ww_cVv 26 ok_X5_look (x_lookS bytes tends N s hN ok_s) lk_X5_37 rfl (by omega) (rest := []) rfl (Nat.le_of_ble_eq_true rfl) rfl rfl rfl rfl ?_
        have ok_s1 : tsK N (lkS bytes N s) := ok_lk ok_s
        generalize h_s1 : lkS bytes N s = s1 at ok_s1 ⊢
        refine ww_run 27 4 (pc' := 57) (lv' := [(0, .ref 0), (1, .int (nI o))]) (st' := [.int ((nI o) + 1), .ref 0]) (w' := wTp bytes s1.cd tends (nI N) (nI s1.ta) (nI s1.cn) (nI s1.pl) s1.tk) (Ps := []) rfl trivial ?_
        rw [nI_1 o]
        refine ww_cVi 31 ok_X5_isOperand (h1 tends s1 ok_s1) lk_X5_73 rfl (by omega) (rest := []) rfl (Nat.le_of_ble_eq_true rfl) rfl rfl rfl rfl ?_
        have ok_r2 : tsK N (l.1 s1).2 := p1 s1 ok_s1
        generalize h_r2 : l.1 s1 = r2 at ok_r2 ⊢
        refine ww_if_eq 32 rfl (tgt := 77) rfl (fun c7 => ?_) (fun c7 => ?_)
        · rw [b2i_eq0] at c7
          refine ww_run 39 1 (pc' := 78) (lv' := [(0, .ref 0), (1, .int (nI o))]) (st' := [.int 0]) (w' := wTp bytes r2.2.cd tends (nI N) (nI r2.2.ta) (nI r2.2.cn) (nI r2.2.pl) r2.2.tk) (Ps := []) rfl trivial ?_
          refine ww_zret 40 rfl rfl rfl ?_
          have hV : opR bytes N (some l) s = r2 := by show (if 0 ≤ s.tk ∧ s.tk < 10006 then _ else _) = _; rw [if_neg (fun q => absurd q.1 (Int32.not_le.mpr c1))]; show (if s.tk = 10011 then _ else _) = _; rw [if_pos c3]; show (if (l.1 (lkS bytes N s)).1 = true then emS 10014 (l.1 (lkS bytes N s)).2 else l.1 (lkS bytes N s)) = _; rw [h_s1, h_r2, if_neg c7]
          rw [hV]
          exact ⟨by rw [b2i_f c7], rfl⟩
        · rw [b2i_ne0] at c7
          refine ww_run 33 2 (pc' := 67) (lv' := [(0, .ref 0), (1, .int (nI o))]) (st' := [.int 10014, .ref 0]) (w' := wTp bytes r2.2.cd tends (nI N) (nI r2.2.ta) (nI r2.2.cn) (nI r2.2.pl) r2.2.tk) (Ps := []) rfl trivial ?_
          refine ww_cVi 35 ok_X5_emit (x_emitS bytes tends N r2.2 ok_r2 10014) lk_X5_61 rfl (by omega) (rest := []) rfl (Nat.le_of_ble_eq_true rfl) rfl rfl rfl rfl ?_
          have ok_r3 : tsK N (emS 10014 r2.2).2 := pr_em 10014 r2.2 ok_r2
          generalize h_r3 : emS 10014 r2.2 = r3 at ok_r3 ⊢
          refine ww_if_eq 36 rfl (tgt := 77) rfl (fun c8 => ?_) (fun c8 => ?_)
          · rw [b2i_eq0] at c8
            refine ww_run 39 1 (pc' := 78) (lv' := [(0, .ref 0), (1, .int (nI o))]) (st' := [.int 0]) (w' := wTp bytes r3.2.cd tends (nI N) (nI r3.2.ta) (nI r3.2.cn) (nI r3.2.pl) r3.2.tk) (Ps := []) rfl trivial ?_
            refine ww_zret 40 rfl rfl rfl ?_
            have hV : opR bytes N (some l) s = r3 := by show (if 0 ≤ s.tk ∧ s.tk < 10006 then _ else _) = _; rw [if_neg (fun q => absurd q.1 (Int32.not_le.mpr c1))]; show (if s.tk = 10011 then _ else _) = _; rw [if_pos c3]; show (if (l.1 (lkS bytes N s)).1 = true then emS 10014 (l.1 (lkS bytes N s)).2 else l.1 (lkS bytes N s)) = _; rw [h_s1, h_r2, if_pos c7, h_r3]
            rw [hV]
            exact ⟨by rw [b2i_f c8], rfl⟩
          · rw [b2i_ne0] at c8
            refine ww_run 37 2 (pc' := 78) (lv' := [(0, .ref 0), (1, .int (nI o))]) (st' := [.int 1]) (w' := wTp bytes r3.2.cd tends (nI N) (nI r3.2.ta) (nI r3.2.cn) (nI r3.2.pl) r3.2.tk) (Ps := []) rfl trivial ?_
            refine ww_zret 40 rfl rfl rfl ?_
            have hV : opR bytes N (some l) s = r3 := by show (if 0 ≤ s.tk ∧ s.tk < 10006 then _ else _) = _; rw [if_neg (fun q => absurd q.1 (Int32.not_le.mpr c1))]; show (if s.tk = 10011 then _ else _) = _; rw [if_pos c3]; show (if (l.1 (lkS bytes N s)).1 = true then emS 10014 (l.1 (lkS bytes N s)).2 else l.1 (lkS bytes N s)) = _; rw [h_s1, h_r2, if_pos c7, h_r3]
            rw [hV]
            exact ⟨by rw [b2i_t c8], rfl⟩
    · have c2 : ¬ o < 5 := fun q => c2 ((nI_ltI (a := o) (b := 5) (by omega) (by omega)).mpr q)
      exact absurd ho c2
  · refine ww_run 3 3 (pc' := 14) (lv' := [(0, .ref 0), (1, .int (nI o))]) (st' := [.int 10006, .int s.tk]) (w' := wTp bytes s.cd tends (nI N) (nI s.ta) (nI s.cn) (nI s.pl) s.tk) (Ps := []) rfl trivial ?_
    refine ww_icmp_ge 6 rfl (tgt := 32) rfl (fun c9 => ?_) (fun c9 => ?_)
    · refine ww_run 16 2 (pc' := 34) (lv' := [(0, .ref 0), (1, .int (nI o))]) (st' := [.int 5, .int (nI o)]) (w' := wTp bytes s.cd tends (nI N) (nI s.ta) (nI s.cn) (nI s.pl) s.tk) (Ps := []) rfl trivial ?_
      refine ww_icmp_lt 18 rfl (tgt := 39) rfl (fun c10 => ?_) (fun c10 => ?_)
      · have c10 : o < 5 := (nI_ltI (a := o) (b := 5) (by omega) (by omega)).mp c10
        refine ww_run 21 3 (pc' := 46) (lv' := [(0, .ref 0), (1, .int (nI o))]) (st' := [.int 10011, .int s.tk]) (w' := wTp bytes s.cd tends (nI N) (nI s.ta) (nI s.cn) (nI s.pl) s.tk) (Ps := []) rfl trivial ?_
        refine ww_icmp_ne 24 rfl (tgt := 79) rfl (fun c11 => ?_) (fun c11 => ?_)
        · refine ww_run 41 2 (pc' := 82) (lv' := [(0, .ref 0), (1, .int (nI o))]) (st' := [.int (-3), .ref 0]) (w' := wTp bytes s.cd tends (nI N) (nI s.ta) (nI s.cn) (nI s.pl) s.tk) (Ps := []) rfl trivial ?_
          refine ww_cVi 43 ok_X5_passes (x_passes bytes tends N hN s ok_s (-3)) lk_X5_40 rfl (by omega) (rest := []) rfl (Nat.le_of_ble_eq_true rfl) rfl rfl rfl rfl ?_
          have ok_r1 : tsK N (psS bytes N (-3) s).2 := pr_ps (-3) s ok_s
          generalize h_r1 : psS bytes N (-3) s = r1 at ok_r1 ⊢
          refine ww_if_eq 44 rfl (tgt := 111) rfl (fun c12 => ?_) (fun c12 => ?_)
          · rw [b2i_eq0] at c12
            refine ww_run 57 1 (pc' := 112) (lv' := [(0, .ref 0), (1, .int (nI o))]) (st' := [.int 0]) (w' := wTp bytes r1.2.cd tends (nI N) (nI r1.2.ta) (nI r1.2.cn) (nI r1.2.pl) r1.2.tk) (Ps := []) rfl trivial ?_
            refine ww_zret 58 rfl rfl rfl ?_
            have hV : opR bytes N (some l) s = r1 := by show (if 0 ≤ s.tk ∧ s.tk < 10006 then _ else _) = _; rw [if_neg (fun q => absurd q.2 (Int32.not_lt.mpr c9))]; show (if s.tk = 10011 then _ else _) = _; rw [if_neg c11]; show (if (psS bytes N (-3) s).1 = true then (if (l.2.2 (psS bytes N (-3) s).2).1 = true then psS bytes N (-4) (l.2.2 (psS bytes N (-3) s).2).2 else l.2.2 (psS bytes N (-3) s).2) else psS bytes N (-3) s) = _; rw [h_r1, if_neg c12]
            rw [hV]
            exact ⟨by rw [b2i_f c12], rfl⟩
          · rw [b2i_ne0] at c12
            refine ww_run 45 4 (pc' := 92) (lv' := [(0, .ref 0), (1, .int (nI o))]) (st' := [.int ((nI o) + 1), .ref 0]) (w' := wTp bytes r1.2.cd tends (nI N) (nI r1.2.ta) (nI r1.2.cn) (nI r1.2.pl) r1.2.tk) (Ps := []) rfl trivial ?_
            rw [nI_1 o]
            refine ww_cVi 49 ok_X5_isEither (h3 tends r1.2 ok_r1) lk_X5_44 rfl (by omega) (rest := []) rfl (Nat.le_of_ble_eq_true rfl) rfl rfl rfl rfl ?_
            have ok_r2 : tsK N (l.2.2 r1.2).2 := p3 r1.2 ok_r1
            generalize h_r2 : l.2.2 r1.2 = r2 at ok_r2 ⊢
            refine ww_if_eq 50 rfl (tgt := 111) rfl (fun c13 => ?_) (fun c13 => ?_)
            · rw [b2i_eq0] at c13
              refine ww_run 57 1 (pc' := 112) (lv' := [(0, .ref 0), (1, .int (nI o))]) (st' := [.int 0]) (w' := wTp bytes r2.2.cd tends (nI N) (nI r2.2.ta) (nI r2.2.cn) (nI r2.2.pl) r2.2.tk) (Ps := []) rfl trivial ?_
              refine ww_zret 58 rfl rfl rfl ?_
              have hV : opR bytes N (some l) s = r2 := by show (if 0 ≤ s.tk ∧ s.tk < 10006 then _ else _) = _; rw [if_neg (fun q => absurd q.2 (Int32.not_lt.mpr c9))]; show (if s.tk = 10011 then _ else _) = _; rw [if_neg c11]; show (if (psS bytes N (-3) s).1 = true then (if (l.2.2 (psS bytes N (-3) s).2).1 = true then psS bytes N (-4) (l.2.2 (psS bytes N (-3) s).2).2 else l.2.2 (psS bytes N (-3) s).2) else psS bytes N (-3) s) = _; rw [h_r1, if_pos c12, h_r2, if_neg c13]
              rw [hV]
              exact ⟨by rw [b2i_f c13], rfl⟩
            · rw [b2i_ne0] at c13
              refine ww_run 51 2 (pc' := 101) (lv' := [(0, .ref 0), (1, .int (nI o))]) (st' := [.int (-4), .ref 0]) (w' := wTp bytes r2.2.cd tends (nI N) (nI r2.2.ta) (nI r2.2.cn) (nI r2.2.pl) r2.2.tk) (Ps := []) rfl trivial ?_
              refine ww_cVi 53 ok_X5_passes (x_passes bytes tends N hN r2.2 ok_r2 (-4)) lk_X5_40 rfl (by omega) (rest := []) rfl (Nat.le_of_ble_eq_true rfl) rfl rfl rfl rfl ?_
              have ok_r3 : tsK N (psS bytes N (-4) r2.2).2 := pr_ps (-4) r2.2 ok_r2
              generalize h_r3 : psS bytes N (-4) r2.2 = r3 at ok_r3 ⊢
              refine ww_if_eq 54 rfl (tgt := 111) rfl (fun c14 => ?_) (fun c14 => ?_)
              · rw [b2i_eq0] at c14
                refine ww_run 57 1 (pc' := 112) (lv' := [(0, .ref 0), (1, .int (nI o))]) (st' := [.int 0]) (w' := wTp bytes r3.2.cd tends (nI N) (nI r3.2.ta) (nI r3.2.cn) (nI r3.2.pl) r3.2.tk) (Ps := []) rfl trivial ?_
                refine ww_zret 58 rfl rfl rfl ?_
                have hV : opR bytes N (some l) s = r3 := by show (if 0 ≤ s.tk ∧ s.tk < 10006 then _ else _) = _; rw [if_neg (fun q => absurd q.2 (Int32.not_lt.mpr c9))]; show (if s.tk = 10011 then _ else _) = _; rw [if_neg c11]; show (if (psS bytes N (-3) s).1 = true then (if (l.2.2 (psS bytes N (-3) s).2).1 = true then psS bytes N (-4) (l.2.2 (psS bytes N (-3) s).2).2 else l.2.2 (psS bytes N (-3) s).2) else psS bytes N (-3) s) = _; rw [h_r1, if_pos c12, h_r2, if_pos c13, h_r3]
                rw [hV]
                exact ⟨by rw [b2i_f c14], rfl⟩
              · rw [b2i_ne0] at c14
                refine ww_run 55 2 (pc' := 112) (lv' := [(0, .ref 0), (1, .int (nI o))]) (st' := [.int 1]) (w' := wTp bytes r3.2.cd tends (nI N) (nI r3.2.ta) (nI r3.2.cn) (nI r3.2.pl) r3.2.tk) (Ps := []) rfl trivial ?_
                refine ww_zret 58 rfl rfl rfl ?_
                have hV : opR bytes N (some l) s = r3 := by show (if 0 ≤ s.tk ∧ s.tk < 10006 then _ else _) = _; rw [if_neg (fun q => absurd q.2 (Int32.not_lt.mpr c9))]; show (if s.tk = 10011 then _ else _) = _; rw [if_neg c11]; show (if (psS bytes N (-3) s).1 = true then (if (l.2.2 (psS bytes N (-3) s).2).1 = true then psS bytes N (-4) (l.2.2 (psS bytes N (-3) s).2).2 else l.2.2 (psS bytes N (-3) s).2) else psS bytes N (-3) s) = _; rw [h_r1, if_pos c12, h_r2, if_pos c13, h_r3]
                rw [hV]
                exact ⟨by rw [b2i_t c14], rfl⟩
        · refine ww_run 25 1 (pc' := 50) (lv' := [(0, .ref 0), (1, .int (nI o))]) (st' := [.ref 0]) (w' := wTp bytes s.cd tends (nI N) (nI s.ta) (nI s.cn) (nI s.pl) s.tk) (Ps := []) rfl trivial ?_
          refine ww_cVv 26 ok_X5_look (x_lookS bytes tends N s hN ok_s) lk_X5_37 rfl (by omega) (rest := []) rfl (Nat.le_of_ble_eq_true rfl) rfl rfl rfl rfl ?_
          have ok_s1 : tsK N (lkS bytes N s) := ok_lk ok_s
          generalize h_s1 : lkS bytes N s = s1 at ok_s1 ⊢
          refine ww_run 27 4 (pc' := 57) (lv' := [(0, .ref 0), (1, .int (nI o))]) (st' := [.int ((nI o) + 1), .ref 0]) (w' := wTp bytes s1.cd tends (nI N) (nI s1.ta) (nI s1.cn) (nI s1.pl) s1.tk) (Ps := []) rfl trivial ?_
          rw [nI_1 o]
          refine ww_cVi 31 ok_X5_isOperand (h1 tends s1 ok_s1) lk_X5_73 rfl (by omega) (rest := []) rfl (Nat.le_of_ble_eq_true rfl) rfl rfl rfl rfl ?_
          have ok_r2 : tsK N (l.1 s1).2 := p1 s1 ok_s1
          generalize h_r2 : l.1 s1 = r2 at ok_r2 ⊢
          refine ww_if_eq 32 rfl (tgt := 77) rfl (fun c15 => ?_) (fun c15 => ?_)
          · rw [b2i_eq0] at c15
            refine ww_run 39 1 (pc' := 78) (lv' := [(0, .ref 0), (1, .int (nI o))]) (st' := [.int 0]) (w' := wTp bytes r2.2.cd tends (nI N) (nI r2.2.ta) (nI r2.2.cn) (nI r2.2.pl) r2.2.tk) (Ps := []) rfl trivial ?_
            refine ww_zret 40 rfl rfl rfl ?_
            have hV : opR bytes N (some l) s = r2 := by show (if 0 ≤ s.tk ∧ s.tk < 10006 then _ else _) = _; rw [if_neg (fun q => absurd q.2 (Int32.not_lt.mpr c9))]; show (if s.tk = 10011 then _ else _) = _; rw [if_pos c11]; show (if (l.1 (lkS bytes N s)).1 = true then emS 10014 (l.1 (lkS bytes N s)).2 else l.1 (lkS bytes N s)) = _; rw [h_s1, h_r2, if_neg c15]
            rw [hV]
            exact ⟨by rw [b2i_f c15], rfl⟩
          · rw [b2i_ne0] at c15
            refine ww_run 33 2 (pc' := 67) (lv' := [(0, .ref 0), (1, .int (nI o))]) (st' := [.int 10014, .ref 0]) (w' := wTp bytes r2.2.cd tends (nI N) (nI r2.2.ta) (nI r2.2.cn) (nI r2.2.pl) r2.2.tk) (Ps := []) rfl trivial ?_
            refine ww_cVi 35 ok_X5_emit (x_emitS bytes tends N r2.2 ok_r2 10014) lk_X5_61 rfl (by omega) (rest := []) rfl (Nat.le_of_ble_eq_true rfl) rfl rfl rfl rfl ?_
            have ok_r3 : tsK N (emS 10014 r2.2).2 := pr_em 10014 r2.2 ok_r2
            generalize h_r3 : emS 10014 r2.2 = r3 at ok_r3 ⊢
            refine ww_if_eq 36 rfl (tgt := 77) rfl (fun c16 => ?_) (fun c16 => ?_)
            · rw [b2i_eq0] at c16
              refine ww_run 39 1 (pc' := 78) (lv' := [(0, .ref 0), (1, .int (nI o))]) (st' := [.int 0]) (w' := wTp bytes r3.2.cd tends (nI N) (nI r3.2.ta) (nI r3.2.cn) (nI r3.2.pl) r3.2.tk) (Ps := []) rfl trivial ?_
              refine ww_zret 40 rfl rfl rfl ?_
              have hV : opR bytes N (some l) s = r3 := by show (if 0 ≤ s.tk ∧ s.tk < 10006 then _ else _) = _; rw [if_neg (fun q => absurd q.2 (Int32.not_lt.mpr c9))]; show (if s.tk = 10011 then _ else _) = _; rw [if_pos c11]; show (if (l.1 (lkS bytes N s)).1 = true then emS 10014 (l.1 (lkS bytes N s)).2 else l.1 (lkS bytes N s)) = _; rw [h_s1, h_r2, if_pos c15, h_r3]
              rw [hV]
              exact ⟨by rw [b2i_f c16], rfl⟩
            · rw [b2i_ne0] at c16
              refine ww_run 37 2 (pc' := 78) (lv' := [(0, .ref 0), (1, .int (nI o))]) (st' := [.int 1]) (w' := wTp bytes r3.2.cd tends (nI N) (nI r3.2.ta) (nI r3.2.cn) (nI r3.2.pl) r3.2.tk) (Ps := []) rfl trivial ?_
              refine ww_zret 40 rfl rfl rfl ?_
              have hV : opR bytes N (some l) s = r3 := by show (if 0 ≤ s.tk ∧ s.tk < 10006 then _ else _) = _; rw [if_neg (fun q => absurd q.2 (Int32.not_lt.mpr c9))]; show (if s.tk = 10011 then _ else _) = _; rw [if_pos c11]; show (if (l.1 (lkS bytes N s)).1 = true then emS 10014 (l.1 (lkS bytes N s)).2 else l.1 (lkS bytes N s)) = _; rw [h_s1, h_r2, if_pos c15, h_r3]
              rw [hV]
              exact ⟨by rw [b2i_t c16], rfl⟩
      · have c10 : ¬ o < 5 := fun q => c10 ((nI_ltI (a := o) (b := 5) (by omega) (by omega)).mpr q)
        exact absurd ho c10
    · refine ww_run 7 4 (pc' := 23) (lv' := [(2, .int s.tk), (0, .ref 0), (1, .int (nI o))]) (st' := [.ref 0]) (w' := wTp bytes s.cd tends (nI N) (nI s.ta) (nI s.cn) (nI s.pl) s.tk) (Ps := []) rfl trivial ?_
      refine ww_cVv 11 ok_X5_look (x_lookS bytes tends N s hN ok_s) lk_X5_37 rfl (by omega) (rest := []) rfl (Nat.le_of_ble_eq_true rfl) rfl rfl rfl rfl ?_
      have ok_s1 : tsK N (lkS bytes N s) := ok_lk ok_s
      generalize h_s1 : lkS bytes N s = s1 at ok_s1 ⊢
      refine ww_run 12 2 (pc' := 28) (lv' := [(2, .int s.tk), (0, .ref 0), (1, .int (nI o))]) (st' := [.int s.tk, .ref 0]) (w' := wTp bytes s1.cd tends (nI N) (nI s1.ta) (nI s1.cn) (nI s1.pl) s1.tk) (Ps := []) rfl trivial ?_
      refine ww_cVi 14 ok_X5_emit (x_emitS bytes tends N s1 ok_s1 s.tk) lk_X5_61 rfl (by omega) (rest := []) rfl (Nat.le_of_ble_eq_true rfl) rfl rfl rfl rfl ?_
      have ok_r2 : tsK N (emS s.tk s1).2 := pr_em s.tk s1 ok_s1
      generalize h_r2 : emS s.tk s1 = r2 at ok_r2 ⊢
      refine ww_zret 15 rfl rfl (b2i_nar _) ?_
      have hV : opR bytes N (some l) s = r2 := by show (if 0 ≤ s.tk ∧ s.tk < 10006 then _ else _) = _; rw [if_pos ⟨Int32.not_lt.mp c1, Int32.not_le.mp c9⟩, h_s1, h_r2]
      rw [hV]
      exact ⟨rfl, rfl⟩
set_option maxHeartbeats 4000000 in
set_option maxRecDepth 100000 in
theorem x_not0 {N : Nat} (hN : N ≤ 160) {bytes : Nat → Int32} {D o : Nat} (hD : 6 ≤ D) (f : RD) (hf : Ct N bytes M_X5_isSum D 5 (smR bytes N f)) (pf : PrT N f) : Ct N bytes M_X5_isNot (D + 1) 5 (ntR bytes N none f) := by
  intro tends s ok_s
  refine Co.of ok_X5_isNot rfl ?_
  refine ww_run 0 3 (pc' := 7) (lv' := [(0, .ref 0), (1, .int (nI 5))]) (st' := [.int 10013, .int s.tk]) (w' := wTp bytes s.cd tends (nI N) (nI s.ta) (nI s.cn) (nI s.pl) s.tk) (Ps := []) rfl trivial ?_
  refine ww_icmp_ne 3 rfl (tgt := 47) rfl (fun c1 => ?_) (fun c1 => ?_)
  · refine ww_run 25 2 (pc' := 49) (lv' := [(0, .ref 0), (1, .int (nI 5))]) (st' := [.int (nI 5), .ref 0]) (w' := wTp bytes s.cd tends (nI N) (nI s.ta) (nI s.cn) (nI s.pl) s.tk) (Ps := []) rfl trivial ?_
    refine ww_cVi 27 ok_X5_isSum (hf tends s ok_s) lk_X5_67 rfl (by omega) (rest := []) rfl (Nat.le_of_ble_eq_true rfl) rfl rfl rfl rfl ?_
    have ok_r1 : tsK N (smR bytes N f s).2 := (pr_sm pf) s ok_s
    generalize h_r1 : smR bytes N f s = r1 at ok_r1 ⊢
    refine ww_if_ne 28 rfl (tgt := 57) rfl (fun c2 => ?_) (fun c2 => ?_)
    · rw [b2i_ne0] at c2
      refine ww_run 31 5 (pc' := 66) (lv' := [(2, .int r1.2.tk), (0, .ref 0), (1, .int (nI 5))]) (st' := [.int 10008, .int r1.2.tk]) (w' := wTp bytes r1.2.cd tends (nI N) (nI r1.2.ta) (nI r1.2.cn) (nI r1.2.pl) r1.2.tk) (Ps := []) rfl trivial ?_
      refine ww_icmp_eq 36 rfl (tgt := 78) rfl (fun c3 => ?_) (fun c3 => ?_)
      · refine ww_run 42 1 (pc' := 79) (lv' := [(2, .int r1.2.tk), (0, .ref 0), (1, .int (nI 5))]) (st' := [.ref 0]) (w' := wTp bytes r1.2.cd tends (nI N) (nI r1.2.ta) (nI r1.2.cn) (nI r1.2.pl) r1.2.tk) (Ps := []) rfl trivial ?_
        refine ww_cVv 43 ok_X5_look (x_lookS bytes tends N r1.2 hN ok_r1) lk_X5_37 rfl (by omega) (rest := []) rfl (Nat.le_of_ble_eq_true rfl) rfl rfl rfl rfl ?_
        have ok_s2 : tsK N (lkS bytes N r1.2) := ok_lk ok_r1
        generalize h_s2 : lkS bytes N r1.2 = s2 at ok_s2 ⊢
        refine ww_run 44 2 (pc' := 84) (lv' := [(2, .int r1.2.tk), (0, .ref 0), (1, .int (nI 5))]) (st' := [.int (nI 5), .ref 0]) (w' := wTp bytes s2.cd tends (nI N) (nI s2.ta) (nI s2.cn) (nI s2.pl) s2.tk) (Ps := []) rfl trivial ?_
        refine ww_cVi 46 ok_X5_isSum (hf tends s2 ok_s2) lk_X5_67 rfl (by omega) (rest := []) rfl (Nat.le_of_ble_eq_true rfl) rfl rfl rfl rfl ?_
        have ok_r3 : tsK N (smR bytes N f s2).2 := (pr_sm pf) s2 ok_s2
        generalize h_r3 : smR bytes N f s2 = r3 at ok_r3 ⊢
        refine ww_if_eq 47 rfl (tgt := 102) rfl (fun c4 => ?_) (fun c4 => ?_)
        · rw [b2i_eq0] at c4
          refine ww_run 54 1 (pc' := 103) (lv' := [(2, .int r1.2.tk), (0, .ref 0), (1, .int (nI 5))]) (st' := [.int 0]) (w' := wTp bytes r3.2.cd tends (nI N) (nI r3.2.ta) (nI r3.2.cn) (nI r3.2.pl) r3.2.tk) (Ps := []) rfl trivial ?_
          refine ww_zret 55 rfl rfl rfl ?_
          have hV : ntR bytes N none f s = r3 := by show (if s.tk = 10013 then _ else _) = _; rw [if_neg c1]; show (if (smR bytes N f s).1 = true then cpR bytes N (smR bytes N f) (smR bytes N f s).2 else smR bytes N f s) = _; rw [h_r1, if_pos c2]; show (if r1.2.tk = 10008 ∨ r1.2.tk = 10009 then bdR bytes N (smR bytes N f) r1.2.tk r1.2 else (true, r1.2)) = _; rw [if_pos (Or.inl c3)]; show (if (smR bytes N f (lkS bytes N r1.2)).1 = true then emS r1.2.tk (smR bytes N f (lkS bytes N r1.2)).2 else smR bytes N f (lkS bytes N r1.2)) = _; rw [h_s2, h_r3, if_neg c4]
          rw [hV]
          exact ⟨by rw [b2i_f c4], rfl⟩
        · rw [b2i_ne0] at c4
          refine ww_run 48 2 (pc' := 92) (lv' := [(2, .int r1.2.tk), (0, .ref 0), (1, .int (nI 5))]) (st' := [.int r1.2.tk, .ref 0]) (w' := wTp bytes r3.2.cd tends (nI N) (nI r3.2.ta) (nI r3.2.cn) (nI r3.2.pl) r3.2.tk) (Ps := []) rfl trivial ?_
          refine ww_cVi 50 ok_X5_emit (x_emitS bytes tends N r3.2 ok_r3 r1.2.tk) lk_X5_61 rfl (by omega) (rest := []) rfl (Nat.le_of_ble_eq_true rfl) rfl rfl rfl rfl ?_
          have ok_r4 : tsK N (emS r1.2.tk r3.2).2 := pr_em r1.2.tk r3.2 ok_r3
          generalize h_r4 : emS r1.2.tk r3.2 = r4 at ok_r4 ⊢
          refine ww_if_eq 51 rfl (tgt := 102) rfl (fun c5 => ?_) (fun c5 => ?_)
          · rw [b2i_eq0] at c5
            refine ww_run 54 1 (pc' := 103) (lv' := [(2, .int r1.2.tk), (0, .ref 0), (1, .int (nI 5))]) (st' := [.int 0]) (w' := wTp bytes r4.2.cd tends (nI N) (nI r4.2.ta) (nI r4.2.cn) (nI r4.2.pl) r4.2.tk) (Ps := []) rfl trivial ?_
            refine ww_zret 55 rfl rfl rfl ?_
            have hV : ntR bytes N none f s = r4 := by show (if s.tk = 10013 then _ else _) = _; rw [if_neg c1]; show (if (smR bytes N f s).1 = true then cpR bytes N (smR bytes N f) (smR bytes N f s).2 else smR bytes N f s) = _; rw [h_r1, if_pos c2]; show (if r1.2.tk = 10008 ∨ r1.2.tk = 10009 then bdR bytes N (smR bytes N f) r1.2.tk r1.2 else (true, r1.2)) = _; rw [if_pos (Or.inl c3)]; show (if (smR bytes N f (lkS bytes N r1.2)).1 = true then emS r1.2.tk (smR bytes N f (lkS bytes N r1.2)).2 else smR bytes N f (lkS bytes N r1.2)) = _; rw [h_s2, h_r3, if_pos c4, h_r4]
            rw [hV]
            exact ⟨by rw [b2i_f c5], rfl⟩
          · rw [b2i_ne0] at c5
            refine ww_run 52 2 (pc' := 103) (lv' := [(2, .int r1.2.tk), (0, .ref 0), (1, .int (nI 5))]) (st' := [.int 1]) (w' := wTp bytes r4.2.cd tends (nI N) (nI r4.2.ta) (nI r4.2.cn) (nI r4.2.pl) r4.2.tk) (Ps := []) rfl trivial ?_
            refine ww_zret 55 rfl rfl rfl ?_
            have hV : ntR bytes N none f s = r4 := by show (if s.tk = 10013 then _ else _) = _; rw [if_neg c1]; show (if (smR bytes N f s).1 = true then cpR bytes N (smR bytes N f) (smR bytes N f s).2 else smR bytes N f s) = _; rw [h_r1, if_pos c2]; show (if r1.2.tk = 10008 ∨ r1.2.tk = 10009 then bdR bytes N (smR bytes N f) r1.2.tk r1.2 else (true, r1.2)) = _; rw [if_pos (Or.inl c3)]; show (if (smR bytes N f (lkS bytes N r1.2)).1 = true then emS r1.2.tk (smR bytes N f (lkS bytes N r1.2)).2 else smR bytes N f (lkS bytes N r1.2)) = _; rw [h_s2, h_r3, if_pos c4, h_r4]
            rw [hV]
            exact ⟨by rw [b2i_t c5], rfl⟩
      · refine ww_run 37 2 (pc' := 73) (lv' := [(2, .int r1.2.tk), (0, .ref 0), (1, .int (nI 5))]) (st' := [.int 10009, .int r1.2.tk]) (w' := wTp bytes r1.2.cd tends (nI N) (nI r1.2.ta) (nI r1.2.cn) (nI r1.2.pl) r1.2.tk) (Ps := []) rfl trivial ?_
        refine ww_icmp_eq 39 rfl (tgt := 78) rfl (fun c6 => ?_) (fun c6 => ?_)
        · refine ww_run 42 1 (pc' := 79) (lv' := [(2, .int r1.2.tk), (0, .ref 0), (1, .int (nI 5))]) (st' := [.ref 0]) (w' := wTp bytes r1.2.cd tends (nI N) (nI r1.2.ta) (nI r1.2.cn) (nI r1.2.pl) r1.2.tk) (Ps := []) rfl trivial ?_
          refine ww_cVv 43 ok_X5_look (x_lookS bytes tends N r1.2 hN ok_r1) lk_X5_37 rfl (by omega) (rest := []) rfl (Nat.le_of_ble_eq_true rfl) rfl rfl rfl rfl ?_
          have ok_s2 : tsK N (lkS bytes N r1.2) := ok_lk ok_r1
          generalize h_s2 : lkS bytes N r1.2 = s2 at ok_s2 ⊢
          refine ww_run 44 2 (pc' := 84) (lv' := [(2, .int r1.2.tk), (0, .ref 0), (1, .int (nI 5))]) (st' := [.int (nI 5), .ref 0]) (w' := wTp bytes s2.cd tends (nI N) (nI s2.ta) (nI s2.cn) (nI s2.pl) s2.tk) (Ps := []) rfl trivial ?_
          refine ww_cVi 46 ok_X5_isSum (hf tends s2 ok_s2) lk_X5_67 rfl (by omega) (rest := []) rfl (Nat.le_of_ble_eq_true rfl) rfl rfl rfl rfl ?_
          have ok_r3 : tsK N (smR bytes N f s2).2 := (pr_sm pf) s2 ok_s2
          generalize h_r3 : smR bytes N f s2 = r3 at ok_r3 ⊢
          refine ww_if_eq 47 rfl (tgt := 102) rfl (fun c7 => ?_) (fun c7 => ?_)
          · rw [b2i_eq0] at c7
            refine ww_run 54 1 (pc' := 103) (lv' := [(2, .int r1.2.tk), (0, .ref 0), (1, .int (nI 5))]) (st' := [.int 0]) (w' := wTp bytes r3.2.cd tends (nI N) (nI r3.2.ta) (nI r3.2.cn) (nI r3.2.pl) r3.2.tk) (Ps := []) rfl trivial ?_
            refine ww_zret 55 rfl rfl rfl ?_
            have hV : ntR bytes N none f s = r3 := by show (if s.tk = 10013 then _ else _) = _; rw [if_neg c1]; show (if (smR bytes N f s).1 = true then cpR bytes N (smR bytes N f) (smR bytes N f s).2 else smR bytes N f s) = _; rw [h_r1, if_pos c2]; show (if r1.2.tk = 10008 ∨ r1.2.tk = 10009 then bdR bytes N (smR bytes N f) r1.2.tk r1.2 else (true, r1.2)) = _; rw [if_pos (Or.inr c6)]; show (if (smR bytes N f (lkS bytes N r1.2)).1 = true then emS r1.2.tk (smR bytes N f (lkS bytes N r1.2)).2 else smR bytes N f (lkS bytes N r1.2)) = _; rw [h_s2, h_r3, if_neg c7]
            rw [hV]
            exact ⟨by rw [b2i_f c7], rfl⟩
          · rw [b2i_ne0] at c7
            refine ww_run 48 2 (pc' := 92) (lv' := [(2, .int r1.2.tk), (0, .ref 0), (1, .int (nI 5))]) (st' := [.int r1.2.tk, .ref 0]) (w' := wTp bytes r3.2.cd tends (nI N) (nI r3.2.ta) (nI r3.2.cn) (nI r3.2.pl) r3.2.tk) (Ps := []) rfl trivial ?_
            refine ww_cVi 50 ok_X5_emit (x_emitS bytes tends N r3.2 ok_r3 r1.2.tk) lk_X5_61 rfl (by omega) (rest := []) rfl (Nat.le_of_ble_eq_true rfl) rfl rfl rfl rfl ?_
            have ok_r4 : tsK N (emS r1.2.tk r3.2).2 := pr_em r1.2.tk r3.2 ok_r3
            generalize h_r4 : emS r1.2.tk r3.2 = r4 at ok_r4 ⊢
            refine ww_if_eq 51 rfl (tgt := 102) rfl (fun c8 => ?_) (fun c8 => ?_)
            · rw [b2i_eq0] at c8
              refine ww_run 54 1 (pc' := 103) (lv' := [(2, .int r1.2.tk), (0, .ref 0), (1, .int (nI 5))]) (st' := [.int 0]) (w' := wTp bytes r4.2.cd tends (nI N) (nI r4.2.ta) (nI r4.2.cn) (nI r4.2.pl) r4.2.tk) (Ps := []) rfl trivial ?_
              refine ww_zret 55 rfl rfl rfl ?_
              have hV : ntR bytes N none f s = r4 := by show (if s.tk = 10013 then _ else _) = _; rw [if_neg c1]; show (if (smR bytes N f s).1 = true then cpR bytes N (smR bytes N f) (smR bytes N f s).2 else smR bytes N f s) = _; rw [h_r1, if_pos c2]; show (if r1.2.tk = 10008 ∨ r1.2.tk = 10009 then bdR bytes N (smR bytes N f) r1.2.tk r1.2 else (true, r1.2)) = _; rw [if_pos (Or.inr c6)]; show (if (smR bytes N f (lkS bytes N r1.2)).1 = true then emS r1.2.tk (smR bytes N f (lkS bytes N r1.2)).2 else smR bytes N f (lkS bytes N r1.2)) = _; rw [h_s2, h_r3, if_pos c7, h_r4]
              rw [hV]
              exact ⟨by rw [b2i_f c8], rfl⟩
            · rw [b2i_ne0] at c8
              refine ww_run 52 2 (pc' := 103) (lv' := [(2, .int r1.2.tk), (0, .ref 0), (1, .int (nI 5))]) (st' := [.int 1]) (w' := wTp bytes r4.2.cd tends (nI N) (nI r4.2.ta) (nI r4.2.cn) (nI r4.2.pl) r4.2.tk) (Ps := []) rfl trivial ?_
              refine ww_zret 55 rfl rfl rfl ?_
              have hV : ntR bytes N none f s = r4 := by show (if s.tk = 10013 then _ else _) = _; rw [if_neg c1]; show (if (smR bytes N f s).1 = true then cpR bytes N (smR bytes N f) (smR bytes N f s).2 else smR bytes N f s) = _; rw [h_r1, if_pos c2]; show (if r1.2.tk = 10008 ∨ r1.2.tk = 10009 then bdR bytes N (smR bytes N f) r1.2.tk r1.2 else (true, r1.2)) = _; rw [if_pos (Or.inr c6)]; show (if (smR bytes N f (lkS bytes N r1.2)).1 = true then emS r1.2.tk (smR bytes N f (lkS bytes N r1.2)).2 else smR bytes N f (lkS bytes N r1.2)) = _; rw [h_s2, h_r3, if_pos c7, h_r4]
              rw [hV]
              exact ⟨by rw [b2i_t c8], rfl⟩
        · refine ww_run 40 1 (pc' := 77) (lv' := [(2, .int r1.2.tk), (0, .ref 0), (1, .int (nI 5))]) (st' := [.int 1]) (w' := wTp bytes r1.2.cd tends (nI N) (nI r1.2.ta) (nI r1.2.cn) (nI r1.2.pl) r1.2.tk) (Ps := []) rfl trivial ?_
          refine ww_zret 41 rfl rfl rfl ?_
          have hV : ntR bytes N none f s = (true, r1.2) := by show (if s.tk = 10013 then _ else _) = _; rw [if_neg c1]; show (if (smR bytes N f s).1 = true then cpR bytes N (smR bytes N f) (smR bytes N f s).2 else smR bytes N f s) = _; rw [h_r1, if_pos c2]; show (if r1.2.tk = 10008 ∨ r1.2.tk = 10009 then bdR bytes N (smR bytes N f) r1.2.tk r1.2 else (true, r1.2)) = _; rw [if_neg (fun q => q.elim c3 c6)]
          rw [hV]
          exact ⟨rfl, rfl⟩
    · rw [b2i_eq0] at c2
      refine ww_run 29 1 (pc' := 56) (lv' := [(0, .ref 0), (1, .int (nI 5))]) (st' := [.int 0]) (w' := wTp bytes r1.2.cd tends (nI N) (nI r1.2.ta) (nI r1.2.cn) (nI r1.2.pl) r1.2.tk) (Ps := []) rfl trivial ?_
      refine ww_zret 30 rfl rfl rfl ?_
      have hV : ntR bytes N none f s = r1 := by show (if s.tk = 10013 then _ else _) = _; rw [if_neg c1]; show (if (smR bytes N f s).1 = true then cpR bytes N (smR bytes N f) (smR bytes N f s).2 else smR bytes N f s) = _; rw [h_r1, if_neg c2]
      rw [hV]
      exact ⟨by rw [b2i_f c2], rfl⟩
  · refine ww_run 4 2 (pc' := 12) (lv' := [(0, .ref 0), (1, .int (nI 5))]) (st' := [.int 5, .int (nI 5)]) (w' := wTp bytes s.cd tends (nI N) (nI s.ta) (nI s.cn) (nI s.pl) s.tk) (Ps := []) rfl trivial ?_
    refine ww_icmp_lt 6 rfl (tgt := 17) rfl (fun c9 => ?_) (fun c9 => ?_)
    · exact absurd c9 (by decide)
    · have c9 : ¬ 5 < 5 := fun q => c9 ((nI_ltI (a := 5) (b := 5) (by omega) (by omega)).mpr q)
      refine ww_run 7 1 (pc' := 16) (lv' := [(0, .ref 0), (1, .int (nI 5))]) (st' := [.int 0]) (w' := wTp bytes s.cd tends (nI N) (nI s.ta) (nI s.cn) (nI s.pl) s.tk) (Ps := []) rfl trivial ?_
      refine ww_zret 8 rfl rfl rfl ?_
      have hV : ntR bytes N none f s = (false, s) := by show (if s.tk = 10013 then _ else _) = _; exact if_pos c1
      rw [hV]
      exact ⟨rfl, rfl⟩
set_option maxHeartbeats 4000000 in
set_option maxRecDepth 100000 in
theorem x_not1 {N : Nat} (hN : N ≤ 160) {bytes : Nat → Int32} {D o : Nat} (ho : o < 5) (D2 : Nat) (hD : 6 ≤ D) (hD2 : D2 ≤ D) (f : RD) (hf : Ct N bytes M_X5_isSum D o (smR bytes N f)) (pf : PrT N f) (l : RD × RD × RD) (h2 : Ct N bytes M_X5_isNot D2 (o + 1) l.2.1) (p2 : PrT N l.2.1) : Ct N bytes M_X5_isNot (D + 1) o (ntR bytes N (some l) f) := by
  intro tends s ok_s
  refine Co.of ok_X5_isNot rfl ?_
  refine ww_run 0 3 (pc' := 7) (lv' := [(0, .ref 0), (1, .int (nI o))]) (st' := [.int 10013, .int s.tk]) (w' := wTp bytes s.cd tends (nI N) (nI s.ta) (nI s.cn) (nI s.pl) s.tk) (Ps := []) rfl trivial ?_
  refine ww_icmp_ne 3 rfl (tgt := 47) rfl (fun c1 => ?_) (fun c1 => ?_)
  · refine ww_run 25 2 (pc' := 49) (lv' := [(0, .ref 0), (1, .int (nI o))]) (st' := [.int (nI o), .ref 0]) (w' := wTp bytes s.cd tends (nI N) (nI s.ta) (nI s.cn) (nI s.pl) s.tk) (Ps := []) rfl trivial ?_
    refine ww_cVi 27 ok_X5_isSum (hf tends s ok_s) lk_X5_67 rfl (by omega) (rest := []) rfl (Nat.le_of_ble_eq_true rfl) rfl rfl rfl rfl ?_
    have ok_r1 : tsK N (smR bytes N f s).2 := (pr_sm pf) s ok_s
    generalize h_r1 : smR bytes N f s = r1 at ok_r1 ⊢
    refine ww_if_ne 28 rfl (tgt := 57) rfl (fun c2 => ?_) (fun c2 => ?_)
    · rw [b2i_ne0] at c2
      refine ww_run 31 5 (pc' := 66) (lv' := [(2, .int r1.2.tk), (0, .ref 0), (1, .int (nI o))]) (st' := [.int 10008, .int r1.2.tk]) (w' := wTp bytes r1.2.cd tends (nI N) (nI r1.2.ta) (nI r1.2.cn) (nI r1.2.pl) r1.2.tk) (Ps := []) rfl trivial ?_
      refine ww_icmp_eq 36 rfl (tgt := 78) rfl (fun c3 => ?_) (fun c3 => ?_)
      · refine ww_run 42 1 (pc' := 79) (lv' := [(2, .int r1.2.tk), (0, .ref 0), (1, .int (nI o))]) (st' := [.ref 0]) (w' := wTp bytes r1.2.cd tends (nI N) (nI r1.2.ta) (nI r1.2.cn) (nI r1.2.pl) r1.2.tk) (Ps := []) rfl trivial ?_
        refine ww_cVv 43 ok_X5_look (x_lookS bytes tends N r1.2 hN ok_r1) lk_X5_37 rfl (by omega) (rest := []) rfl (Nat.le_of_ble_eq_true rfl) rfl rfl rfl rfl ?_
        have ok_s2 : tsK N (lkS bytes N r1.2) := ok_lk ok_r1
        generalize h_s2 : lkS bytes N r1.2 = s2 at ok_s2 ⊢
        refine ww_run 44 2 (pc' := 84) (lv' := [(2, .int r1.2.tk), (0, .ref 0), (1, .int (nI o))]) (st' := [.int (nI o), .ref 0]) (w' := wTp bytes s2.cd tends (nI N) (nI s2.ta) (nI s2.cn) (nI s2.pl) s2.tk) (Ps := []) rfl trivial ?_
        refine ww_cVi 46 ok_X5_isSum (hf tends s2 ok_s2) lk_X5_67 rfl (by omega) (rest := []) rfl (Nat.le_of_ble_eq_true rfl) rfl rfl rfl rfl ?_
        have ok_r3 : tsK N (smR bytes N f s2).2 := (pr_sm pf) s2 ok_s2
        generalize h_r3 : smR bytes N f s2 = r3 at ok_r3 ⊢
        refine ww_if_eq 47 rfl (tgt := 102) rfl (fun c4 => ?_) (fun c4 => ?_)
        · rw [b2i_eq0] at c4
          refine ww_run 54 1 (pc' := 103) (lv' := [(2, .int r1.2.tk), (0, .ref 0), (1, .int (nI o))]) (st' := [.int 0]) (w' := wTp bytes r3.2.cd tends (nI N) (nI r3.2.ta) (nI r3.2.cn) (nI r3.2.pl) r3.2.tk) (Ps := []) rfl trivial ?_
          refine ww_zret 55 rfl rfl rfl ?_
          have hV : ntR bytes N (some l) f s = r3 := by show (if s.tk = 10013 then _ else _) = _; rw [if_neg c1]; show (if (smR bytes N f s).1 = true then cpR bytes N (smR bytes N f) (smR bytes N f s).2 else smR bytes N f s) = _; rw [h_r1, if_pos c2]; show (if r1.2.tk = 10008 ∨ r1.2.tk = 10009 then bdR bytes N (smR bytes N f) r1.2.tk r1.2 else (true, r1.2)) = _; rw [if_pos (Or.inl c3)]; show (if (smR bytes N f (lkS bytes N r1.2)).1 = true then emS r1.2.tk (smR bytes N f (lkS bytes N r1.2)).2 else smR bytes N f (lkS bytes N r1.2)) = _; rw [h_s2, h_r3, if_neg c4]
          rw [hV]
          exact ⟨by rw [b2i_f c4], rfl⟩
        · rw [b2i_ne0] at c4
          refine ww_run 48 2 (pc' := 92) (lv' := [(2, .int r1.2.tk), (0, .ref 0), (1, .int (nI o))]) (st' := [.int r1.2.tk, .ref 0]) (w' := wTp bytes r3.2.cd tends (nI N) (nI r3.2.ta) (nI r3.2.cn) (nI r3.2.pl) r3.2.tk) (Ps := []) rfl trivial ?_
          refine ww_cVi 50 ok_X5_emit (x_emitS bytes tends N r3.2 ok_r3 r1.2.tk) lk_X5_61 rfl (by omega) (rest := []) rfl (Nat.le_of_ble_eq_true rfl) rfl rfl rfl rfl ?_
          have ok_r4 : tsK N (emS r1.2.tk r3.2).2 := pr_em r1.2.tk r3.2 ok_r3
          generalize h_r4 : emS r1.2.tk r3.2 = r4 at ok_r4 ⊢
          refine ww_if_eq 51 rfl (tgt := 102) rfl (fun c5 => ?_) (fun c5 => ?_)
          · rw [b2i_eq0] at c5
            refine ww_run 54 1 (pc' := 103) (lv' := [(2, .int r1.2.tk), (0, .ref 0), (1, .int (nI o))]) (st' := [.int 0]) (w' := wTp bytes r4.2.cd tends (nI N) (nI r4.2.ta) (nI r4.2.cn) (nI r4.2.pl) r4.2.tk) (Ps := []) rfl trivial ?_
            refine ww_zret 55 rfl rfl rfl ?_
            have hV : ntR bytes N (some l) f s = r4 := by show (if s.tk = 10013 then _ else _) = _; rw [if_neg c1]; show (if (smR bytes N f s).1 = true then cpR bytes N (smR bytes N f) (smR bytes N f s).2 else smR bytes N f s) = _; rw [h_r1, if_pos c2]; show (if r1.2.tk = 10008 ∨ r1.2.tk = 10009 then bdR bytes N (smR bytes N f) r1.2.tk r1.2 else (true, r1.2)) = _; rw [if_pos (Or.inl c3)]; show (if (smR bytes N f (lkS bytes N r1.2)).1 = true then emS r1.2.tk (smR bytes N f (lkS bytes N r1.2)).2 else smR bytes N f (lkS bytes N r1.2)) = _; rw [h_s2, h_r3, if_pos c4, h_r4]
            rw [hV]
            exact ⟨by rw [b2i_f c5], rfl⟩
          · rw [b2i_ne0] at c5
            refine ww_run 52 2 (pc' := 103) (lv' := [(2, .int r1.2.tk), (0, .ref 0), (1, .int (nI o))]) (st' := [.int 1]) (w' := wTp bytes r4.2.cd tends (nI N) (nI r4.2.ta) (nI r4.2.cn) (nI r4.2.pl) r4.2.tk) (Ps := []) rfl trivial ?_
            refine ww_zret 55 rfl rfl rfl ?_
            have hV : ntR bytes N (some l) f s = r4 := by show (if s.tk = 10013 then _ else _) = _; rw [if_neg c1]; show (if (smR bytes N f s).1 = true then cpR bytes N (smR bytes N f) (smR bytes N f s).2 else smR bytes N f s) = _; rw [h_r1, if_pos c2]; show (if r1.2.tk = 10008 ∨ r1.2.tk = 10009 then bdR bytes N (smR bytes N f) r1.2.tk r1.2 else (true, r1.2)) = _; rw [if_pos (Or.inl c3)]; show (if (smR bytes N f (lkS bytes N r1.2)).1 = true then emS r1.2.tk (smR bytes N f (lkS bytes N r1.2)).2 else smR bytes N f (lkS bytes N r1.2)) = _; rw [h_s2, h_r3, if_pos c4, h_r4]
            rw [hV]
            exact ⟨by rw [b2i_t c5], rfl⟩
      · refine ww_run 37 2 (pc' := 73) (lv' := [(2, .int r1.2.tk), (0, .ref 0), (1, .int (nI o))]) (st' := [.int 10009, .int r1.2.tk]) (w' := wTp bytes r1.2.cd tends (nI N) (nI r1.2.ta) (nI r1.2.cn) (nI r1.2.pl) r1.2.tk) (Ps := []) rfl trivial ?_
        refine ww_icmp_eq 39 rfl (tgt := 78) rfl (fun c6 => ?_) (fun c6 => ?_)
        · refine ww_run 42 1 (pc' := 79) (lv' := [(2, .int r1.2.tk), (0, .ref 0), (1, .int (nI o))]) (st' := [.ref 0]) (w' := wTp bytes r1.2.cd tends (nI N) (nI r1.2.ta) (nI r1.2.cn) (nI r1.2.pl) r1.2.tk) (Ps := []) rfl trivial ?_
          refine ww_cVv 43 ok_X5_look (x_lookS bytes tends N r1.2 hN ok_r1) lk_X5_37 rfl (by omega) (rest := []) rfl (Nat.le_of_ble_eq_true rfl) rfl rfl rfl rfl ?_
          have ok_s2 : tsK N (lkS bytes N r1.2) := ok_lk ok_r1
          generalize h_s2 : lkS bytes N r1.2 = s2 at ok_s2 ⊢
          refine ww_run 44 2 (pc' := 84) (lv' := [(2, .int r1.2.tk), (0, .ref 0), (1, .int (nI o))]) (st' := [.int (nI o), .ref 0]) (w' := wTp bytes s2.cd tends (nI N) (nI s2.ta) (nI s2.cn) (nI s2.pl) s2.tk) (Ps := []) rfl trivial ?_
          refine ww_cVi 46 ok_X5_isSum (hf tends s2 ok_s2) lk_X5_67 rfl (by omega) (rest := []) rfl (Nat.le_of_ble_eq_true rfl) rfl rfl rfl rfl ?_
          have ok_r3 : tsK N (smR bytes N f s2).2 := (pr_sm pf) s2 ok_s2
          generalize h_r3 : smR bytes N f s2 = r3 at ok_r3 ⊢
          refine ww_if_eq 47 rfl (tgt := 102) rfl (fun c7 => ?_) (fun c7 => ?_)
          · rw [b2i_eq0] at c7
            refine ww_run 54 1 (pc' := 103) (lv' := [(2, .int r1.2.tk), (0, .ref 0), (1, .int (nI o))]) (st' := [.int 0]) (w' := wTp bytes r3.2.cd tends (nI N) (nI r3.2.ta) (nI r3.2.cn) (nI r3.2.pl) r3.2.tk) (Ps := []) rfl trivial ?_
            refine ww_zret 55 rfl rfl rfl ?_
            have hV : ntR bytes N (some l) f s = r3 := by show (if s.tk = 10013 then _ else _) = _; rw [if_neg c1]; show (if (smR bytes N f s).1 = true then cpR bytes N (smR bytes N f) (smR bytes N f s).2 else smR bytes N f s) = _; rw [h_r1, if_pos c2]; show (if r1.2.tk = 10008 ∨ r1.2.tk = 10009 then bdR bytes N (smR bytes N f) r1.2.tk r1.2 else (true, r1.2)) = _; rw [if_pos (Or.inr c6)]; show (if (smR bytes N f (lkS bytes N r1.2)).1 = true then emS r1.2.tk (smR bytes N f (lkS bytes N r1.2)).2 else smR bytes N f (lkS bytes N r1.2)) = _; rw [h_s2, h_r3, if_neg c7]
            rw [hV]
            exact ⟨by rw [b2i_f c7], rfl⟩
          · rw [b2i_ne0] at c7
            refine ww_run 48 2 (pc' := 92) (lv' := [(2, .int r1.2.tk), (0, .ref 0), (1, .int (nI o))]) (st' := [.int r1.2.tk, .ref 0]) (w' := wTp bytes r3.2.cd tends (nI N) (nI r3.2.ta) (nI r3.2.cn) (nI r3.2.pl) r3.2.tk) (Ps := []) rfl trivial ?_
            refine ww_cVi 50 ok_X5_emit (x_emitS bytes tends N r3.2 ok_r3 r1.2.tk) lk_X5_61 rfl (by omega) (rest := []) rfl (Nat.le_of_ble_eq_true rfl) rfl rfl rfl rfl ?_
            have ok_r4 : tsK N (emS r1.2.tk r3.2).2 := pr_em r1.2.tk r3.2 ok_r3
            generalize h_r4 : emS r1.2.tk r3.2 = r4 at ok_r4 ⊢
            refine ww_if_eq 51 rfl (tgt := 102) rfl (fun c8 => ?_) (fun c8 => ?_)
            · rw [b2i_eq0] at c8
              refine ww_run 54 1 (pc' := 103) (lv' := [(2, .int r1.2.tk), (0, .ref 0), (1, .int (nI o))]) (st' := [.int 0]) (w' := wTp bytes r4.2.cd tends (nI N) (nI r4.2.ta) (nI r4.2.cn) (nI r4.2.pl) r4.2.tk) (Ps := []) rfl trivial ?_
              refine ww_zret 55 rfl rfl rfl ?_
              have hV : ntR bytes N (some l) f s = r4 := by show (if s.tk = 10013 then _ else _) = _; rw [if_neg c1]; show (if (smR bytes N f s).1 = true then cpR bytes N (smR bytes N f) (smR bytes N f s).2 else smR bytes N f s) = _; rw [h_r1, if_pos c2]; show (if r1.2.tk = 10008 ∨ r1.2.tk = 10009 then bdR bytes N (smR bytes N f) r1.2.tk r1.2 else (true, r1.2)) = _; rw [if_pos (Or.inr c6)]; show (if (smR bytes N f (lkS bytes N r1.2)).1 = true then emS r1.2.tk (smR bytes N f (lkS bytes N r1.2)).2 else smR bytes N f (lkS bytes N r1.2)) = _; rw [h_s2, h_r3, if_pos c7, h_r4]
              rw [hV]
              exact ⟨by rw [b2i_f c8], rfl⟩
            · rw [b2i_ne0] at c8
              refine ww_run 52 2 (pc' := 103) (lv' := [(2, .int r1.2.tk), (0, .ref 0), (1, .int (nI o))]) (st' := [.int 1]) (w' := wTp bytes r4.2.cd tends (nI N) (nI r4.2.ta) (nI r4.2.cn) (nI r4.2.pl) r4.2.tk) (Ps := []) rfl trivial ?_
              refine ww_zret 55 rfl rfl rfl ?_
              have hV : ntR bytes N (some l) f s = r4 := by show (if s.tk = 10013 then _ else _) = _; rw [if_neg c1]; show (if (smR bytes N f s).1 = true then cpR bytes N (smR bytes N f) (smR bytes N f s).2 else smR bytes N f s) = _; rw [h_r1, if_pos c2]; show (if r1.2.tk = 10008 ∨ r1.2.tk = 10009 then bdR bytes N (smR bytes N f) r1.2.tk r1.2 else (true, r1.2)) = _; rw [if_pos (Or.inr c6)]; show (if (smR bytes N f (lkS bytes N r1.2)).1 = true then emS r1.2.tk (smR bytes N f (lkS bytes N r1.2)).2 else smR bytes N f (lkS bytes N r1.2)) = _; rw [h_s2, h_r3, if_pos c7, h_r4]
              rw [hV]
              exact ⟨by rw [b2i_t c8], rfl⟩
        · refine ww_run 40 1 (pc' := 77) (lv' := [(2, .int r1.2.tk), (0, .ref 0), (1, .int (nI o))]) (st' := [.int 1]) (w' := wTp bytes r1.2.cd tends (nI N) (nI r1.2.ta) (nI r1.2.cn) (nI r1.2.pl) r1.2.tk) (Ps := []) rfl trivial ?_
          refine ww_zret 41 rfl rfl rfl ?_
          have hV : ntR bytes N (some l) f s = (true, r1.2) := by show (if s.tk = 10013 then _ else _) = _; rw [if_neg c1]; show (if (smR bytes N f s).1 = true then cpR bytes N (smR bytes N f) (smR bytes N f s).2 else smR bytes N f s) = _; rw [h_r1, if_pos c2]; show (if r1.2.tk = 10008 ∨ r1.2.tk = 10009 then bdR bytes N (smR bytes N f) r1.2.tk r1.2 else (true, r1.2)) = _; rw [if_neg (fun q => q.elim c3 c6)]
          rw [hV]
          exact ⟨rfl, rfl⟩
    · rw [b2i_eq0] at c2
      refine ww_run 29 1 (pc' := 56) (lv' := [(0, .ref 0), (1, .int (nI o))]) (st' := [.int 0]) (w' := wTp bytes r1.2.cd tends (nI N) (nI r1.2.ta) (nI r1.2.cn) (nI r1.2.pl) r1.2.tk) (Ps := []) rfl trivial ?_
      refine ww_zret 30 rfl rfl rfl ?_
      have hV : ntR bytes N (some l) f s = r1 := by show (if s.tk = 10013 then _ else _) = _; rw [if_neg c1]; show (if (smR bytes N f s).1 = true then cpR bytes N (smR bytes N f) (smR bytes N f s).2 else smR bytes N f s) = _; rw [h_r1, if_neg c2]
      rw [hV]
      exact ⟨by rw [b2i_f c2], rfl⟩
  · refine ww_run 4 2 (pc' := 12) (lv' := [(0, .ref 0), (1, .int (nI o))]) (st' := [.int 5, .int (nI o)]) (w' := wTp bytes s.cd tends (nI N) (nI s.ta) (nI s.cn) (nI s.pl) s.tk) (Ps := []) rfl trivial ?_
    refine ww_icmp_lt 6 rfl (tgt := 17) rfl (fun c9 => ?_) (fun c9 => ?_)
    · have c9 : o < 5 := (nI_ltI (a := o) (b := 5) (by omega) (by omega)).mp c9
      refine ww_run 9 1 (pc' := 18) (lv' := [(0, .ref 0), (1, .int (nI o))]) (st' := [.ref 0]) (w' := wTp bytes s.cd tends (nI N) (nI s.ta) (nI s.cn) (nI s.pl) s.tk) (Ps := []) rfl trivial ?_
      refine ww_cVv 10 ok_X5_look (x_lookS bytes tends N s hN ok_s) lk_X5_37 rfl (by omega) (rest := []) rfl (Nat.le_of_ble_eq_true rfl) rfl rfl rfl rfl ?_
      have ok_s1 : tsK N (lkS bytes N s) := ok_lk ok_s
      generalize h_s1 : lkS bytes N s = s1 at ok_s1 ⊢
      refine ww_run 11 4 (pc' := 25) (lv' := [(0, .ref 0), (1, .int (nI o))]) (st' := [.int ((nI o) + 1), .ref 0]) (w' := wTp bytes s1.cd tends (nI N) (nI s1.ta) (nI s1.cn) (nI s1.pl) s1.tk) (Ps := []) rfl trivial ?_
      rw [nI_1 o]
      refine ww_cVi 15 ok_X5_isNot (h2 tends s1 ok_s1) lk_X5_64 rfl (by omega) (rest := []) rfl (Nat.le_of_ble_eq_true rfl) rfl rfl rfl rfl ?_
      have ok_r2 : tsK N (l.2.1 s1).2 := p2 s1 ok_s1
      generalize h_r2 : l.2.1 s1 = r2 at ok_r2 ⊢
      refine ww_if_eq 16 rfl (tgt := 45) rfl (fun c10 => ?_) (fun c10 => ?_)
      · rw [b2i_eq0] at c10
        refine ww_run 23 1 (pc' := 46) (lv' := [(0, .ref 0), (1, .int (nI o))]) (st' := [.int 0]) (w' := wTp bytes r2.2.cd tends (nI N) (nI r2.2.ta) (nI r2.2.cn) (nI r2.2.pl) r2.2.tk) (Ps := []) rfl trivial ?_
        refine ww_zret 24 rfl rfl rfl ?_
        have hV : ntR bytes N (some l) f s = r2 := by show (if s.tk = 10013 then _ else _) = _; rw [if_pos c1]; show (if (l.2.1 (lkS bytes N s)).1 = true then emS 10013 (l.2.1 (lkS bytes N s)).2 else l.2.1 (lkS bytes N s)) = _; rw [h_s1, h_r2, if_neg c10]
        rw [hV]
        exact ⟨by rw [b2i_f c10], rfl⟩
      · rw [b2i_ne0] at c10
        refine ww_run 17 2 (pc' := 35) (lv' := [(0, .ref 0), (1, .int (nI o))]) (st' := [.int 10013, .ref 0]) (w' := wTp bytes r2.2.cd tends (nI N) (nI r2.2.ta) (nI r2.2.cn) (nI r2.2.pl) r2.2.tk) (Ps := []) rfl trivial ?_
        refine ww_cVi 19 ok_X5_emit (x_emitS bytes tends N r2.2 ok_r2 10013) lk_X5_61 rfl (by omega) (rest := []) rfl (Nat.le_of_ble_eq_true rfl) rfl rfl rfl rfl ?_
        have ok_r3 : tsK N (emS 10013 r2.2).2 := pr_em 10013 r2.2 ok_r2
        generalize h_r3 : emS 10013 r2.2 = r3 at ok_r3 ⊢
        refine ww_if_eq 20 rfl (tgt := 45) rfl (fun c11 => ?_) (fun c11 => ?_)
        · rw [b2i_eq0] at c11
          refine ww_run 23 1 (pc' := 46) (lv' := [(0, .ref 0), (1, .int (nI o))]) (st' := [.int 0]) (w' := wTp bytes r3.2.cd tends (nI N) (nI r3.2.ta) (nI r3.2.cn) (nI r3.2.pl) r3.2.tk) (Ps := []) rfl trivial ?_
          refine ww_zret 24 rfl rfl rfl ?_
          have hV : ntR bytes N (some l) f s = r3 := by show (if s.tk = 10013 then _ else _) = _; rw [if_pos c1]; show (if (l.2.1 (lkS bytes N s)).1 = true then emS 10013 (l.2.1 (lkS bytes N s)).2 else l.2.1 (lkS bytes N s)) = _; rw [h_s1, h_r2, if_pos c10, h_r3]
          rw [hV]
          exact ⟨by rw [b2i_f c11], rfl⟩
        · rw [b2i_ne0] at c11
          refine ww_run 21 2 (pc' := 46) (lv' := [(0, .ref 0), (1, .int (nI o))]) (st' := [.int 1]) (w' := wTp bytes r3.2.cd tends (nI N) (nI r3.2.ta) (nI r3.2.cn) (nI r3.2.pl) r3.2.tk) (Ps := []) rfl trivial ?_
          refine ww_zret 24 rfl rfl rfl ?_
          have hV : ntR bytes N (some l) f s = r3 := by show (if s.tk = 10013 then _ else _) = _; rw [if_pos c1]; show (if (l.2.1 (lkS bytes N s)).1 = true then emS 10013 (l.2.1 (lkS bytes N s)).2 else l.2.1 (lkS bytes N s)) = _; rw [h_s1, h_r2, if_pos c10, h_r3]
          rw [hV]
          exact ⟨by rw [b2i_t c11], rfl⟩
    · have c9 : ¬ o < 5 := fun q => c9 ((nI_ltI (a := o) (b := 5) (by omega) (by omega)).mpr q)
      exact absurd ho c9
def dpO : Nat → Nat
  | 0 => 8
  | n + 1 => dpO n + 6
theorem dpO_ge : ∀ n, 8 ≤ dpO n
  | 0 => Nat.le_refl 8
  | n + 1 => Nat.le_trans (dpO_ge n) (Nat.le_add_right _ 6)
theorem x_rd {N : Nat} (hN : N ≤ 160) {bytes : Nat → Int32} : ∀ (n o : Nat), o + n = 5 →
    (Ct N bytes M_X5_isOperand (dpO n) o (rdL bytes N n).1 ∧ Ct N bytes M_X5_isNot (dpO n + 3) o (rdL bytes N n).2.1 ∧ Ct N bytes M_X5_isEither (dpO n + 5) o (rdL bytes N n).2.2) ∧
    (PrT N (rdL bytes N n).1 ∧ PrT N (rdL bytes N n).2.1 ∧ PrT N (rdL bytes N n).2.2) := by
  have up : ∀ (lo : Option (RD × RD × RD)) (o D : Nat), 7 ≤ D → Ct N bytes M_X5_isOperand D o (opR bytes N lo) → PrT N (opR bytes N lo) → (Ct N bytes M_X5_isSum (D + 2) o (smR bytes N (opR bytes N lo)) → Ct N bytes M_X5_isNot (D + 3) o (ntR bytes N lo (opR bytes N lo))) → PrT N (ntR bytes N lo (opR bytes N lo)) →
      (Ct N bytes M_X5_isOperand D o (lvR bytes N lo).1 ∧ Ct N bytes M_X5_isNot (D + 3) o (lvR bytes N lo).2.1 ∧ Ct N bytes M_X5_isEither (D + 5) o (lvR bytes N lo).2.2) ∧ (PrT N (lvR bytes N lo).1 ∧ PrT N (lvR bytes N lo).2.1 ∧ PrT N (lvR bytes N lo).2.2) := by
    intro lo o D hD h1 p1 hn pn
    have ht := x_term hN (D := D) (by omega) _ h1 p1
    have hs := x_sum hN (D := D + 1) (by omega) _ ht (pr_ch p1)
    have hno := hn hs
    have hb := x_both hN (D := D + 3) (by omega) _ hno pn
    have he := x_either hN (D := D + 4) (by omega) _ hb (pr_ch pn)
    exact ⟨⟨h1, hno, he⟩, p1, pn, pr_ei pn⟩
  intro n
  induction n with
  | zero =>
    intro o ho
    obtain rfl : o = 5 := by omega
    have p0 : PrT N (opR bytes N none) := pr_op (fun l h => by cases h)
    have h0 : Ct N bytes M_X5_isOperand 8 5 (opR bytes N none) := x_opd0 hN (D := 0) (o := 0)
    exact up none 5 8 (by omega) h0 p0 (fun hs => x_not0 hN (o := 0) (D := 10) (by omega) _ hs p0) (pr_nt p0 (fun l h => by cases h))
  | succ n ih =>
    intro o ho
    obtain ⟨⟨i1, i2, i3⟩, j1, j2, j3⟩ := ih (o + 1) (by omega)
    have hD := dpO_ge n
    have p0 : PrT N (opR bytes N (some (rdL bytes N n))) := pr_op (fun l h => by cases h; exact ⟨j1, j3⟩)
    have h0 : Ct N bytes M_X5_isOperand (dpO n + 5 + 1) o (opR bytes N (some (rdL bytes N n))) := x_opd1 hN (by omega) (dpO n) (dpO n + 5) (by omega) (by omega) (by omega) _ i1 i3 j1 j3
    exact up (some (rdL bytes N n)) o (dpO n + 6) (by omega) h0 p0 (fun hs => x_not1 hN (by omega) (dpO n + 3) (D := dpO n + 6 + 2) (by omega) (by omega) _ hs p0 _ i2 j2) (pr_nt p0 (fun l h => by cases h; exact j2))
