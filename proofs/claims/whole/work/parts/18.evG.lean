set_option maxHeartbeats 4000000 in
set_option maxRecDepth 100000 in
theorem l_X0_live_28 {Q : Option Value → List va_E → Prop} {d : Nat} (hd : 5 ≤ d) (fr lo fa ki mo : Nat → Int32) (sty wset wfor law lent : Int32) (firsts waits : Nat → Int32) (nc : Nat) (codes ends : Nat → Int32) (P C : Nat) (hP : P ≤ 5) (hC : C ≤ 6) (e : Nat → Nat) (hL : LW nc ends e) (nn m : Int32) (s : ES) (K : ∀ (names stk : Nat → Int32), WW M_X0_live d Q xz 84 [(0, .ref 0), (1, .ref 17), (2, .int nn), (3, .int m), (4, .int (nI P))] [] (wEv fr lo fa ki mo (nI P) (nI C) sty wset wfor law lent ((riseTo ki mo fa lo (sayV codes e) m s P).1) ((riseTo ki mo fa lo (sayV codes e) m s P).2.1) ((riseTo ki mo fa lo (sayV codes e) m s P).2.2.1) ((riseTo ki mo fa lo (sayV codes e) m s P).2.2.2.1) ((riseTo ki mo fa lo (sayV codes e) m s P).2.2.2.2.1) firsts waits ((riseTo ki mo fa lo (sayV codes e) m s P).2.2.2.2.2.1) ((riseTo ki mo fa lo (sayV codes e) m s P).2.2.2.2.2.2.1) names ((riseTo ki mo fa lo (sayV codes e) m s P).2.2.2.2.2.2.2.1) ((riseTo ki mo fa lo (sayV codes e) m s P).2.2.2.2.2.2.2.2) nc codes ends stk)) :
    ∀ (n i : Nat) (t : ES) (names stk : Nat → Int32), i ≤ P → P + 1 ≤ i + n → t = riseTo ki mo fa lo (sayV codes e) m s i → onOK t.1 → WW M_X0_live d Q xz 28 [(0, .ref 0), (1, .ref 17), (2, .int nn), (3, .int m), (4, .int (nI i))] [] (wEv fr lo fa ki mo (nI P) (nI C) sty wset wfor law lent t.1 t.2.1 t.2.2.1 t.2.2.2.1 t.2.2.2.2.1 firsts waits t.2.2.2.2.2.1 t.2.2.2.2.2.2.1 names t.2.2.2.2.2.2.2.1 t.2.2.2.2.2.2.2.2 nc codes ends stk) := by
  intro n
  induction n with
  | zero => intro i; intros; omega
  | succ n ih =>
    intro i t names stk hi hn ht hon
    refine ww_run 15 4 (pc' := 37) (lv' := [(0, .ref 0), (1, .ref 17), (2, .int nn), (3, .int m), (4, .int (nI i))]) (st' := [.int (nI P), .int (nI i)]) (w' := wEv fr lo fa ki mo (nI P) (nI C) sty wset wfor law lent t.1 t.2.1 t.2.2.1 t.2.2.2.1 t.2.2.2.2.1 firsts waits t.2.2.2.2.2.1 t.2.2.2.2.2.2.1 names t.2.2.2.2.2.2.2.1 t.2.2.2.2.2.2.2.2 nc codes ends stk) (Ps := []) rfl trivial ?_
    refine ww_icmp_ge 19 rfl (tgt := 84) rfl (fun c1 => ?_) (fun c1 => ?_)
    · have c1 : P ≤ i := (nI_leI (a := P) (b := i) (by omega) (by omega)).mp c1
      obtain rfl : i = P := by omega
      subst ht
      exact K names stk
    · have c1 : ¬ P ≤ i := fun q => c1 ((nI_leI (a := P) (b := i) (by omega) (by omega)).mpr q)
      refine ww_run 20 4 (pc' := 47) (lv' := [(0, .ref 0), (1, .ref 17), (2, .int nn), (3, .int m), (4, .int (nI i))]) (st' := [.int (t.1 (nI i).toNatClampNeg)]) (w' := wEv fr lo fa ki mo (nI P) (nI C) sty wset wfor law lent t.1 t.2.1 t.2.2.1 t.2.2.2.1 t.2.2.2.2.1 firsts waits t.2.2.2.2.2.1 t.2.2.2.2.2.2.1 names t.2.2.2.2.2.2.2.1 t.2.2.2.2.2.2.2.2 nc codes ends stk) (Ps := [vp_in (nI i) 5]) rfl ⟨(vp_in_nI (by omega) (by omega)), trivial⟩ ?_
      rw [nI_clamp (n := i) (by omega)]
      refine ww_if_lt 24 rfl (tgt := 78) rfl (fun c2 => ?_) (fun c2 => ?_)
      · refine ww_run 40 2 (pc' := 28) (lv' := [(4, .int ((nI i) + 1)), (0, .ref 0), (1, .ref 17), (2, .int nn), (3, .int m)]) (st' := []) (w' := wEv fr lo fa ki mo (nI P) (nI C) sty wset wfor law lent t.1 t.2.1 t.2.2.1 t.2.2.2.1 t.2.2.2.2.1 firsts waits t.2.2.2.2.2.1 t.2.2.2.2.2.2.1 names t.2.2.2.2.2.2.2.1 t.2.2.2.2.2.2.2.2 nc codes ends stk) (Ps := []) rfl trivial ?_
        rw [nI_1 i]
        refine ww_lv [1, 2, 3, 4, 0] (lv' := [(0, .ref 0), (1, .ref 17), (2, .int nn), (3, .int m), (4, .int (nI (i + 1)))]) rfl ?_
        refine ih (i + 1) t names stk (by omega) (by omega) ?_ hon
        simp only [riseTo]
        rw [← ht, if_neg (by grind)]
      · refine ww_run 25 9 (pc' := 67) (lv' := [(0, .ref 0), (1, .ref 17), (2, .int nn), (3, .int m), (4, .int (nI i))]) (st' := [.int (lo (nI i).toNatClampNeg), .int (t.2.2.1 (nI i).toNatClampNeg)]) (w' := wEv fr lo fa ki mo (nI P) (nI C) sty wset wfor law lent t.1 t.2.1 t.2.2.1 t.2.2.2.1 t.2.2.2.2.1 firsts waits t.2.2.2.2.2.1 t.2.2.2.2.2.2.1 names t.2.2.2.2.2.2.2.1 t.2.2.2.2.2.2.2.2 nc codes ends stk) (Ps := [vp_in (nI i) 5, vp_in (nI i) 5]) rfl ⟨(vp_in_nI (by omega) (by omega)), (vp_in_nI (by omega) (by omega)), trivial⟩ ?_
        rw [nI_clamp (n := i) (by omega)]
        refine ww_icmp_lt 34 rfl (tgt := 78) rfl (fun c3 => ?_) (fun c3 => ?_)
        · refine ww_run 40 2 (pc' := 28) (lv' := [(4, .int ((nI i) + 1)), (0, .ref 0), (1, .ref 17), (2, .int nn), (3, .int m)]) (st' := []) (w' := wEv fr lo fa ki mo (nI P) (nI C) sty wset wfor law lent t.1 t.2.1 t.2.2.1 t.2.2.2.1 t.2.2.2.2.1 firsts waits t.2.2.2.2.2.1 t.2.2.2.2.2.2.1 names t.2.2.2.2.2.2.2.1 t.2.2.2.2.2.2.2.2 nc codes ends stk) (Ps := []) rfl trivial ?_
          rw [nI_1 i]
          refine ww_lv [1, 2, 3, 4, 0] (lv' := [(0, .ref 0), (1, .ref 17), (2, .int nn), (3, .int m), (4, .int (nI (i + 1)))]) rfl ?_
          refine ih (i + 1) t names stk (by omega) (by omega) ?_ hon
          simp only [riseTo]
          rw [← ht, if_neg (by grind)]
        · obtain ⟨c, hc, honc⟩ : ∃ c, c < 6 ∧ t.1 i = nI c := by
            rcases hon i (by omega) with h | h
            · exact absurd (show t.1 i < 0 by rw [h]; decide) c2
            · exact h
          refine ww_run 35 4 (pc' := 75) (lv' := [(0, .ref 0), (1, .ref 17), (2, .int nn), (3, .int m), (4, .int (nI i))]) (st' := [.int m, .int (nI i), .ref 17, .ref 0]) (w' := wEv fr lo fa ki mo (nI P) (nI C) sty wset wfor law lent t.1 t.2.1 t.2.2.1 t.2.2.2.1 t.2.2.2.2.1 firsts waits t.2.2.2.2.2.1 t.2.2.2.2.2.2.1 names t.2.2.2.2.2.2.2.1 t.2.2.2.2.2.2.2.2 nc codes ends stk) (Ps := []) rfl trivial ?_
          refine ww_cV 39 ok_X0_rise (c_X0_rise fr lo fa ki mo (nI P) (nI C) sty wset wfor law lent t.1 t.2.1 t.2.2.1 t.2.2.2.1 t.2.2.2.2.1 firsts waits t.2.2.2.2.2.1 t.2.2.2.2.2.2.1 names t.2.2.2.2.2.2.2.1 t.2.2.2.2.2.2.2.2 nc codes ends stk e hL i c m (by omega) hc honc) lk_X0_78 rfl (by omega) (rest := []) rfl (Nat.le_of_ble_eq_true rfl) rfl rfl rfl rfl (fun r w' hq => ?_)
          obtain ⟨rfl, names', stk', rfl⟩ := hq
          refine ww_run 40 2 (pc' := 28) (lv' := [(4, .int ((nI i) + 1)), (0, .ref 0), (1, .ref 17), (2, .int nn), (3, .int m)]) (st' := []) (w' := wEv fr lo fa ki mo (nI P) (nI C) sty wset wfor law lent ((rise1 ki mo fa (sayV codes e) m t i c).1) ((rise1 ki mo fa (sayV codes e) m t i c).2.1) ((rise1 ki mo fa (sayV codes e) m t i c).2.2.1) ((rise1 ki mo fa (sayV codes e) m t i c).2.2.2.1) ((rise1 ki mo fa (sayV codes e) m t i c).2.2.2.2.1) firsts waits ((rise1 ki mo fa (sayV codes e) m t i c).2.2.2.2.2.1) ((rise1 ki mo fa (sayV codes e) m t i c).2.2.2.2.2.2.1) names' ((rise1 ki mo fa (sayV codes e) m t i c).2.2.2.2.2.2.2.1) ((rise1 ki mo fa (sayV codes e) m t i c).2.2.2.2.2.2.2.2) nc codes ends stk') (Ps := []) rfl trivial ?_
          rw [nI_1 i]
          refine ww_lv [1, 2, 3, 4, 0] (lv' := [(0, .ref 0), (1, .ref 17), (2, .int nn), (3, .int m), (4, .int (nI (i + 1)))]) rfl ?_
          refine ih (i + 1) (rise1 ki mo fa (sayV codes e) m t i c) names' stk' (by omega) (by omega) ?_ (onOK_up hon i (Or.inl rfl))
          simp only [riseTo]
          rw [← ht, if_pos ⟨Int32.not_lt.mp c2, Int32.not_lt.mp c3⟩, honc, nI_clamp (by omega)]
set_option maxHeartbeats 4000000 in
set_option maxRecDepth 100000 in
theorem l_X0_live_93 {Q : Option Value → List va_E → Prop} {d : Nat} (hd : 5 ≤ d) (fr lo fa ki mo : Nat → Int32) (sty wset wfor law lent : Int32) (firsts waits names : Nat → Int32) (nc : Nat) (codes ends stk : Nat → Int32) (P C : Nat) (hP : P ≤ 5) (hC : C ≤ 6) (e : Nat → Nat) (hL : LW nc ends e) (nn m : Int32) (s : ES) (K : WW M_X0_live d Q xz 156 [(0, .ref 0), (1, .ref 17), (2, .int nn), (3, .int m), (4, .int (nI P))] [] (wEv fr lo fa ki mo (nI P) (nI C) sty wset wfor law lent ((tickTo fr m s P).1) ((tickTo fr m s P).2.1) ((tickTo fr m s P).2.2.1) ((tickTo fr m s P).2.2.2.1) ((tickTo fr m s P).2.2.2.2.1) firsts waits ((tickTo fr m s P).2.2.2.2.2.1) ((tickTo fr m s P).2.2.2.2.2.2.1) names ((tickTo fr m s P).2.2.2.2.2.2.2.1) ((tickTo fr m s P).2.2.2.2.2.2.2.2) nc codes ends stk)) :
    ∀ (n i : Nat) (t : ES), i ≤ P → P + 1 ≤ i + n → t = tickTo fr m s i → WW M_X0_live d Q xz 93 [(0, .ref 0), (1, .ref 17), (2, .int nn), (3, .int m), (4, .int (nI i))] [] (wEv fr lo fa ki mo (nI P) (nI C) sty wset wfor law lent t.1 t.2.1 t.2.2.1 t.2.2.2.1 t.2.2.2.2.1 firsts waits t.2.2.2.2.2.1 t.2.2.2.2.2.2.1 names t.2.2.2.2.2.2.2.1 t.2.2.2.2.2.2.2.2 nc codes ends stk) := by
  intro n
  induction n with
  | zero => intro i; intros; omega
  | succ n ih =>
    intro i t hi hn ht
    refine ww_run 48 4 (pc' := 102) (lv' := [(0, .ref 0), (1, .ref 17), (2, .int nn), (3, .int m), (4, .int (nI i))]) (st' := [.int (nI P), .int (nI i)]) (w' := wEv fr lo fa ki mo (nI P) (nI C) sty wset wfor law lent t.1 t.2.1 t.2.2.1 t.2.2.2.1 t.2.2.2.2.1 firsts waits t.2.2.2.2.2.1 t.2.2.2.2.2.2.1 names t.2.2.2.2.2.2.2.1 t.2.2.2.2.2.2.2.2 nc codes ends stk) (Ps := []) rfl trivial ?_
    refine ww_icmp_ge 52 rfl (tgt := 156) rfl (fun c1 => ?_) (fun c1 => ?_)
    · have c1 : P ≤ i := (nI_leI (a := P) (b := i) (by omega) (by omega)).mp c1
      obtain rfl : i = P := by omega
      subst ht
      exact K
    · have c1 : ¬ P ≤ i := fun q => c1 ((nI_leI (a := P) (b := i) (by omega) (by omega)).mpr q)
      refine ww_run 53 4 (pc' := 112) (lv' := [(0, .ref 0), (1, .ref 17), (2, .int nn), (3, .int m), (4, .int (nI i))]) (st' := [.int (t.1 (nI i).toNatClampNeg)]) (w' := wEv fr lo fa ki mo (nI P) (nI C) sty wset wfor law lent t.1 t.2.1 t.2.2.1 t.2.2.2.1 t.2.2.2.2.1 firsts waits t.2.2.2.2.2.1 t.2.2.2.2.2.2.1 names t.2.2.2.2.2.2.2.1 t.2.2.2.2.2.2.2.2 nc codes ends stk) (Ps := [vp_in (nI i) 5]) rfl ⟨(vp_in_nI (by omega) (by omega)), trivial⟩ ?_
      rw [nI_clamp (n := i) (by omega)]
      refine ww_if_lt 57 rfl (tgt := 129) rfl (fun c2 => ?_) (fun c2 => ?_)
      · refine ww_run 67 3 (pc' := 133) (lv' := [(0, .ref 0), (1, .ref 17), (2, .int nn), (3, .int m), (4, .int (nI i))]) (st' := [.int m, .int (nI i), .ref 0]) (w' := wEv fr lo fa ki mo (nI P) (nI C) sty wset wfor law lent t.1 t.2.1 t.2.2.1 t.2.2.2.1 t.2.2.2.2.1 firsts waits t.2.2.2.2.2.1 t.2.2.2.2.2.2.1 names t.2.2.2.2.2.2.2.1 t.2.2.2.2.2.2.2.2 nc codes ends stk) (Ps := []) rfl trivial ?_
        refine ww_cVi 70 ok_X0_wants (c_X0_wants fr lo fa ki mo (nI P) (nI C) sty wset wfor law lent t.1 t.2.1 t.2.2.1 t.2.2.2.1 t.2.2.2.2.1 firsts waits t.2.2.2.2.2.1 t.2.2.2.2.2.2.1 names t.2.2.2.2.2.2.2.1 t.2.2.2.2.2.2.2.2 nc codes ends stk i m (by omega)) lk_X0_86 rfl (by omega) (rest := []) rfl (Nat.le_of_ble_eq_true rfl) rfl rfl rfl rfl ?_
        refine ww_if_eq 71 rfl (tgt := 150) rfl (fun c3 => ?_) (fun c3 => ?_)
        · rw [b2i_eq0] at c3
          refine ww_run 80 2 (pc' := 93) (lv' := [(4, .int ((nI i) + 1)), (0, .ref 0), (1, .ref 17), (2, .int nn), (3, .int m)]) (st' := []) (w' := wEv fr lo fa ki mo (nI P) (nI C) sty wset wfor law lent t.1 t.2.1 t.2.2.1 t.2.2.2.1 t.2.2.2.2.1 firsts waits t.2.2.2.2.2.1 t.2.2.2.2.2.2.1 names t.2.2.2.2.2.2.2.1 t.2.2.2.2.2.2.2.2 nc codes ends stk) (Ps := []) rfl trivial ?_
          rw [nI_1 i]
          refine ww_lv [1, 2, 3, 4, 0] (lv' := [(0, .ref 0), (1, .ref 17), (2, .int nn), (3, .int m), (4, .int (nI (i + 1)))]) rfl ?_
          refine ih (i + 1) t (by omega) (by omega) ?_
          simp only [tickTo]
          rw [← ht, if_neg (Int32.not_le.mpr c2), if_neg c3]
        · rw [b2i_ne0] at c3
          refine ww_run 72 10 (pc' := 93) (lv' := [(4, .int ((nI i) + 1)), (0, .ref 0), (1, .ref 17), (2, .int nn), (3, .int m)]) (st' := []) (w' := wEv fr lo fa ki mo (nI P) (nI C) sty wset wfor law lent t.1 t.2.1 t.2.2.1 (upd t.2.2.2.1 ((nI i).toNatClampNeg) ((t.2.2.2.1 (nI i).toNatClampNeg) + 1)) t.2.2.2.2.1 firsts waits t.2.2.2.2.2.1 t.2.2.2.2.2.2.1 names t.2.2.2.2.2.2.2.1 t.2.2.2.2.2.2.2.2 nc codes ends stk) (Ps := [vp_in (nI i) 5, vp_in (nI i) 5]) rfl ⟨(vp_in_nI (by omega) (by omega)), (vp_in_nI (by omega) (by omega)), trivial⟩ ?_
          rw [nI_clamp (n := i) (by omega)]
          rw [nI_1 i]
          refine ww_lv [1, 2, 3, 4, 0] (lv' := [(0, .ref 0), (1, .ref 17), (2, .int nn), (3, .int m), (4, .int (nI (i + 1)))]) rfl ?_
          refine ih (i + 1) (t.1, t.2.1, t.2.2.1, upd t.2.2.2.1 i (t.2.2.2.1 i + 1), t.2.2.2.2) (by omega) (by omega) ?_
          simp only [tickTo]
          rw [← ht, if_neg (Int32.not_le.mpr c2), if_pos c3]
      · refine ww_run 58 9 (pc' := 150) (lv' := [(0, .ref 0), (1, .ref 17), (2, .int nn), (3, .int m), (4, .int (nI i))]) (st' := []) (w' := wEv fr lo fa ki mo (nI P) (nI C) sty wset wfor law lent t.1 t.2.1 (upd t.2.2.1 ((nI i).toNatClampNeg) ((t.2.2.1 (nI i).toNatClampNeg) + 1)) t.2.2.2.1 t.2.2.2.2.1 firsts waits t.2.2.2.2.2.1 t.2.2.2.2.2.2.1 names t.2.2.2.2.2.2.2.1 t.2.2.2.2.2.2.2.2 nc codes ends stk) (Ps := [vp_in (nI i) 5, vp_in (nI i) 5]) rfl ⟨(vp_in_nI (by omega) (by omega)), (vp_in_nI (by omega) (by omega)), trivial⟩ ?_
        rw [nI_clamp (n := i) (by omega)]
        refine ww_run 80 2 (pc' := 93) (lv' := [(4, .int ((nI i) + 1)), (0, .ref 0), (1, .ref 17), (2, .int nn), (3, .int m)]) (st' := []) (w' := wEv fr lo fa ki mo (nI P) (nI C) sty wset wfor law lent t.1 t.2.1 (upd t.2.2.1 (i) ((t.2.2.1 i) + 1)) t.2.2.2.1 t.2.2.2.2.1 firsts waits t.2.2.2.2.2.1 t.2.2.2.2.2.2.1 names t.2.2.2.2.2.2.2.1 t.2.2.2.2.2.2.2.2 nc codes ends stk) (Ps := []) rfl trivial ?_
        rw [nI_1 i]
        refine ww_lv [1, 2, 3, 4, 0] (lv' := [(0, .ref 0), (1, .ref 17), (2, .int nn), (3, .int m), (4, .int (nI (i + 1)))]) rfl ?_
        refine ih (i + 1) (t.1, t.2.1, upd t.2.2.1 i (t.2.2.1 i + 1), t.2.2.2) (by omega) (by omega) ?_
        simp only [tickTo]
        rw [← ht, if_pos (Int32.not_lt.mp c2)]
