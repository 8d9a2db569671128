/-- the three parts of a text: from part k on, n of them -/
def ptR (B : Nat → Int32) (N : Nat) : Nat → Nat → (Nat → Int32) → TS → Bool × (Nat → Int32) × TS
  | 0, _, E, s => (decide (s.tk = -1), E, s)
  | n + 1, k, E, s =>
    if (psS B N ((-10) - nI k) s).1 = true then
      if ((rdL B N 5).2.2 (psS B N ((-10) - nI k) s).2).1 = true then
        if (psS B N (-5) ((rdL B N 5).2.2 (psS B N ((-10) - nI k) s).2).2).1 = true then
          ptR B N n (k + 1) (upd E k (nI ((rdL B N 5).2.2 (psS B N ((-10) - nI k) s).2).2.cn)) (psS B N (-5) ((rdL B N 5).2.2 (psS B N ((-10) - nI k) s).2).2).2
        else (false, upd E k (nI ((rdL B N 5).2.2 (psS B N ((-10) - nI k) s).2).2.cn), (psS B N (-5) ((rdL B N 5).2.2 (psS B N ((-10) - nI k) s).2).2).2)
      else (false, E, ((rdL B N 5).2.2 (psS B N ((-10) - nI k) s).2).2)
    else (false, E, (psS B N ((-10) - nI k) s).2)
def txS (a : Nat) (t : Int32) (c : Nat → Int32) : TS := ⟨0, a, t, 0, c⟩
def isT (B : Nat → Int32) (N a : Nat) (t : Int32) (E c : Nat → Int32) : Bool × (Nat → Int32) × TS := ptR B N 3 0 E (lkS B N (txS a t c))
set_option maxHeartbeats 4000000 in
set_option maxRecDepth 100000 in
theorem ly_text_16 {Q : Option Value → List va_E → Prop} {d : Nat} (hd : 44 ≤ d) (bytes : Nat → Int32) {N : Nat} (hN : N ≤ 160) (hx : Ct N bytes M_X5_isEither 43 0 (rdL bytes N 5).2.2) (hpr : PrT N (rdL bytes N 5).2.2) (V : Bool × (Nat → Int32) × TS)  (KK : Q (some (.int (b2i (V.1 = true)))) (wTs bytes V.2.1 N V.2.2)) :
    ∀ (n i : Nat) (E : Nat → Int32) (s : TS), i ≤ 3 → 3 + 1 ≤ i + n → tsK N s → ptR bytes N (3 - i) i E s = V → WW M_X5_isText d Q xz 16 [(0, .ref 0), (1, .int (nI i))] [] (wTp bytes s.cd E (nI N) (nI s.ta) (nI s.cn) (nI s.pl) s.tk) := by
  intro n
  induction n with
  | zero => intro i; intros; omega
  | succ n ih =>
    intro i E s hi hn ok_s hv
    refine ww_run 10 2 (pc' := 18) (lv' := [(0, .ref 0), (1, .int (nI i))]) (st' := [.int 2, .int (nI i)]) (w' := wTp bytes s.cd E (nI N) (nI s.ta) (nI s.cn) (nI s.pl) s.tk) (Ps := []) rfl trivial ?_
    refine ww_icmp_gt 12 rfl (tgt := 69) rfl (fun c1 => ?_) (fun c1 => ?_)
    · have c1 : 2 < i := (nI_ltI (a := 2) (b := i) (by omega) (by omega)).mp c1
      refine ww_run 39 3 (pc' := 74) (lv' := [(0, .ref 0), (1, .int (nI i))]) (st' := [.int (-1), .int s.tk]) (w' := wTp bytes s.cd E (nI N) (nI s.ta) (nI s.cn) (nI s.pl) s.tk) (Ps := []) rfl trivial ?_
      refine ww_icmp_ne 42 rfl (tgt := 81) rfl (fun c2 => ?_) (fun c2 => ?_)
      · refine ww_run 45 1 (pc' := 82) (lv' := [(0, .ref 0), (1, .int (nI i))]) (st' := [.int 0]) (w' := wTp bytes s.cd E (nI N) (nI s.ta) (nI s.cn) (nI s.pl) s.tk) (Ps := []) rfl trivial ?_
        refine ww_zret 46 rfl rfl rfl ?_
        rw [show 3 - i = 0 by omega] at hv
        simp only [ptR] at hv
        subst hv
        have hd : b2i ((decide (s.tk = -1), E, s).1 = true) = 0 := b2i_f (by show ¬ (decide (s.tk = -1) = true); rw [decide_eq_true_eq]; exact c2)
        rw [hd] at KK
        exact KK
      · refine ww_run 43 2 (pc' := 82) (lv' := [(0, .ref 0), (1, .int (nI i))]) (st' := [.int 1]) (w' := wTp bytes s.cd E (nI N) (nI s.ta) (nI s.cn) (nI s.pl) s.tk) (Ps := []) rfl trivial ?_
        refine ww_zret 46 rfl rfl rfl ?_
        rw [show 3 - i = 0 by omega] at hv
        simp only [ptR] at hv
        subst hv
        have hd : b2i ((decide (s.tk = -1), E, s).1 = true) = 1 := b2i_t (by show (decide (s.tk = -1) = true); rw [decide_eq_true_eq]; exact c2)
        rw [hd] at KK
        exact KK
    · have c1 : ¬ 2 < i := fun q => c1 ((nI_ltI (a := 2) (b := i) (by omega) (by omega)).mpr q)
      refine ww_run 13 4 (pc' := 26) (lv' := [(0, .ref 0), (1, .int (nI i))]) (st' := [.int ((-10) - (nI i)), .ref 0]) (w' := wTp bytes s.cd E (nI N) (nI s.ta) (nI s.cn) (nI s.pl) s.tk) (Ps := []) rfl trivial ?_
      refine ww_cVi 17 ok_X5_passes (x_passes bytes E N hN s ok_s ((-10) - (nI i))) lk_X5_40 rfl (by omega) (rest := []) rfl (Nat.le_of_ble_eq_true rfl) rfl rfl rfl rfl ?_
      have ok_r1 : tsK N (psS bytes N ((-10) - (nI i)) s).2 := pr_ps ((-10) - (nI i)) s ok_s
      generalize h_r1 : psS bytes N ((-10) - (nI i)) s = r1 at ok_r1 ⊢
      refine ww_if_eq 18 rfl (tgt := 40) rfl (fun c3 => ?_) (fun c3 => ?_)
      · rw [b2i_eq0] at c3
        refine ww_run 23 1 (pc' := 41) (lv' := [(0, .ref 0), (1, .int (nI i))]) (st' := [.int 0]) (w' := wTp bytes r1.2.cd E (nI N) (nI r1.2.ta) (nI r1.2.cn) (nI r1.2.pl) r1.2.tk) (Ps := []) rfl trivial ?_
        refine ww_zret 24 rfl rfl rfl ?_
        rw [show 3 - i = (3 - (i + 1)) + 1 by omega] at hv
        simp only [ptR] at hv
        rw [h_r1, if_neg c3] at hv
        subst hv
        exact KK
      · rw [b2i_ne0] at c3
        refine ww_run 19 2 (pc' := 34) (lv' := [(0, .ref 0), (1, .int (nI i))]) (st' := [.int 0, .ref 0]) (w' := wTp bytes r1.2.cd E (nI N) (nI r1.2.ta) (nI r1.2.cn) (nI r1.2.pl) r1.2.tk) (Ps := []) rfl trivial ?_
        refine ww_cVi 21 ok_X5_isEither (hx E r1.2 ok_r1) lk_X5_44 rfl (by omega) (rest := []) rfl (Nat.le_of_ble_eq_true rfl) rfl rfl rfl rfl ?_
        have ok_r2 : tsK N ((rdL bytes N 5).2.2 r1.2).2 := hpr r1.2 ok_r1
        generalize h_r2 : (rdL bytes N 5).2.2 r1.2 = r2 at ok_r2 ⊢
        refine ww_if_ne 22 rfl (tgt := 42) rfl (fun c4 => ?_) (fun c4 => ?_)
        · rw [b2i_ne0] at c4
          refine ww_run 25 8 (pc' := 55) (lv' := [(0, .ref 0), (1, .int (nI i))]) (st' := [.int (-5), .ref 0]) (w' := wTp bytes r2.2.cd (upd E ((nI i).toNatClampNeg) (nI r2.2.cn)) (nI N) (nI r2.2.ta) (nI r2.2.cn) (nI r2.2.pl) r2.2.tk) (Ps := [vp_in (nI i) 3]) rfl ⟨(vp_in_nI (by omega) (by omega)), trivial⟩ ?_
          rw [nI_clamp (n := i) (by omega)]
          refine ww_cVi 33 ok_X5_passes (x_passes bytes (upd E (i) (nI r2.2.cn)) N hN r2.2 ok_r2 (-5)) lk_X5_40 rfl (by omega) (rest := []) rfl (Nat.le_of_ble_eq_true rfl) rfl rfl rfl rfl ?_
          have ok_r3 : tsK N (psS bytes N (-5) r2.2).2 := pr_ps (-5) r2.2 ok_r2
          generalize h_r3 : psS bytes N (-5) r2.2 = r3 at ok_r3 ⊢
          refine ww_if_ne 34 rfl (tgt := 63) rfl (fun c5 => ?_) (fun c5 => ?_)
          · rw [b2i_ne0] at c5
            refine ww_run 37 2 (pc' := 16) (lv' := [(1, .int ((nI i) + 1)), (0, .ref 0)]) (st' := []) (w' := wTp bytes r3.2.cd (upd E (i) (nI r2.2.cn)) (nI N) (nI r3.2.ta) (nI r3.2.cn) (nI r3.2.pl) r3.2.tk) (Ps := []) rfl trivial ?_
            rw [nI_1 i]
            refine ww_lv [1, 0] (lv' := [(0, .ref 0), (1, .int (nI (i + 1)))]) rfl ?_
            refine ih (i + 1) _ r3.2 (by omega) (by omega) ok_r3 ?_
            rw [show 3 - i = (3 - (i + 1)) + 1 by omega] at hv
            simp only [ptR] at hv
            rw [h_r1, if_pos c3, h_r2, if_pos c4, h_r3, if_pos c5] at hv
            exact hv
          · rw [b2i_eq0] at c5
            refine ww_run 35 1 (pc' := 62) (lv' := [(0, .ref 0), (1, .int (nI i))]) (st' := [.int 0]) (w' := wTp bytes r3.2.cd (upd E (i) (nI r2.2.cn)) (nI N) (nI r3.2.ta) (nI r3.2.cn) (nI r3.2.pl) r3.2.tk) (Ps := []) rfl trivial ?_
            refine ww_zret 36 rfl rfl rfl ?_
            rw [show 3 - i = (3 - (i + 1)) + 1 by omega] at hv
            simp only [ptR] at hv
            rw [h_r1, if_pos c3, h_r2, if_pos c4, h_r3, if_neg c5] at hv
            subst hv
            exact KK
        · rw [b2i_eq0] at c4
          refine ww_run 23 1 (pc' := 41) (lv' := [(0, .ref 0), (1, .int (nI i))]) (st' := [.int 0]) (w' := wTp bytes r2.2.cd E (nI N) (nI r2.2.ta) (nI r2.2.cn) (nI r2.2.pl) r2.2.tk) (Ps := []) rfl trivial ?_
          refine ww_zret 24 rfl rfl rfl ?_
          rw [show 3 - i = (3 - (i + 1)) + 1 by omega] at hv
          simp only [ptR] at hv
          rw [h_r1, if_pos c3, h_r2, if_neg c4] at hv
          subst hv
          exact KK
set_option maxHeartbeats 4000000 in
set_option maxRecDepth 100000 in
theorem x_isText (bytes tcodes tends : Nat → Int32) (tcn tpl tok : Int32) (N a : Nat) (hN : N ≤ 160) : Co M_X5_isText 44 0 0 [.ref 0] (wTp bytes tcodes tends (nI N) (nI a) tcn tpl tok) (Qi (b2i ((isT bytes N a tok tends tcodes).1 = true)) (wTs bytes (isT bytes N a tok tends tcodes).2.1 N (isT bytes N a tok tends tcodes).2.2)) := by
  have ok_s : tsK N (txS a tok tcodes) := ⟨Nat.zero_le _, Nat.zero_le _⟩
  have hr := x_rd hN (bytes := bytes) 5 0 rfl
  refine Co.of ok_X5_isText rfl ?_
  refine ww_run 0 7 (pc' := 11) (lv' := [(0, .ref 0)]) (st' := [.ref 0]) (w' := wTp bytes tcodes tends (nI N) (nI a) 0 0 tok) (Ps := []) rfl trivial ?_
  refine ww_cVv 7 ok_X5_look (x_lookS bytes tends N (txS a tok tcodes) hN ok_s) lk_X5_37 rfl (by omega) (rest := []) rfl (Nat.le_of_ble_eq_true rfl) rfl rfl rfl rfl ?_
  have ok_s1 : tsK N (lkS bytes N (txS a tok tcodes)) := ok_lk ok_s
  refine ww_run 8 2 (pc' := 16) (lv' := [(1, .int 0), (0, .ref 0)]) (st' := []) (w' := wTp bytes ((lkS bytes N (txS a tok tcodes)).cd) tends (nI N) (nI (lkS bytes N (txS a tok tcodes)).ta) (nI (lkS bytes N (txS a tok tcodes)).cn) (nI (lkS bytes N (txS a tok tcodes)).pl) ((lkS bytes N (txS a tok tcodes)).tk)) (Ps := []) rfl trivial ?_
  refine ww_lv [1, 0] (lv' := [(0, .ref 0), (1, .int 0)]) rfl ?_
  generalize hv : isT bytes N a tok tends tcodes = V
  exact ly_text_16 (by omega) bytes hN hr.1.2.2 hr.2.2.2 V ⟨rfl, rfl⟩ 4 0 tends _ (by omega) (by omega) ok_s1 hv
