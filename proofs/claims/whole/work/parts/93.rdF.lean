set_option maxHeartbeats 8000000 in
set_option maxRecDepth 100000 in
theorem ly_er {Q : Option Value → List va_E → Prop} {d : Nat} (hd : 3 ≤ d) (tp sr wo : Nat → Int32) (J : Nat → Int32) (K : Nat → Nat → Int32) (cd0 : Nat → Int32) (N t : Nat) (hN : N ≤ 160) (ht : t < 6) (hwo : ∀ j, j < 96 → wo j = woT j) (V : YRes) (KF : ∀ (a : Nat) (O' : List Int32) (he : Nat → Int32) (hm op pt tk vl : Int32), V = .inl a → Q (some (.int 0)) (wMr tp (cdB cd0 (200 * t) O') sr wo he (nI N) (nI t) pt (nI a) tk vl hm op (nI O'.length) J K)) (KO : ∀ (O' : List Int32) (p' : Nat) (he : Nat → Int32) (hm op bg tk vl : Int32), V = .inr (O', p') → p' ≤ N → O'.length ≤ p' → Q (some (.int 1)) (wMr tp (cdB cd0 (200 * t) O') sr wo he (nI N) (nI t) (nI p') bg tk vl hm op (nI O'.length) J K)) :
    ∀ (n p : Nat) (H O : List Int32) (he : Nat → Int32) (bg tk vl : Int32) (md : Option Bool) (x y : Int32), p ≤ N → N - p < n → O.length + H.length ≤ p → StkR he H → ((∃ m, md = some m ∧ x = 1 ∧ y = b2i (m = true)) ∨ (md = none ∧ x = 0)) → yt tp N n md H O (lkF tp N p) = V → WW M_X7_eRead d Q xz 14 [(0, .ref 0), (1, .int x), (2, .int y)] [] (wMr tp (cdB cd0 (200 * t) O) sr wo he (nI N) (nI t) (nI p) bg tk vl (nI H.length) (nI (opn H)) (nI O.length) J K) := by
  intro n
  induction n with
  | zero => intros; omega
  | succ n ih =>
    intro p H O he bg tk vl md x y hp hn hb hs hmd hv
    obtain ⟨k1, k2, k3, k4⟩ := lkF_gt (B := tp) hp
    refine ww_run 10 1 (pc' := 15) (lv' := [(0, .ref 0), (1, .int x), (2, .int y)]) (st' := [.ref 0]) (w' := wMr tp (cdB cd0 (200 * t) O) sr wo he (nI N) (nI t) (nI p) bg tk vl (nI H.length) (nI (opn H)) (nI O.length) J K) (Ps := []) rfl trivial ?_
    refine ww_cV 11 ok_X7_next (m_next tp (cdB cd0 (200 * t) O) sr wo he (nI t) bg tk vl (nI H.length) (nI (opn H)) (nI O.length) J K N p hN hp hwo) lk_X7_167 rfl (by omega) (rest := []) rfl (Nat.le_of_ble_eq_true rfl) rfl rfl rfl rfl (fun r w' hq => ?_)
    obtain ⟨rfl, v, hvl, rfl⟩ := hq
    generalize lkF tp N p = k at hvl hv k1 k2 k3 k4 ⊢
    have hv : stY tp N (yt tp N n) md H O k = V := hv
    refine ww_run 12 1 (pc' := 19) (lv' := [(0, .ref 0), (1, .int x), (2, .int y)]) (st' := [.int x]) (w' := wMr tp (cdB cd0 (200 * t) O) sr wo he (nI N) (nI t) (nI k.1) (nI k.2.1) (tkM k.2.2) v (nI H.length) (nI (opn H)) (nI O.length) J K) (Ps := []) rfl trivial ?_
    refine ww_if_eq 13 rfl (tgt := 150) rfl (fun c1 => ?_) (fun c1 => ?_)
    · have hmd := hmd.resolve_left (fun q => by obtain ⟨_, _, q, _⟩ := q; exact absurd (q.symm.trans c1) (by decide))
      obtain ⟨rfl, rfl⟩ := hmd
      refine ww_run 81 3 (pc' := 156) (lv' := [(0, .ref 0), (1, .int 0), (2, .int y)]) (st' := [.int 59, .int (tkM k.2.2)]) (w' := wMr tp (cdB cd0 (200 * t) O) sr wo he (nI N) (nI t) (nI k.1) (nI k.2.1) (tkM k.2.2) v (nI H.length) (nI (opn H)) (nI O.length) J K) (Ps := []) rfl trivial ?_
      refine ww_icmp_ne 84 rfl (tgt := 177) rfl (fun c2 => ?_) (fun c2 => ?_)
      · refine ww_run 95 3 (pc' := 183) (lv' := [(0, .ref 0), (1, .int 0), (2, .int y)]) (st' := [.int 41, .int (tkM k.2.2)]) (w' := wMr tp (cdB cd0 (200 * t) O) sr wo he (nI N) (nI t) (nI k.1) (nI k.2.1) (tkM k.2.2) v (nI H.length) (nI (opn H)) (nI O.length) J K) (Ps := []) rfl trivial ?_
        refine ww_icmp_ne 98 rfl (tgt := 229) rfl (fun c3 => ?_) (fun c3 => ?_)
        · refine ww_run 123 1 (pc' := 230) (lv' := [(0, .ref 0), (1, .int 0), (2, .int y)]) (st' := [.ref 0]) (w' := wMr tp (cdB cd0 (200 * t) O) sr wo he (nI N) (nI t) (nI k.1) (nI k.2.1) (tkM k.2.2) v (nI H.length) (nI (opn H)) (nI O.length) J K) (Ps := []) rfl trivial ?_
          refine ww_cVi 124 ok_X7_signOf (m_signOf tp (cdB cd0 (200 * t) O) sr wo he (nI N) (nI t) (nI k.1) (nI k.2.1) (tkM k.2.2) v (nI H.length) (nI (opn H)) (nI O.length) J K) lk_X7_174 rfl (by omega) (rest := []) rfl (Nat.le_of_ble_eq_true rfl) rfl rfl rfl rfl ?_
          have hn5 : ¬ k.2.2 = -5 := fun q => c2 (by rw [q]; decide)
          have hn4 : ¬ k.2.2 = -4 := fun q => c3 (by rw [q]; decide)
          rw [sg_T]
          rcases hgo : sgR k.2.2 with _ | g
          · skip
            refine ww_run 125 3 (pc' := 236) (lv' := [(3, .int (-1)), (0, .ref 0), (1, .int 0), (2, .int y)]) (st' := [.int (-1), .int (-1)]) (w' := wMr tp (cdB cd0 (200 * t) O) sr wo he (nI N) (nI t) (nI k.1) (nI k.2.1) (tkM k.2.2) v (nI H.length) (nI (opn H)) (nI O.length) J K) (Ps := []) rfl trivial ?_
            refine ww_icmp_eq 128 rfl (tgt := 247) rfl (fun c4 => ?_) (fun c4 => ?_)
            · refine ww_run 133 1 (pc' := 248) (lv' := [(3, .int (-1)), (0, .ref 0), (1, .int 0), (2, .int y)]) (st' := [.int 0]) (w' := wMr tp (cdB cd0 (200 * t) O) sr wo he (nI N) (nI t) (nI k.1) (nI k.2.1) (tkM k.2.2) v (nI H.length) (nI (opn H)) (nI O.length) J K) (Ps := []) rfl trivial ?_
              refine ww_zret 134 rfl rfl rfl ?_
              exact KF k.2.1 O _ _ _ _ _ _ (by rw [← hv, st_nos hn5 hn4 hgo])
            · exact absurd c4 (by decide)
          · obtain ⟨g1, g2, g3, g4, g5⟩ := sg_ne hgo
            refine ww_run 125 3 (pc' := 236) (lv' := [(3, .int g), (0, .ref 0), (1, .int 0), (2, .int y)]) (st' := [.int (-1), .int g]) (w' := wMr tp (cdB cd0 (200 * t) O) sr wo he (nI N) (nI t) (nI k.1) (nI k.2.1) (tkM k.2.2) v (nI H.length) (nI (opn H)) (nI O.length) J K) (Ps := []) rfl trivial ?_
            refine ww_icmp_eq 128 rfl (tgt := 247) rfl (fun c5 => ?_) (fun c5 => ?_)
            · exact absurd c5 g1
            · refine ww_run 129 2 (pc' := 241) (lv' := [(3, .int g), (0, .ref 0), (1, .int 0), (2, .int y)]) (st' := [.int g, .ref 0]) (w' := wMr tp (cdB cd0 (200 * t) O) sr wo he (nI N) (nI t) (nI k.1) (nI k.2.1) (tkM k.2.2) v (nI H.length) (nI (opn H)) (nI O.length) J K) (Ps := []) rfl trivial ?_
              refine ww_cV 131 ok_X7_between (m_between tp sr wo he (nI N) (nI k.1) (nI k.2.1) (tkM k.2.2) v J K cd0 t ht H O (by omega) hs g g2) lk_X7_177 rfl (by omega) (rest := []) rfl (Nat.le_of_ble_eq_true rfl) rfl rfl rfl rfl (fun r w' hq => ?_)
              have hsU := stk_unw (l := levR g) H O hs
              have hlU := len_unw (l := levR g) H O
              generalize hU : unw (levR g) H O = U at hq hsU hlU
              rcases hq with ⟨ho, rfl, rfl⟩ | ⟨ho, rfl, rfl⟩
              · skip
                refine ww_if_ne 132 rfl (tgt := 249) rfl (fun c6 => ?_) (fun c6 => ?_)
                · exact absurd c6 (by decide)
                · refine ww_run 133 1 (pc' := 248) (lv' := [(3, .int g), (0, .ref 0), (1, .int 0), (2, .int y)]) (st' := [.int 0]) (w' := wMr tp (cdB cd0 (200 * t) U.2) sr wo he (nI N) (nI t) (nI k.1) (nI k.2.1) (tkM k.2.2) v (nI U.1.length) (nI (opn U.1)) (nI U.2.length) J K) (Ps := []) rfl trivial ?_
                  refine ww_zret 134 rfl rfl rfl ?_
                  exact KF k.2.1 U.2 _ _ _ _ _ _ (by rw [← hv, st_sign hn5 hn4 hgo, hU, if_pos ho])
              · rw [← opn_c (g := g) U.1 (fun q => q.elim g3 (fun q => q.elim g4 g5))]
                refine ww_if_ne 132 rfl (tgt := 249) rfl (fun c7 => ?_) (fun c7 => ?_)
                · refine ww_run 135 4 (pc' := 254) (lv' := [(1, .int 1), (3, .int g), (0, .ref 0), (2, .int y)]) (st' := [.int 12, .int g]) (w' := wMr tp (cdB cd0 (200 * t) U.2) sr wo (upd he U.1.length g) (nI N) (nI t) (nI k.1) (nI k.2.1) (tkM k.2.2) v (nI (U.1.length + 1)) (nI (opn (g :: U.1))) (nI U.2.length) J K) (Ps := []) rfl trivial ?_
                  refine ww_icmp_gt 139 rfl (tgt := 261) rfl (fun c8 => ?_) (fun c8 => ?_)
                  · refine ww_run 142 3 (pc' := 14) (lv' := [(2, .int 0), (1, .int 1), (3, .int g), (0, .ref 0)]) (st' := []) (w' := wMr tp (cdB cd0 (200 * t) U.2) sr wo (upd he U.1.length g) (nI N) (nI t) (nI k.1) (nI k.2.1) (tkM k.2.2) v (nI (U.1.length + 1)) (nI (opn (g :: U.1))) (nI U.2.length) J K) (Ps := []) rfl trivial ?_
                    refine ww_lv [3, 1, 0] (lv' := [(0, .ref 0), (1, .int 1), (2, .int 0)]) rfl ?_
                    have hlt : k.2.1 < k.1 := k4.resolve_left (by intro q; rw [q, show sgR (-1) = none by decide] at hgo; cases hgo)
                    exact ih k.1 (g :: U.1) U.2 _ _ _ _ (some (decide (g ≤ 12))) 1 0 k3 (by omega) (by have h9 := hlU.1; show U.2.length + (U.1.length + 1) ≤ k.1; omega) (stk_push hsU) (Or.inl ⟨decide (g ≤ 12), rfl, rfl, (b2i_f (fun q => absurd (of_decide_eq_true q) (Int32.not_le.mpr c8))).symm⟩) (by rw [← hv, st_sign hn5 hn4 hgo, hU, if_neg ho])
                  · refine ww_run 140 2 (pc' := 262) (lv' := [(1, .int 1), (3, .int g), (0, .ref 0), (2, .int y)]) (st' := [.int 1]) (w' := wMr tp (cdB cd0 (200 * t) U.2) sr wo (upd he U.1.length g) (nI N) (nI t) (nI k.1) (nI k.2.1) (tkM k.2.2) v (nI (U.1.length + 1)) (nI (opn (g :: U.1))) (nI U.2.length) J K) (Ps := []) rfl trivial ?_
                    refine ww_run 143 2 (pc' := 14) (lv' := [(2, .int 1), (1, .int 1), (3, .int g), (0, .ref 0)]) (st' := []) (w' := wMr tp (cdB cd0 (200 * t) U.2) sr wo (upd he U.1.length g) (nI N) (nI t) (nI k.1) (nI k.2.1) (tkM k.2.2) v (nI (U.1.length + 1)) (nI (opn (g :: U.1))) (nI U.2.length) J K) (Ps := []) rfl trivial ?_
                    refine ww_lv [3, 1, 0] (lv' := [(0, .ref 0), (1, .int 1), (2, .int 1)]) rfl ?_
                    have hlt : k.2.1 < k.1 := k4.resolve_left (by intro q; rw [q, show sgR (-1) = none by decide] at hgo; cases hgo)
                    exact ih k.1 (g :: U.1) U.2 _ _ _ _ (some (decide (g ≤ 12))) 1 1 k3 (by omega) (by have h9 := hlU.1; show U.2.length + (U.1.length + 1) ≤ k.1; omega) (stk_push hsU) (Or.inl ⟨decide (g ≤ 12), rfl, rfl, (b2i_t (decide_eq_true (Int32.not_lt.mp c8))).symm⟩) (by rw [← hv, st_sign hn5 hn4 hgo, hU, if_neg ho])
                · exact absurd c7 (by decide)
        · have hc := tk_i41 c3
          have hn5 : ¬ k.2.2 = -5 := fun q => c2 (by rw [q]; decide)
          refine ww_run 99 2 (pc' := 188) (lv' := [(0, .ref 0), (1, .int 0), (2, .int y)]) (st' := [.int 1, .ref 0]) (w' := wMr tp (cdB cd0 (200 * t) O) sr wo he (nI N) (nI t) (nI k.1) (nI k.2.1) (tkM k.2.2) v (nI H.length) (nI (opn H)) (nI O.length) J K) (Ps := []) rfl trivial ?_
          refine ww_cVv 101 ok_X7_unwinds (m_unwinds tp sr wo he (nI N) (nI k.1) (nI k.2.1) (tkM k.2.2) v J K cd0 t 1 ht (by decide) (by decide) H O (by omega) hs) lk_X7_164 rfl (by omega) (rest := []) rfl (Nat.le_of_ble_eq_true rfl) rfl rfl rfl rfl ?_
          have hsU := stk_unw (l := 1) H O hs
          have hlU := len_unw (l := 1) H O
          generalize hU : unw 1 H O = U at hsU hlU ⊢
          refine ww_run 102 2 (pc' := 195) (lv' := [(0, .ref 0), (1, .int 0), (2, .int y)]) (st' := [.int (nI U.1.length)]) (w' := wMr tp (cdB cd0 (200 * t) U.2) sr wo he (nI N) (nI t) (nI k.1) (nI k.2.1) (tkM k.2.2) v (nI U.1.length) (nI (opn U.1)) (nI U.2.length) J K) (Ps := []) rfl trivial ?_
          refine ww_if_ne 104 rfl (tgt := 200) rfl (fun c9 => ?_) (fun c9 => ?_)
          · have c9 : ¬ U.1.length = 0 := fun q => c9 ((nI_eq (a := U.1.length) (b := 0) (by omega) (by omega)).mpr q)
            obtain ⟨z1, H1, hU1⟩ : ∃ z H1, U.1 = z :: H1 := by
              cases hq : U.1 with
              | nil => rw [hq] at c9; exact absurd rfl c9
              | cons a b => exact ⟨a, b, rfl⟩
            have hz : z1 = 0 := rk_0 (by have := top_unw (l := 1) H O (by rw [hU]; exact hU1); omega)
            subst hz
            rw [hU1] at hsU hlU ⊢
            have hlU1 : H1.length + 1 + U.2.length = H.length + O.length := hlU.1
            refine ww_run 107 11 (pc' := 217) (lv' := [(0, .ref 0), (1, .int 0), (2, .int y)]) (st' := [.int ((nI (opn (0 :: H1))) - 1), .ref 0]) (w' := wMr tp (cdB cd0 (200 * t) U.2) sr wo he (nI N) (nI t) (nI k.1) (nI k.2.1) (tkM k.2.2) v ((nI (H1.length + 1)) - 1) (nI (opn (0 :: H1))) (nI U.2.length) J K) (Ps := []) rfl trivial ?_
            rw [nI_pred H1.length]
            rw [opn_m0]
            refine ww_run 118 3 (pc' := 223) (lv' := [(0, .ref 0), (1, .int 0), (2, .int y)]) (st' := [.int 7, .ref 0]) (w' := wMr tp (cdB cd0 (200 * t) U.2) sr wo he (nI N) (nI t) (nI k.1) (nI k.2.1) (tkM k.2.2) v (nI H1.length) (nI (opn H1)) (nI U.2.length) J K) (Ps := []) rfl trivial ?_
            refine ww_cVv 121 ok_X7_unwinds (m_unwinds tp sr wo he (nI N) (nI k.1) (nI k.2.1) (tkM k.2.2) v J K cd0 t 7 ht (by decide) (by decide) H1 U.2 (by omega) hsU.2) lk_X7_164 rfl (by omega) (rest := []) rfl (Nat.le_of_ble_eq_true rfl) rfl rfl rfl rfl ?_
            have hsU2 := stk_unw (l := 7) H1 U.2 hsU.2
            have hlU2 := len_unw (l := 7) H1 U.2
            generalize hU2 : unw 7 H1 U.2 = U2 at hsU2 hlU2 ⊢
            refine ww_run 122 1 (pc' := 14) (lv' := [(0, .ref 0), (1, .int 0), (2, .int y)]) (st' := []) (w' := wMr tp (cdB cd0 (200 * t) U2.2) sr wo he (nI N) (nI t) (nI k.1) (nI k.2.1) (tkM k.2.2) v (nI U2.1.length) (nI (opn U2.1)) (nI U2.2.length) J K) (Ps := []) rfl trivial ?_
            have hlt : k.2.1 < k.1 := k4.resolve_left (by rw [hc]; decide)
            exact ih k.1 U2.1 U2.2 _ _ _ _ none 0 y k3 (by omega) (by have h9 := hlU2.1; omega) hsU2 (Or.inr ⟨rfl, rfl⟩) (by rw [← hv, st_close hn5 hc, hU, if_neg (by rw [hU1]; simp), hU1]; show _ = yt tp N n none (unw 7 H1 U.2).1 (unw 7 H1 U.2).2 _; rw [hU2])
          · have c9 : U.1.length = 0 := (nI_eq (a := U.1.length) (b := 0) (by omega) (by omega)).mp c9
            refine ww_run 105 1 (pc' := 199) (lv' := [(0, .ref 0), (1, .int 0), (2, .int y)]) (st' := [.int 0]) (w' := wMr tp (cdB cd0 (200 * t) U.2) sr wo he (nI N) (nI t) (nI k.1) (nI k.2.1) (tkM k.2.2) v (nI U.1.length) (nI (opn U.1)) (nI U.2.length) J K) (Ps := []) rfl trivial ?_
            refine ww_zret 106 rfl rfl rfl ?_
            exact KF k.2.1 U.2 _ _ _ _ _ _ (by rw [← hv, st_close hn5 hc, hU, if_pos (List.eq_nil_of_length_eq_zero c9)])
      · have hc := tk_i59 c2
        refine ww_run 85 2 (pc' := 161) (lv' := [(0, .ref 0), (1, .int 0), (2, .int y)]) (st' := [.int 1, .ref 0]) (w' := wMr tp (cdB cd0 (200 * t) O) sr wo he (nI N) (nI t) (nI k.1) (nI k.2.1) (tkM k.2.2) v (nI H.length) (nI (opn H)) (nI O.length) J K) (Ps := []) rfl trivial ?_
        refine ww_cVv 87 ok_X7_unwinds (m_unwinds tp sr wo he (nI N) (nI k.1) (nI k.2.1) (tkM k.2.2) v J K cd0 t 1 ht (by decide) (by decide) H O (by omega) hs) lk_X7_164 rfl (by omega) (rest := []) rfl (Nat.le_of_ble_eq_true rfl) rfl rfl rfl rfl ?_
        have hsU := stk_unw (l := 1) H O hs
        have hlU := len_unw (l := 1) H O
        generalize hU : unw 1 H O = U at hsU hlU ⊢
        refine ww_run 88 2 (pc' := 168) (lv' := [(0, .ref 0), (1, .int 0), (2, .int y)]) (st' := [.int (nI U.1.length)]) (w' := wMr tp (cdB cd0 (200 * t) U.2) sr wo he (nI N) (nI t) (nI k.1) (nI k.2.1) (tkM k.2.2) v (nI U.1.length) (nI (opn U.1)) (nI U.2.length) J K) (Ps := []) rfl trivial ?_
        refine ww_if_ne 90 rfl (tgt := 175) rfl (fun c10 => ?_) (fun c10 => ?_)
        · have c10 : ¬ U.1.length = 0 := fun q => c10 ((nI_eq (a := U.1.length) (b := 0) (by omega) (by omega)).mpr q)
          refine ww_run 93 1 (pc' := 176) (lv' := [(0, .ref 0), (1, .int 0), (2, .int y)]) (st' := [.int 0]) (w' := wMr tp (cdB cd0 (200 * t) U.2) sr wo he (nI N) (nI t) (nI k.1) (nI k.2.1) (tkM k.2.2) v (nI U.1.length) (nI (opn U.1)) (nI U.2.length) J K) (Ps := []) rfl trivial ?_
          refine ww_zret 94 rfl rfl rfl ?_
          exact KF k.2.1 U.2 _ _ _ _ _ _ (by rw [← hv, st_semi hc, hU, if_neg (fun q => c10 (by rw [q]; rfl))])
        · have c10 : U.1.length = 0 := (nI_eq (a := U.1.length) (b := 0) (by omega) (by omega)).mp c10
          refine ww_run 91 2 (pc' := 176) (lv' := [(0, .ref 0), (1, .int 0), (2, .int y)]) (st' := [.int 1]) (w' := wMr tp (cdB cd0 (200 * t) U.2) sr wo he (nI N) (nI t) (nI k.1) (nI k.2.1) (tkM k.2.2) v (nI U.1.length) (nI (opn U.1)) (nI U.2.length) J K) (Ps := []) rfl trivial ?_
          refine ww_zret 94 rfl rfl rfl ?_
          have hnil : U.1 = [] := List.eq_nil_of_length_eq_zero c10
          exact KO U.2 k.1 _ _ _ _ _ _ (by rw [← hv, st_semi hc, hU, if_pos hnil]) k3 (by have h9 := hlU.1; have h8 : k.2.1 < k.1 := k4.resolve_left (by rw [hc]; decide); omega)
    · have hmd := hmd.resolve_right (fun q => c1 q.2)
      obtain ⟨m, rfl, rfl, rfl⟩ := hmd
      refine ww_run 14 3 (pc' := 27) (lv' := [(0, .ref 0), (1, .int 1), (2, .int (b2i (m = true)))]) (st' := [.int 1, .int (tkM k.2.2)]) (w' := wMr tp (cdB cd0 (200 * t) O) sr wo he (nI N) (nI t) (nI k.1) (nI k.2.1) (tkM k.2.2) v (nI H.length) (nI (opn H)) (nI O.length) J K) (Ps := []) rfl trivial ?_
      refine ww_icmp_eq 17 rfl (tgt := 38) rfl (fun c11 => ?_) (fun c11 => ?_)
      · refine ww_run 22 4 (pc' := 44) (lv' := [(0, .ref 0), (1, .int 1), (2, .int (b2i (m = true)))]) (st' := [.int 1, .int (tkM k.2.2), .ref 0]) (w' := wMr tp (cdB cd0 (200 * t) O) sr wo he (nI N) (nI t) (nI k.1) (nI k.2.1) (tkM k.2.2) v (nI H.length) (nI (opn H)) (nI O.length) J K) (Ps := []) rfl trivial ?_
        refine ww_icmp_ne 26 rfl (tgt := 57) rfl (fun c12 => ?_) (fun c12 => ?_)
        · exact absurd c11 c12
        · refine ww_run 27 5 (pc' := 61) (lv' := [(0, .ref 0), (1, .int 1), (2, .int (b2i (m = true)))]) (st' := [.int (100000 + v), .ref 0]) (w' := wMr tp (cdB cd0 (200 * t) O) sr wo he (nI N) (nI t) (nI k.1) (nI k.2.1) (tkM k.2.2) v (nI H.length) (nI (opn H)) (nI O.length) J K) (Ps := []) rfl trivial ?_
          have hc1 := tk_i1 c12
          have hnum : 0 ≤ k.2.2 ∧ k.2.2 < 10006 := ⟨hc1.1, Int32.lt_trans hc1.2 (by decide)⟩
          have hcd : 100000 + v = cC k.2.2 := by rw [hvl.1 hc1]; unfold cC; rw [if_pos hc1]
          rw [hcd]
          refine ww_cVv 34 ok_X7_puts (m_puts tp (cdB cd0 (200 * t) O) sr wo he (nI N) (nI k.1) (nI k.2.1) (tkM k.2.2) v (nI H.length) (nI (opn H)) J K t O.length (by omega) (by omega) (cC k.2.2)) lk_X7_157 rfl (by omega) (rest := []) rfl (Nat.le_of_ble_eq_true rfl) rfl rfl rfl rfl ?_
          refine ww_run 35 2 (pc' := 67) (lv' := [(0, .ref 0), (1, .int 1), (2, .int (b2i (m = true)))]) (st' := [.int 7, .ref 0]) (w' := wMr tp (cdB cd0 (200 * t) (cC k.2.2 :: O)) sr wo he (nI N) (nI t) (nI k.1) (nI k.2.1) (tkM k.2.2) v (nI H.length) (nI (opn H)) (nI (cC k.2.2 :: O).length) J K) (Ps := []) rfl trivial ?_
          refine ww_cVv 37 ok_X7_unwinds (m_unwinds tp sr wo he (nI N) (nI k.1) (nI k.2.1) (tkM k.2.2) v J K cd0 t 7 ht (by decide) (by decide) H (cC k.2.2 :: O) (by simp only [List.length_cons]; omega) hs) lk_X7_164 rfl (by omega) (rest := []) rfl (Nat.le_of_ble_eq_true rfl) rfl rfl rfl rfl ?_
          have hsU := stk_unw (l := 7) H (cC k.2.2 :: O) hs
          have hlU := len_unw (l := 7) H (cC k.2.2 :: O)
          generalize hU : unw 7 H (cC k.2.2 :: O) = U at hsU hlU ⊢
          refine ww_run 38 3 (pc' := 14) (lv' := [(1, .int 0), (0, .ref 0), (2, .int (b2i (m = true)))]) (st' := []) (w' := wMr tp (cdB cd0 (200 * t) U.2) sr wo he (nI N) (nI t) (nI k.1) (nI k.2.1) (tkM k.2.2) v (nI U.1.length) (nI (opn U.1)) (nI U.2.length) J K) (Ps := []) rfl trivial ?_
          refine ww_lv [1, 0, 2] (lv' := [(0, .ref 0), (1, .int 0), (2, .int (b2i (m = true)))]) rfl ?_
          have hlt : k.2.1 < k.1 := k4.resolve_left (by intro q; rw [q] at hnum; exact absurd hnum.1 (by decide))
          exact ih k.1 U.1 U.2 _ _ _ _ none 0 (b2i (m = true)) k3 (by omega) (by have h9 : U.1.length + U.2.length = H.length + (O.length + 1) := hlU.1; omega) hsU (Or.inr ⟨rfl, rfl⟩) (by rw [← hv, st_num hnum, hU])
      · refine ww_run 18 3 (pc' := 35) (lv' := [(0, .ref 0), (1, .int 1), (2, .int (b2i (m = true)))]) (st' := [.int 2, .int (tkM k.2.2)]) (w' := wMr tp (cdB cd0 (200 * t) O) sr wo he (nI N) (nI t) (nI k.1) (nI k.2.1) (tkM k.2.2) v (nI H.length) (nI (opn H)) (nI O.length) J K) (Ps := []) rfl trivial ?_
        refine ww_icmp_ne 21 rfl (tgt := 75) rfl (fun c13 => ?_) (fun c13 => ?_)
        · have hnn : ¬ (0 ≤ k.2.2 ∧ k.2.2 < 10006) := fun q => (tk_num q).elim c11 c13
          refine ww_run 41 3 (pc' := 81) (lv' := [(0, .ref 0), (1, .int 1), (2, .int (b2i (m = true)))]) (st' := [.int 6, .int (tkM k.2.2)]) (w' := wMr tp (cdB cd0 (200 * t) O) sr wo he (nI N) (nI t) (nI k.1) (nI k.2.1) (tkM k.2.2) v (nI H.length) (nI (opn H)) (nI O.length) J K) (Ps := []) rfl trivial ?_
          refine ww_icmp_ne 44 rfl (tgt := 99) rfl (fun c14 => ?_) (fun c14 => ?_)
          · refine ww_run 53 3 (pc' := 105) (lv' := [(0, .ref 0), (1, .int 1), (2, .int (b2i (m = true)))]) (st' := [.int 45, .int (tkM k.2.2)]) (w' := wMr tp (cdB cd0 (200 * t) O) sr wo he (nI N) (nI t) (nI k.1) (nI k.2.1) (tkM k.2.2) v (nI H.length) (nI (opn H)) (nI O.length) J K) (Ps := []) rfl trivial ?_
            refine ww_icmp_ne 56 rfl (tgt := 124) rfl (fun c15 => ?_) (fun c15 => ?_)
            · have hno : ¬ (k.2.2 = 10013 ∧ m = true) := (fun q => c14 (by rw [q.1]; decide))
              have hn45 : ¬ k.2.2 = 10011 := fun q => c15 (by rw [q]; decide)
              refine ww_run 66 3 (pc' := 130) (lv' := [(0, .ref 0), (1, .int 1), (2, .int (b2i (m = true)))]) (st' := [.int 40, .int (tkM k.2.2)]) (w' := wMr tp (cdB cd0 (200 * t) O) sr wo he (nI N) (nI t) (nI k.1) (nI k.2.1) (tkM k.2.2) v (nI H.length) (nI (opn H)) (nI O.length) J K) (Ps := []) rfl trivial ?_
              refine ww_icmp_ne 69 rfl (tgt := 148) rfl (fun c16 => ?_) (fun c16 => ?_)
              · have hn40 : ¬ k.2.2 = -3 := fun q => c16 (by rw [q]; decide)
                refine ww_run 79 1 (pc' := 149) (lv' := [(0, .ref 0), (1, .int 1), (2, .int (b2i (m = true)))]) (st' := [.int 0]) (w' := wMr tp (cdB cd0 (200 * t) O) sr wo he (nI N) (nI t) (nI k.1) (nI k.2.1) (tkM k.2.2) v (nI H.length) (nI (opn H)) (nI O.length) J K) (Ps := []) rfl trivial ?_
                refine ww_zret 80 rfl rfl rfl ?_
                exact KF k.2.1 O _ _ _ _ _ _ (by rw [← hv, st_un hnn, if_neg hno, if_neg hn45, if_neg hn40])
              · have hc := tk_i40 c16
                refine ww_run 70 2 (pc' := 135) (lv' := [(0, .ref 0), (1, .int 1), (2, .int (b2i (m = true)))]) (st' := [.int 0, .ref 0]) (w' := wMr tp (cdB cd0 (200 * t) O) sr wo he (nI N) (nI t) (nI k.1) (nI k.2.1) (tkM k.2.2) v (nI H.length) (nI (opn H)) (nI O.length) J K) (Ps := []) rfl trivial ?_
                refine ww_cV 72 ok_X7_opensOne (m_opensOne tp (cdB cd0 (200 * t) O) sr wo he (nI N) (nI t) (nI k.1) (nI k.2.1) (tkM k.2.2) v (nI O.length) J K H.length (opn H) (by omega) (by have := opn_le H; omega) 0) lk_X7_171 rfl (by omega) (rest := []) rfl (Nat.le_of_ble_eq_true rfl) rfl rfl rfl rfl (fun r w' hq => ?_)
                rcases hq with ⟨ho, rfl, rfl⟩ | ⟨ho, rfl, rfl⟩
                · skip
                  refine ww_if_ne 73 rfl (tgt := 143) rfl (fun c17 => ?_) (fun c17 => ?_)
                  · exact absurd c17 (by decide)
                  · refine ww_run 74 1 (pc' := 142) (lv' := [(0, .ref 0), (1, .int 1), (2, .int (b2i (m = true)))]) (st' := [.int 0]) (w' := wMr tp (cdB cd0 (200 * t) O) sr wo he (nI N) (nI t) (nI k.1) (nI k.2.1) (tkM k.2.2) v (nI H.length) (nI (opn H)) (nI O.length) J K) (Ps := []) rfl trivial ?_
                    refine ww_zret 75 rfl rfl rfl ?_
                    exact KF k.2.1 O _ _ _ _ _ _ (by rw [← hv, st_un hnn, if_neg hno, if_neg hn45, if_pos hc, if_pos ho])
                · rw [← opn_o (g := 0) H (by decide)]
                  refine ww_if_ne 73 rfl (tgt := 143) rfl (fun c18 => ?_) (fun c18 => ?_)
                  · refine ww_run 76 3 (pc' := 14) (lv' := [(2, .int 1), (0, .ref 0), (1, .int 1)]) (st' := []) (w' := wMr tp (cdB cd0 (200 * t) O) sr wo (upd he H.length 0) (nI N) (nI t) (nI k.1) (nI k.2.1) (tkM k.2.2) v (nI (H.length + 1)) (nI (opn (0 :: H))) (nI O.length) J K) (Ps := []) rfl trivial ?_
                    refine ww_lv [1, 2, 0] (lv' := [(0, .ref 0), (1, .int 1), (2, .int 1)]) rfl ?_
                    have hlt : k.2.1 < k.1 := k4.resolve_left (by rw [hc]; decide)
                    exact ih k.1 (0 :: H) O _ _ _ _ (some true) 1 1 k3 (by omega) (by show O.length + (H.length + 1) ≤ k.1; omega) (stk_push hs) (Or.inl ⟨true, rfl, rfl, by decide⟩) (by rw [← hv, st_un hnn, if_neg hno, if_neg hn45, if_pos hc, if_neg ho])
                  · exact absurd c18 (by decide)
            · have hno : ¬ (k.2.2 = 10013 ∧ m = true) := (fun q => c14 (by rw [q.1]; decide))
              have hc := tk_i45 c15
              refine ww_run 57 2 (pc' := 111) (lv' := [(0, .ref 0), (1, .int 1), (2, .int (b2i (m = true)))]) (st' := [.int 19, .ref 0]) (w' := wMr tp (cdB cd0 (200 * t) O) sr wo he (nI N) (nI t) (nI k.1) (nI k.2.1) (tkM k.2.2) v (nI H.length) (nI (opn H)) (nI O.length) J K) (Ps := []) rfl trivial ?_
              refine ww_cV 59 ok_X7_opensOne (m_opensOne tp (cdB cd0 (200 * t) O) sr wo he (nI N) (nI t) (nI k.1) (nI k.2.1) (tkM k.2.2) v (nI O.length) J K H.length (opn H) (by omega) (by have := opn_le H; omega) 19) lk_X7_171 rfl (by omega) (rest := []) rfl (Nat.le_of_ble_eq_true rfl) rfl rfl rfl rfl (fun r w' hq => ?_)
              rcases hq with ⟨ho, rfl, rfl⟩ | ⟨ho, rfl, rfl⟩
              · skip
                refine ww_if_ne 60 rfl (tgt := 119) rfl (fun c19 => ?_) (fun c19 => ?_)
                · exact absurd c19 (by decide)
                · refine ww_run 61 1 (pc' := 118) (lv' := [(0, .ref 0), (1, .int 1), (2, .int (b2i (m = true)))]) (st' := [.int 0]) (w' := wMr tp (cdB cd0 (200 * t) O) sr wo he (nI N) (nI t) (nI k.1) (nI k.2.1) (tkM k.2.2) v (nI H.length) (nI (opn H)) (nI O.length) J K) (Ps := []) rfl trivial ?_
                  refine ww_zret 62 rfl rfl rfl ?_
                  exact KF k.2.1 O _ _ _ _ _ _ (by rw [← hv, st_un hnn, if_neg hno, if_pos hc, if_pos ho])
              · rw [← opn_o (g := 19) H (by decide)]
                refine ww_if_ne 60 rfl (tgt := 119) rfl (fun c20 => ?_) (fun c20 => ?_)
                · refine ww_run 63 3 (pc' := 14) (lv' := [(2, .int 0), (0, .ref 0), (1, .int 1)]) (st' := []) (w' := wMr tp (cdB cd0 (200 * t) O) sr wo (upd he H.length 19) (nI N) (nI t) (nI k.1) (nI k.2.1) (tkM k.2.2) v (nI (H.length + 1)) (nI (opn (19 :: H))) (nI O.length) J K) (Ps := []) rfl trivial ?_
                  refine ww_lv [1, 2, 0] (lv' := [(0, .ref 0), (1, .int 1), (2, .int 0)]) rfl ?_
                  have hlt : k.2.1 < k.1 := k4.resolve_left (by rw [hc]; decide)
                  exact ih k.1 (19 :: H) O _ _ _ _ (some false) 1 0 k3 (by omega) (by show O.length + (H.length + 1) ≤ k.1; omega) (stk_push hs) (Or.inl ⟨false, rfl, rfl, by decide⟩) (by rw [← hv, st_un hnn, if_neg hno, if_pos hc, if_neg ho])
                · exact absurd c20 (by decide)
          · refine ww_run 45 1 (pc' := 85) (lv' := [(0, .ref 0), (1, .int 1), (2, .int (b2i (m = true)))]) (st' := [.int (b2i (m = true))]) (w' := wMr tp (cdB cd0 (200 * t) O) sr wo he (nI N) (nI t) (nI k.1) (nI k.2.1) (tkM k.2.2) v (nI H.length) (nI (opn H)) (nI O.length) J K) (Ps := []) rfl trivial ?_
            refine ww_if_eq 46 rfl (tgt := 99) rfl (fun c21 => ?_) (fun c21 => ?_)
            · rw [b2i_eq0] at c21
              refine ww_run 53 3 (pc' := 105) (lv' := [(0, .ref 0), (1, .int 1), (2, .int (b2i (m = true)))]) (st' := [.int 45, .int (tkM k.2.2)]) (w' := wMr tp (cdB cd0 (200 * t) O) sr wo he (nI N) (nI t) (nI k.1) (nI k.2.1) (tkM k.2.2) v (nI H.length) (nI (opn H)) (nI O.length) J K) (Ps := []) rfl trivial ?_
              refine ww_icmp_ne 56 rfl (tgt := 124) rfl (fun c22 => ?_) (fun c22 => ?_)
              · have hno : ¬ (k.2.2 = 10013 ∧ m = true) := (fun q => c21 q.2)
                have hn45 : ¬ k.2.2 = 10011 := fun q => c22 (by rw [q]; decide)
                refine ww_run 66 3 (pc' := 130) (lv' := [(0, .ref 0), (1, .int 1), (2, .int (b2i (m = true)))]) (st' := [.int 40, .int (tkM k.2.2)]) (w' := wMr tp (cdB cd0 (200 * t) O) sr wo he (nI N) (nI t) (nI k.1) (nI k.2.1) (tkM k.2.2) v (nI H.length) (nI (opn H)) (nI O.length) J K) (Ps := []) rfl trivial ?_
                refine ww_icmp_ne 69 rfl (tgt := 148) rfl (fun c23 => ?_) (fun c23 => ?_)
                · have hn40 : ¬ k.2.2 = -3 := fun q => c23 (by rw [q]; decide)
                  refine ww_run 79 1 (pc' := 149) (lv' := [(0, .ref 0), (1, .int 1), (2, .int (b2i (m = true)))]) (st' := [.int 0]) (w' := wMr tp (cdB cd0 (200 * t) O) sr wo he (nI N) (nI t) (nI k.1) (nI k.2.1) (tkM k.2.2) v (nI H.length) (nI (opn H)) (nI O.length) J K) (Ps := []) rfl trivial ?_
                  refine ww_zret 80 rfl rfl rfl ?_
                  exact KF k.2.1 O _ _ _ _ _ _ (by rw [← hv, st_un hnn, if_neg hno, if_neg hn45, if_neg hn40])
                · have hc := tk_i40 c23
                  refine ww_run 70 2 (pc' := 135) (lv' := [(0, .ref 0), (1, .int 1), (2, .int (b2i (m = true)))]) (st' := [.int 0, .ref 0]) (w' := wMr tp (cdB cd0 (200 * t) O) sr wo he (nI N) (nI t) (nI k.1) (nI k.2.1) (tkM k.2.2) v (nI H.length) (nI (opn H)) (nI O.length) J K) (Ps := []) rfl trivial ?_
                  refine ww_cV 72 ok_X7_opensOne (m_opensOne tp (cdB cd0 (200 * t) O) sr wo he (nI N) (nI t) (nI k.1) (nI k.2.1) (tkM k.2.2) v (nI O.length) J K H.length (opn H) (by omega) (by have := opn_le H; omega) 0) lk_X7_171 rfl (by omega) (rest := []) rfl (Nat.le_of_ble_eq_true rfl) rfl rfl rfl rfl (fun r w' hq => ?_)
                  rcases hq with ⟨ho, rfl, rfl⟩ | ⟨ho, rfl, rfl⟩
                  · skip
                    refine ww_if_ne 73 rfl (tgt := 143) rfl (fun c24 => ?_) (fun c24 => ?_)
                    · exact absurd c24 (by decide)
                    · refine ww_run 74 1 (pc' := 142) (lv' := [(0, .ref 0), (1, .int 1), (2, .int (b2i (m = true)))]) (st' := [.int 0]) (w' := wMr tp (cdB cd0 (200 * t) O) sr wo he (nI N) (nI t) (nI k.1) (nI k.2.1) (tkM k.2.2) v (nI H.length) (nI (opn H)) (nI O.length) J K) (Ps := []) rfl trivial ?_
                      refine ww_zret 75 rfl rfl rfl ?_
                      exact KF k.2.1 O _ _ _ _ _ _ (by rw [← hv, st_un hnn, if_neg hno, if_neg hn45, if_pos hc, if_pos ho])
                  · rw [← opn_o (g := 0) H (by decide)]
                    refine ww_if_ne 73 rfl (tgt := 143) rfl (fun c25 => ?_) (fun c25 => ?_)
                    · refine ww_run 76 3 (pc' := 14) (lv' := [(2, .int 1), (0, .ref 0), (1, .int 1)]) (st' := []) (w' := wMr tp (cdB cd0 (200 * t) O) sr wo (upd he H.length 0) (nI N) (nI t) (nI k.1) (nI k.2.1) (tkM k.2.2) v (nI (H.length + 1)) (nI (opn (0 :: H))) (nI O.length) J K) (Ps := []) rfl trivial ?_
                      refine ww_lv [1, 2, 0] (lv' := [(0, .ref 0), (1, .int 1), (2, .int 1)]) rfl ?_
                      have hlt : k.2.1 < k.1 := k4.resolve_left (by rw [hc]; decide)
                      exact ih k.1 (0 :: H) O _ _ _ _ (some true) 1 1 k3 (by omega) (by show O.length + (H.length + 1) ≤ k.1; omega) (stk_push hs) (Or.inl ⟨true, rfl, rfl, by decide⟩) (by rw [← hv, st_un hnn, if_neg hno, if_neg hn45, if_pos hc, if_neg ho])
                    · exact absurd c25 (by decide)
              · have hno : ¬ (k.2.2 = 10013 ∧ m = true) := (fun q => c21 q.2)
                have hc := tk_i45 c22
                refine ww_run 57 2 (pc' := 111) (lv' := [(0, .ref 0), (1, .int 1), (2, .int (b2i (m = true)))]) (st' := [.int 19, .ref 0]) (w' := wMr tp (cdB cd0 (200 * t) O) sr wo he (nI N) (nI t) (nI k.1) (nI k.2.1) (tkM k.2.2) v (nI H.length) (nI (opn H)) (nI O.length) J K) (Ps := []) rfl trivial ?_
                refine ww_cV 59 ok_X7_opensOne (m_opensOne tp (cdB cd0 (200 * t) O) sr wo he (nI N) (nI t) (nI k.1) (nI k.2.1) (tkM k.2.2) v (nI O.length) J K H.length (opn H) (by omega) (by have := opn_le H; omega) 19) lk_X7_171 rfl (by omega) (rest := []) rfl (Nat.le_of_ble_eq_true rfl) rfl rfl rfl rfl (fun r w' hq => ?_)
                rcases hq with ⟨ho, rfl, rfl⟩ | ⟨ho, rfl, rfl⟩
                · skip
                  refine ww_if_ne 60 rfl (tgt := 119) rfl (fun c26 => ?_) (fun c26 => ?_)
                  · exact absurd c26 (by decide)
                  · refine ww_run 61 1 (pc' := 118) (lv' := [(0, .ref 0), (1, .int 1), (2, .int (b2i (m = true)))]) (st' := [.int 0]) (w' := wMr tp (cdB cd0 (200 * t) O) sr wo he (nI N) (nI t) (nI k.1) (nI k.2.1) (tkM k.2.2) v (nI H.length) (nI (opn H)) (nI O.length) J K) (Ps := []) rfl trivial ?_
                    refine ww_zret 62 rfl rfl rfl ?_
                    exact KF k.2.1 O _ _ _ _ _ _ (by rw [← hv, st_un hnn, if_neg hno, if_pos hc, if_pos ho])
                · rw [← opn_o (g := 19) H (by decide)]
                  refine ww_if_ne 60 rfl (tgt := 119) rfl (fun c27 => ?_) (fun c27 => ?_)
                  · refine ww_run 63 3 (pc' := 14) (lv' := [(2, .int 0), (0, .ref 0), (1, .int 1)]) (st' := []) (w' := wMr tp (cdB cd0 (200 * t) O) sr wo (upd he H.length 19) (nI N) (nI t) (nI k.1) (nI k.2.1) (tkM k.2.2) v (nI (H.length + 1)) (nI (opn (19 :: H))) (nI O.length) J K) (Ps := []) rfl trivial ?_
                    refine ww_lv [1, 2, 0] (lv' := [(0, .ref 0), (1, .int 1), (2, .int 0)]) rfl ?_
                    have hlt : k.2.1 < k.1 := k4.resolve_left (by rw [hc]; decide)
                    exact ih k.1 (19 :: H) O _ _ _ _ (some false) 1 0 k3 (by omega) (by show O.length + (H.length + 1) ≤ k.1; omega) (stk_push hs) (Or.inl ⟨false, rfl, rfl, by decide⟩) (by rw [← hv, st_un hnn, if_neg hno, if_pos hc, if_neg ho])
                  · exact absurd c27 (by decide)
            · rw [b2i_ne0] at c21
              have hc := tk_i6 c14
              obtain rfl : m = true := c21
              refine ww_run 47 2 (pc' := 91) (lv' := [(0, .ref 0), (1, .int 1), (2, .int (b2i (true = true)))]) (st' := [.int 13, .ref 0]) (w' := wMr tp (cdB cd0 (200 * t) O) sr wo he (nI N) (nI t) (nI k.1) (nI k.2.1) (tkM k.2.2) v (nI H.length) (nI (opn H)) (nI O.length) J K) (Ps := []) rfl trivial ?_
              refine ww_cV 49 ok_X7_opensOne (m_opensOne tp (cdB cd0 (200 * t) O) sr wo he (nI N) (nI t) (nI k.1) (nI k.2.1) (tkM k.2.2) v (nI O.length) J K H.length (opn H) (by omega) (by have := opn_le H; omega) 13) lk_X7_171 rfl (by omega) (rest := []) rfl (Nat.le_of_ble_eq_true rfl) rfl rfl rfl rfl (fun r w' hq => ?_)
              rcases hq with ⟨ho, rfl, rfl⟩ | ⟨ho, rfl, rfl⟩
              · skip
                refine ww_if_ne 50 rfl (tgt := 14) rfl (fun c28 => ?_) (fun c28 => ?_)
                · exact absurd c28 (by decide)
                · refine ww_run 51 1 (pc' := 98) (lv' := [(0, .ref 0), (1, .int 1), (2, .int (b2i (true = true)))]) (st' := [.int 0]) (w' := wMr tp (cdB cd0 (200 * t) O) sr wo he (nI N) (nI t) (nI k.1) (nI k.2.1) (tkM k.2.2) v (nI H.length) (nI (opn H)) (nI O.length) J K) (Ps := []) rfl trivial ?_
                  refine ww_zret 52 rfl rfl rfl ?_
                  exact KF k.2.1 O _ _ _ _ _ _ (by rw [← hv, st_un hnn, if_pos ⟨hc, rfl⟩, if_pos ho])
              · rw [← opn_o (g := 13) H (by decide)]
                refine ww_if_ne 50 rfl (tgt := 14) rfl (fun c29 => ?_) (fun c29 => ?_)
                · have hlt : k.2.1 < k.1 := k4.resolve_left (by rw [hc]; decide)
                  exact ih k.1 (13 :: H) O _ _ _ _ (some true) 1 (b2i (true = true)) k3 (by omega) (by show O.length + (H.length + 1) ≤ k.1; omega) (stk_push hs) (Or.inl ⟨true, rfl, rfl, rfl⟩) (by rw [← hv, st_un hnn, if_pos ⟨hc, rfl⟩, if_neg ho])
                · exact absurd c29 (by decide)
        · refine ww_run 22 4 (pc' := 44) (lv' := [(0, .ref 0), (1, .int 1), (2, .int (b2i (m = true)))]) (st' := [.int 1, .int (tkM k.2.2), .ref 0]) (w' := wMr tp (cdB cd0 (200 * t) O) sr wo he (nI N) (nI t) (nI k.1) (nI k.2.1) (tkM k.2.2) v (nI H.length) (nI (opn H)) (nI O.length) J K) (Ps := []) rfl trivial ?_
          refine ww_icmp_ne 26 rfl (tgt := 57) rfl (fun c30 => ?_) (fun c30 => ?_)
          · refine ww_run 32 2 (pc' := 61) (lv' := [(0, .ref 0), (1, .int 1), (2, .int (b2i (m = true)))]) (st' := [.int v, .ref 0]) (w' := wMr tp (cdB cd0 (200 * t) O) sr wo he (nI N) (nI t) (nI k.1) (nI k.2.1) (tkM k.2.2) v (nI H.length) (nI (opn H)) (nI O.length) J K) (Ps := []) rfl trivial ?_
            have hc2 := tk_i2 c13
            have hnum := hc2.1
            have hcd : v = cC k.2.2 := by rw [hvl.2.1 ⟨Int32.not_lt.mp (fun z => hc2.2 ⟨hc2.1.1, z⟩), hc2.1.2⟩]; unfold cC; rw [if_neg hc2.2, if_pos hc2.1]
            rw [hcd]
            refine ww_cVv 34 ok_X7_puts (m_puts tp (cdB cd0 (200 * t) O) sr wo he (nI N) (nI k.1) (nI k.2.1) (tkM k.2.2) (cC k.2.2) (nI H.length) (nI (opn H)) J K t O.length (by omega) (by omega) (cC k.2.2)) lk_X7_157 rfl (by omega) (rest := []) rfl (Nat.le_of_ble_eq_true rfl) rfl rfl rfl rfl ?_
            refine ww_run 35 2 (pc' := 67) (lv' := [(0, .ref 0), (1, .int 1), (2, .int (b2i (m = true)))]) (st' := [.int 7, .ref 0]) (w' := wMr tp (cdB cd0 (200 * t) (cC k.2.2 :: O)) sr wo he (nI N) (nI t) (nI k.1) (nI k.2.1) (tkM k.2.2) (cC k.2.2) (nI H.length) (nI (opn H)) (nI (cC k.2.2 :: O).length) J K) (Ps := []) rfl trivial ?_
            refine ww_cVv 37 ok_X7_unwinds (m_unwinds tp sr wo he (nI N) (nI k.1) (nI k.2.1) (tkM k.2.2) (cC k.2.2) J K cd0 t 7 ht (by decide) (by decide) H (cC k.2.2 :: O) (by simp only [List.length_cons]; omega) hs) lk_X7_164 rfl (by omega) (rest := []) rfl (Nat.le_of_ble_eq_true rfl) rfl rfl rfl rfl ?_
            have hsU := stk_unw (l := 7) H (cC k.2.2 :: O) hs
            have hlU := len_unw (l := 7) H (cC k.2.2 :: O)
            generalize hU : unw 7 H (cC k.2.2 :: O) = U at hsU hlU ⊢
            refine ww_run 38 3 (pc' := 14) (lv' := [(1, .int 0), (0, .ref 0), (2, .int (b2i (m = true)))]) (st' := []) (w' := wMr tp (cdB cd0 (200 * t) U.2) sr wo he (nI N) (nI t) (nI k.1) (nI k.2.1) (tkM k.2.2) (cC k.2.2) (nI U.1.length) (nI (opn U.1)) (nI U.2.length) J K) (Ps := []) rfl trivial ?_
            refine ww_lv [1, 0, 2] (lv' := [(0, .ref 0), (1, .int 0), (2, .int (b2i (m = true)))]) rfl ?_
            have hlt : k.2.1 < k.1 := k4.resolve_left (by intro q; rw [q] at hnum; exact absurd hnum.1 (by decide))
            exact ih k.1 U.1 U.2 _ _ _ _ none 0 (b2i (m = true)) k3 (by omega) (by have h9 : U.1.length + U.2.length = H.length + (O.length + 1) := hlU.1; omega) hsU (Or.inr ⟨rfl, rfl⟩) (by rw [← hv, st_num hnum, hU])
          · exact absurd c30 c11
set_option maxHeartbeats 4000000 in
set_option maxRecDepth 100000 in
theorem m_eRead (tp sr wo he : Nat → Int32) (bg tk vl hm op : Int32) (J : Nat → Int32) (K : Nat → Nat → Int32) (cd0 : Nat → Int32) (N t p : Nat) (hN : N ≤ 160) (ht : t < 6) (hp : p ≤ N) (O : List Int32) (hO : O.length ≤ p) (hwo : ∀ j, j < 96 → wo j = woT j) : Co M_X7_eRead 3 0 0 [.ref 0] (wMr tp (cdB cd0 (200 * t) O) sr wo he (nI N) (nI t) (nI p) bg tk vl hm op (nI O.length) J K) (fun r w' => (∃ a O' he hm op pt tk vl, Yv tp N (some true) [] O (lkF tp N p) = .inl a ∧ r = some (.int 0) ∧ w' = wMr tp (cdB cd0 (200 * t) O') sr wo he (nI N) (nI t) pt (nI a) tk vl hm op (nI O'.length) J K) ∨ (∃ O' p' he hm op bg tk vl, Yv tp N (some true) [] O (lkF tp N p) = .inr (O', p') ∧ p' ≤ N ∧ O'.length ≤ p' ∧ r = some (.int 1) ∧ w' = wMr tp (cdB cd0 (200 * t) O') sr wo he (nI N) (nI t) (nI p') bg tk vl hm op (nI O'.length) J K)) := by
  refine Co.of ok_X7_eRead rfl ?_
  refine ww_run 0 10 (pc' := 14) (lv' := [(2, .int 1), (1, .int 1), (0, .ref 0)]) (st' := []) (w' := wMr tp (cdB cd0 (200 * t) O) sr wo he (nI N) (nI t) (nI p) bg tk vl 0 0 (nI O.length) J K) (Ps := []) rfl trivial ?_
  refine ww_lv [2, 1, 0] (lv' := [(0, .ref 0), (1, .int 1), (2, .int 1)]) rfl ?_
  obtain ⟨k1, k2, k3, k4⟩ := lkF_gt (B := tp) hp
  refine ly_er (by omega) tp sr wo J K cd0 N t hN ht hwo (Yv tp N (some true) [] O (lkF tp N p)) ?_ ?_ (N - p + 1) p [] O he bg tk vl (some true) 1 1 hp (by omega) (by show O.length + 0 ≤ p; omega) trivial (Or.inl ⟨true, rfl, rfl, by decide⟩) ?_
  · exact fun a O' he hm op pt tk vl hV => Or.inl ⟨a, O', he, hm, op, pt, tk, vl, hV, rfl, rfl⟩
  · exact fun O' p' he hm op bg tk vl hV h1 h2 => Or.inr ⟨O', p', he, hm, op, bg, tk, vl, hV, h1, h2, rfl, rfl⟩
  · refine yt_ad (N - p + 1) _ _ k3 ?_ (Or.inr (by omega)) _ _ _
    rcases k4 with k4 | k4
    · exact Or.inl k4
    · exact Or.inr (by omega)
