theorem m_lives (ki mo cd sr : Nat → Int32) (lent : Int32) (J : Nat → Int32) (K : Nat → Nat → Int32) (fr lo fa : Nat → Int32) (sty wset wfor : Int32) (x : MS) (z : Z3) (sy : SY) (T P C k : Nat) (hP : P ≤ 5) (hC : C ≤ 6) (hk : k < T) (hL : ML cd sr T sy) (hmo : MO6 mo) (N : Nat) (hN : N ≤ 30) : Co M_X7_lives 6 0 0 [.ref 0, .int (nI N)] (wMv (wiF fr lo fa) ki mo (hoF sty wset wfor) cd sr z.2.1 z.1 x.2.2.2.2.2.1 x.2.2.2.2.2.2 x.1 x.2.1 x.2.2.1 x.2.2.2.1 x.2.2.2.2.1 z.2.2 (nI P) (nI C) (nI k) lent J K) (fun r w' => r = none ∧ ∃ (x : MS) (z : Z3), REL P C (evS sy P C fr lo fa ki mo k sty wset wfor lent N) x ∧ w' = wMv (wiF fr lo fa) ki mo (hoF sty wset wfor) cd sr z.2.1 z.1 x.2.2.2.2.2.1 x.2.2.2.2.2.2 x.1 x.2.1 x.2.2.1 x.2.2.2.1 x.2.2.2.2.1 z.2.2 (nI P) (nI C) (nI k) lent J K) := by
  obtain ⟨e, hE, hS⟩ := hL.2.2 k hk
  refine (c_X7_lives ki mo cd sr z.2.1 z.1 x.2.2.2.2.2.1 x.2.2.2.2.2.2 x.1 x.2.1 x.2.2.1 x.2.2.2.1 x.2.2.2.2.1 z.2.2 lent J K fr lo fa sty wset wfor P C k e hP hC hE N hN).imp ?_
  rintro r w' ⟨rfl, n1, s1, t1, rfl⟩
  refine ⟨rfl, (mLive P C fr lo fa ki mo (sayM cd k e) lent sty N 0 (mStart P C wset wfor (x.1, x.2.1, x.2.2.1, x.2.2.2.1, x.2.2.2.2.1, x.2.2.2.2.2.1, x.2.2.2.2.2.2))), (n1, s1, t1), ?_, rfl⟩
  have e0 : sayM cd k e 0 = sy k 0 := funext (fun f => hS 0 (by omega) f)
  have e1 : sayM cd k e 1 = sy k 1 := funext (fun f => hS 1 (by omega) f)
  rw [mLive_say e0 e1]
  exact (evening hC hP (hmo.h hC) (fun q f => hL.2.1 k q f) wset wfor _ N hN).1
set_option maxHeartbeats 4000000 in
set_option maxRecDepth 100000 in
theorem m_woe (ki mo cd sr : Nat → Int32) (lent : Int32) (J : Nat → Int32) (K : Nat → Nat → Int32) (fr lo fa : Nat → Int32) (sty wset wfor : Int32) (x : MS) (z : Z3) (sy : SY) (T P C k : Nat) (hP : P ≤ 5) (hC : C ≤ 6) (hk : k < T) (hL : ML cd sr T sy) (hmo : MO6 mo)  : Co M_X7_worthOfEvening 7 0 0 [.ref 0] (wMv (wiF fr lo fa) ki mo (hoF sty wset wfor) cd sr z.2.1 z.1 x.2.2.2.2.2.1 x.2.2.2.2.2.2 x.1 x.2.1 x.2.2.1 x.2.2.2.1 x.2.2.2.2.1 z.2.2 (nI P) (nI C) (nI k) lent J K) (fun r w' => r = some (.int (woS P (evS sy P C fr lo fa ki mo k sty wset wfor lent 30))) ∧ ∃ (x : MS) (z : Z3), w' = wMv (wiF fr lo fa) ki mo (hoF sty wset wfor) cd sr z.2.1 z.1 x.2.2.2.2.2.1 x.2.2.2.2.2.2 x.1 x.2.1 x.2.2.1 x.2.2.2.1 x.2.2.2.2.1 z.2.2 (nI P) (nI C) (nI k) lent J K) := by
  refine Co.of ok_X7_worthOfEvening rfl ?_
  refine ww_run 0 2 (pc' := 3) (lv' := [(0, .ref 0)]) (st' := [.int 30, .ref 0]) (w' := wMv (wiF fr lo fa) ki mo (hoF sty wset wfor) cd sr z.2.1 z.1 x.2.2.2.2.2.1 x.2.2.2.2.2.2 x.1 x.2.1 x.2.2.1 x.2.2.2.1 x.2.2.2.2.1 z.2.2 (nI P) (nI C) (nI k) lent J K) (Ps := []) rfl trivial ?_
  refine ww_cV 2 ok_X7_lives (m_lives ki mo cd sr lent J K fr lo fa sty wset wfor x z sy T P C k hP hC hk hL hmo 30 (by omega)) lk_X7_238 rfl (by omega) (rest := []) rfl (Nat.le_of_ble_eq_true rfl) rfl rfl rfl rfl (fun r w' hq => ?_)
  obtain ⟨rfl, x1, z1, hR1, rfl⟩ := hq
  have hI1 : INV P C (evS sy P C fr lo fa ki mo k sty wset wfor lent 30) := evS_inv hL.2.1 hP hC hmo (by omega)
  refine ww_run 3 2 (pc' := 10) (lv' := [(0, .ref 0)]) (st' := [.ref 0, .int 1000]) (w' := wMv (wiF fr lo fa) ki mo (hoF sty wset wfor) cd sr z1.2.1 z1.1 x1.2.2.2.2.2.1 x1.2.2.2.2.2.2 x1.1 x1.2.1 x1.2.2.1 x1.2.2.2.1 x1.2.2.2.2.1 z1.2.2 (nI P) (nI C) (nI k) lent J K) (Ps := []) rfl trivial ?_
  refine ww_cVi 5 ok_X7_risen (c_X7_risen (wiF fr lo fa) ki mo (hoF sty wset wfor) cd sr z1.2.1 z1.1 x1.2.2.2.2.2.1 x1.2.2.2.2.2.2 x1.1 x1.2.1 x1.2.2.1 x1.2.2.2.1 x1.2.2.2.2.1 z1.2.2 (nI C) (nI k) lent J K P hP) lk_X7_241 rfl (by omega) (rest := [.int 1000]) rfl (Nat.le_of_ble_eq_true rfl) rfl rfl rfl rfl ?_
  rw [ob_risen hR1 hI1]
  refine ww_run 6 2 (pc' := 15) (lv' := [(0, .ref 0)]) (st' := [.ref 0, .int (1000 * (riS (evS sy P C fr lo fa ki mo k sty wset wfor lent 30)))]) (w' := wMv (wiF fr lo fa) ki mo (hoF sty wset wfor) cd sr z1.2.1 z1.1 x1.2.2.2.2.2.1 x1.2.2.2.2.2.2 x1.1 x1.2.1 x1.2.2.1 x1.2.2.2.1 x1.2.2.2.2.1 z1.2.2 (nI P) (nI C) (nI k) lent J K) (Ps := []) rfl trivial ?_
  refine ww_cVi 8 ok_X7_stoodAll (c_X7_stoodAll (wiF fr lo fa) ki mo (hoF sty wset wfor) cd sr z1.2.1 z1.1 x1.2.2.2.2.2.1 x1.2.2.2.2.2.2 x1.1 x1.2.1 x1.2.2.1 x1.2.2.2.1 x1.2.2.2.2.1 z1.2.2 (nI C) (nI k) lent J K P hP) lk_X7_244 rfl (by omega) (rest := [.int (1000 * (riS (evS sy P C fr lo fa ki mo k sty wset wfor lent 30)))]) rfl (Nat.le_of_ble_eq_true rfl) rfl rfl rfl rfl ?_
  rw [ob_stood hR1]
  refine ww_run 9 1 (pc' := 19) (lv' := [(0, .ref 0)]) (st' := [.int ((1000 * (riS (evS sy P C fr lo fa ki mo k sty wset wfor lent 30))) - (stS P (evS sy P C fr lo fa ki mo k sty wset wfor lent 30)))]) (w' := wMv (wiF fr lo fa) ki mo (hoF sty wset wfor) cd sr z1.2.1 z1.1 x1.2.2.2.2.2.1 x1.2.2.2.2.2.2 x1.1 x1.2.1 x1.2.2.1 x1.2.2.2.1 x1.2.2.2.2.1 z1.2.2 (nI P) (nI C) (nI k) lent J K) (Ps := []) rfl trivial ?_
  refine ww_iret 10 rfl rfl ?_
  exact ⟨rfl, x1, z1, rfl⟩
def ofS (s : ES) (p : Nat) (what : Int32) : Int32 := if what = 0 then s.1 p else if what = 1 then s.2.2.1 p else if what = 2 then s.2.2.2.1 p else if what = 3 then s.2.2.2.2.1 p else s.2.1 p
set_option maxHeartbeats 4000000 in
set_option maxRecDepth 100000 in
theorem m_of (ki mo cd sr : Nat → Int32) (lent : Int32) (J : Nat → Int32) (K : Nat → Nat → Int32) (fr lo fa : Nat → Int32) (sty wset wfor : Int32) (x : MS) (z : Z3) (sy : SY) (T P C k : Nat) (hP : P ≤ 5) (hC : C ≤ 6) (hk : k < T) (hL : ML cd sr T sy) (hmo : MO6 mo) (nn pp what : Int32) : Co M_X7_of 7 0 0 [.ref 0, .int nn, .int pp, .int what] (wMv (wiF fr lo fa) ki mo (hoF sty wset wfor) cd sr z.2.1 z.1 x.2.2.2.2.2.1 x.2.2.2.2.2.2 x.1 x.2.1 x.2.2.1 x.2.2.2.1 x.2.2.2.2.1 z.2.2 (nI P) (nI C) (nI k) lent J K) (fun r w' => r = some (.int (if ¬ (mIn nn 0 30 ∧ mIn pp 0 (nI P - 1)) then -5 else if ¬ mIn what 0 4 then -7 else ofS (evS sy P C fr lo fa ki mo k sty wset wfor lent nn.toNatClampNeg) pp.toNatClampNeg what)) ∧ ∃ (x : MS) (z : Z3), w' = wMv (wiF fr lo fa) ki mo (hoF sty wset wfor) cd sr z.2.1 z.1 x.2.2.2.2.2.1 x.2.2.2.2.2.2 x.1 x.2.1 x.2.2.1 x.2.2.2.1 x.2.2.2.2.1 z.2.2 (nI P) (nI C) (nI k) lent J K) := by
  refine Co.of ok_X7_of rfl ?_
  refine ww_run 0 1 (pc' := 1) (lv' := [(0, .ref 0), (1, .int nn), (2, .int pp), (3, .int what)]) (st' := [.int nn]) (w' := wMv (wiF fr lo fa) ki mo (hoF sty wset wfor) cd sr z.2.1 z.1 x.2.2.2.2.2.1 x.2.2.2.2.2.2 x.1 x.2.1 x.2.2.1 x.2.2.2.1 x.2.2.2.2.1 z.2.2 (nI P) (nI C) (nI k) lent J K) (Ps := []) rfl trivial ?_
  refine ww_cSi 1 ok_X7_isMany (Co.fr0 (c_X7_isMany nn) rfl) lk_X7_235 rfl (by omega) (rest := []) rfl (Nat.le_of_ble_eq_true rfl) rfl ?_
  refine ww_if_eq 2 rfl (tgt := 15) rfl (fun c1 => ?_) (fun c1 => ?_)
  · rw [b2i_eq0] at c1
    refine ww_run 7 1 (pc' := 17) (lv' := [(0, .ref 0), (1, .int nn), (2, .int pp), (3, .int what)]) (st' := [.int (-5)]) (w' := wMv (wiF fr lo fa) ki mo (hoF sty wset wfor) cd sr z.2.1 z.1 x.2.2.2.2.2.1 x.2.2.2.2.2.2 x.1 x.2.1 x.2.2.1 x.2.2.2.1 x.2.2.2.2.1 z.2.2 (nI P) (nI C) (nI k) lent J K) (Ps := []) rfl trivial ?_
    refine ww_iret 8 rfl rfl ?_
    exact ⟨by rw [if_pos (fun h => c1 h.1)], x, z, rfl⟩
  · rw [b2i_ne0] at c1
    refine ww_run 3 2 (pc' := 9) (lv' := [(0, .ref 0), (1, .int nn), (2, .int pp), (3, .int what)]) (st' := [.int pp, .ref 0]) (w' := wMv (wiF fr lo fa) ki mo (hoF sty wset wfor) cd sr z.2.1 z.1 x.2.2.2.2.2.1 x.2.2.2.2.2.2 x.1 x.2.1 x.2.2.1 x.2.2.2.1 x.2.2.2.2.1 z.2.2 (nI P) (nI C) (nI k) lent J K) (Ps := []) rfl trivial ?_
    refine ww_cVi 5 ok_X7_isOne (c_X7_isOne (wiF fr lo fa) ki mo (hoF sty wset wfor) cd sr z.2.1 z.1 x.2.2.2.2.2.1 x.2.2.2.2.2.2 x.1 x.2.1 x.2.2.1 x.2.2.2.1 x.2.2.2.2.1 z.2.2 (nI P) (nI C) (nI k) lent J K pp) lk_X7_115 rfl (by omega) (rest := []) rfl (Nat.le_of_ble_eq_true rfl) rfl rfl rfl rfl ?_
    refine ww_if_ne 6 rfl (tgt := 18) rfl (fun c2 => ?_) (fun c2 => ?_)
    · rw [b2i_ne0] at c2
      obtain ⟨N, hN, rfl⟩ := many_nI c1
      obtain ⟨p, hp, rfl⟩ := one_nI (by omega) c2
      refine ww_run 9 3 (pc' := 21) (lv' := [(0, .ref 0), (1, .int (nI N)), (2, .int (nI p)), (3, .int what)]) (st' := [.int 4, .int 0, .int what]) (w' := wMv (wiF fr lo fa) ki mo (hoF sty wset wfor) cd sr z.2.1 z.1 x.2.2.2.2.2.1 x.2.2.2.2.2.2 x.1 x.2.1 x.2.2.1 x.2.2.2.1 x.2.2.2.2.1 z.2.2 (nI P) (nI C) (nI k) lent J K) (Ps := []) rfl trivial ?_
      refine ww_cSi 12 ok_X7_in (Co.fr0 (c_X7_in what 0 4) rfl) lk_X7_108 rfl (by omega) (rest := []) rfl (Nat.le_of_ble_eq_true rfl) rfl ?_
      refine ww_if_ne 13 rfl (tgt := 30) rfl (fun c3 => ?_) (fun c3 => ?_)
      · rw [b2i_ne0] at c3
        refine ww_run 16 2 (pc' := 32) (lv' := [(0, .ref 0), (1, .int (nI N)), (2, .int (nI p)), (3, .int what)]) (st' := [.int (nI N), .ref 0]) (w' := wMv (wiF fr lo fa) ki mo (hoF sty wset wfor) cd sr z.2.1 z.1 x.2.2.2.2.2.1 x.2.2.2.2.2.2 x.1 x.2.1 x.2.2.1 x.2.2.2.1 x.2.2.2.2.1 z.2.2 (nI P) (nI C) (nI k) lent J K) (Ps := []) rfl trivial ?_
        refine ww_cV 18 ok_X7_lives (m_lives ki mo cd sr lent J K fr lo fa sty wset wfor x z sy T P C k hP hC hk hL hmo N (by omega)) lk_X7_238 rfl (by omega) (rest := []) rfl (Nat.le_of_ble_eq_true rfl) rfl rfl rfl rfl (fun r w' hq => ?_)
        obtain ⟨rfl, x1, z1, hR1, rfl⟩ := hq
        have hI1 : INV P C (evS sy P C fr lo fa ki mo k sty wset wfor lent N) := evS_inv hL.2.1 hP hC hmo (by omega)
        refine ww_run 19 1 (pc' := 36) (lv' := [(0, .ref 0), (1, .int (nI N)), (2, .int (nI p)), (3, .int what)]) (st' := [.int what]) (w' := wMv (wiF fr lo fa) ki mo (hoF sty wset wfor) cd sr z1.2.1 z1.1 x1.2.2.2.2.2.1 x1.2.2.2.2.2.2 x1.1 x1.2.1 x1.2.2.1 x1.2.2.2.1 x1.2.2.2.2.1 z1.2.2 (nI P) (nI C) (nI k) lent J K) (Ps := []) rfl trivial ?_
        refine ww_if_ne 20 rfl (tgt := 48) rfl (fun c4 => ?_) (fun c4 => ?_)
        · refine ww_run 26 2 (pc' := 50) (lv' := [(0, .ref 0), (1, .int (nI N)), (2, .int (nI p)), (3, .int what)]) (st' := [.int 1, .int what]) (w' := wMv (wiF fr lo fa) ki mo (hoF sty wset wfor) cd sr z1.2.1 z1.1 x1.2.2.2.2.2.1 x1.2.2.2.2.2.2 x1.1 x1.2.1 x1.2.2.1 x1.2.2.2.1 x1.2.2.2.2.1 z1.2.2 (nI P) (nI C) (nI k) lent J K) (Ps := []) rfl trivial ?_
          refine ww_icmp_ne 28 rfl (tgt := 62) rfl (fun c5 => ?_) (fun c5 => ?_)
          · refine ww_run 34 2 (pc' := 64) (lv' := [(0, .ref 0), (1, .int (nI N)), (2, .int (nI p)), (3, .int what)]) (st' := [.int 2, .int what]) (w' := wMv (wiF fr lo fa) ki mo (hoF sty wset wfor) cd sr z1.2.1 z1.1 x1.2.2.2.2.2.1 x1.2.2.2.2.2.2 x1.1 x1.2.1 x1.2.2.1 x1.2.2.2.1 x1.2.2.2.2.1 z1.2.2 (nI P) (nI C) (nI k) lent J K) (Ps := []) rfl trivial ?_
            refine ww_icmp_ne 36 rfl (tgt := 76) rfl (fun c6 => ?_) (fun c6 => ?_)
            · refine ww_run 42 2 (pc' := 78) (lv' := [(0, .ref 0), (1, .int (nI N)), (2, .int (nI p)), (3, .int what)]) (st' := [.int 3, .int what]) (w' := wMv (wiF fr lo fa) ki mo (hoF sty wset wfor) cd sr z1.2.1 z1.1 x1.2.2.2.2.2.1 x1.2.2.2.2.2.2 x1.1 x1.2.1 x1.2.2.1 x1.2.2.2.1 x1.2.2.2.2.1 z1.2.2 (nI P) (nI C) (nI k) lent J K) (Ps := []) rfl trivial ?_
              refine ww_icmp_ne 44 rfl (tgt := 90) rfl (fun c7 => ?_) (fun c7 => ?_)
              · refine ww_run 50 4 (pc' := 96) (lv' := [(0, .ref 0), (1, .int (nI N)), (2, .int (nI p)), (3, .int what)]) (st' := [.int (x1.2.1 (nI p).toNatClampNeg)]) (w' := wMv (wiF fr lo fa) ki mo (hoF sty wset wfor) cd sr z1.2.1 z1.1 x1.2.2.2.2.2.1 x1.2.2.2.2.2.2 x1.1 x1.2.1 x1.2.2.1 x1.2.2.2.1 x1.2.2.2.2.1 z1.2.2 (nI P) (nI C) (nI k) lent J K) (Ps := [vp_in (nI p) 5]) rfl ⟨(vp_in_nI (by omega) (by omega)), trivial⟩ ?_
                rw [nI_clamp (n := p) (by omega)]
                refine ww_iret 54 rfl rfl ?_
                obtain ⟨a1, a2, a3, a4, a5⟩ := hR1.1 p hp
                exact ⟨by simp only [nI_clamp (n := N) (by omega), nI_clamp (n := p) (by omega)]; rw [if_neg (fun h => h ⟨c1, c2⟩), if_neg (fun h => h c3)]; unfold ofS; rw [if_neg c4, if_neg c5, if_neg c6, if_neg c7]; first | rw [a1] | rw [a2] | rw [a3] | rw [a4] | rw [a5], x1, z1, rfl⟩
              · refine ww_run 45 5 (pc' := 96) (lv' := [(0, .ref 0), (1, .int (nI N)), (2, .int (nI p)), (3, .int what)]) (st' := [.int (x1.2.2.2.2.1 (nI p).toNatClampNeg)]) (w' := wMv (wiF fr lo fa) ki mo (hoF sty wset wfor) cd sr z1.2.1 z1.1 x1.2.2.2.2.2.1 x1.2.2.2.2.2.2 x1.1 x1.2.1 x1.2.2.1 x1.2.2.2.1 x1.2.2.2.2.1 z1.2.2 (nI P) (nI C) (nI k) lent J K) (Ps := [vp_in (nI p) 5]) rfl ⟨(vp_in_nI (by omega) (by omega)), trivial⟩ ?_
                rw [nI_clamp (n := p) (by omega)]
                refine ww_iret 54 rfl rfl ?_
                obtain ⟨a1, a2, a3, a4, a5⟩ := hR1.1 p hp
                exact ⟨by simp only [nI_clamp (n := N) (by omega), nI_clamp (n := p) (by omega)]; rw [if_neg (fun h => h ⟨c1, c2⟩), if_neg (fun h => h c3)]; unfold ofS; rw [if_neg c4, if_neg c5, if_neg c6, if_pos c7]; first | rw [a1] | rw [a2] | rw [a3] | rw [a4] | rw [a5], x1, z1, rfl⟩
            · refine ww_run 37 5 (pc' := 96) (lv' := [(0, .ref 0), (1, .int (nI N)), (2, .int (nI p)), (3, .int what)]) (st' := [.int (x1.2.2.2.1 (nI p).toNatClampNeg)]) (w' := wMv (wiF fr lo fa) ki mo (hoF sty wset wfor) cd sr z1.2.1 z1.1 x1.2.2.2.2.2.1 x1.2.2.2.2.2.2 x1.1 x1.2.1 x1.2.2.1 x1.2.2.2.1 x1.2.2.2.2.1 z1.2.2 (nI P) (nI C) (nI k) lent J K) (Ps := [vp_in (nI p) 5]) rfl ⟨(vp_in_nI (by omega) (by omega)), trivial⟩ ?_
              rw [nI_clamp (n := p) (by omega)]
              refine ww_iret 54 rfl rfl ?_
              obtain ⟨a1, a2, a3, a4, a5⟩ := hR1.1 p hp
              exact ⟨by simp only [nI_clamp (n := N) (by omega), nI_clamp (n := p) (by omega)]; rw [if_neg (fun h => h ⟨c1, c2⟩), if_neg (fun h => h c3)]; unfold ofS; rw [if_neg c4, if_neg c5, if_pos c6]; first | rw [a1] | rw [a2] | rw [a3] | rw [a4] | rw [a5], x1, z1, rfl⟩
          · refine ww_run 29 5 (pc' := 96) (lv' := [(0, .ref 0), (1, .int (nI N)), (2, .int (nI p)), (3, .int what)]) (st' := [.int (x1.2.2.1 (nI p).toNatClampNeg)]) (w' := wMv (wiF fr lo fa) ki mo (hoF sty wset wfor) cd sr z1.2.1 z1.1 x1.2.2.2.2.2.1 x1.2.2.2.2.2.2 x1.1 x1.2.1 x1.2.2.1 x1.2.2.2.1 x1.2.2.2.2.1 z1.2.2 (nI P) (nI C) (nI k) lent J K) (Ps := [vp_in (nI p) 5]) rfl ⟨(vp_in_nI (by omega) (by omega)), trivial⟩ ?_
            rw [nI_clamp (n := p) (by omega)]
            refine ww_iret 54 rfl rfl ?_
            obtain ⟨a1, a2, a3, a4, a5⟩ := hR1.1 p hp
            exact ⟨by simp only [nI_clamp (n := N) (by omega), nI_clamp (n := p) (by omega)]; rw [if_neg (fun h => h ⟨c1, c2⟩), if_neg (fun h => h c3)]; unfold ofS; rw [if_neg c4, if_pos c5]; first | rw [a1] | rw [a2] | rw [a3] | rw [a4] | rw [a5], x1, z1, rfl⟩
        · refine ww_run 21 5 (pc' := 96) (lv' := [(0, .ref 0), (1, .int (nI N)), (2, .int (nI p)), (3, .int what)]) (st' := [.int (x1.1 (nI p).toNatClampNeg)]) (w' := wMv (wiF fr lo fa) ki mo (hoF sty wset wfor) cd sr z1.2.1 z1.1 x1.2.2.2.2.2.1 x1.2.2.2.2.2.2 x1.1 x1.2.1 x1.2.2.1 x1.2.2.2.1 x1.2.2.2.2.1 z1.2.2 (nI P) (nI C) (nI k) lent J K) (Ps := [vp_in (nI p) 5]) rfl ⟨(vp_in_nI (by omega) (by omega)), trivial⟩ ?_
          rw [nI_clamp (n := p) (by omega)]
          refine ww_iret 54 rfl rfl ?_
          obtain ⟨a1, a2, a3, a4, a5⟩ := hR1.1 p hp
          exact ⟨by simp only [nI_clamp (n := N) (by omega), nI_clamp (n := p) (by omega)]; rw [if_neg (fun h => h ⟨c1, c2⟩), if_neg (fun h => h c3)]; unfold ofS; rw [if_pos c4]; first | rw [a1] | rw [a2] | rw [a3] | rw [a4] | rw [a5], x1, z1, rfl⟩
      · rw [b2i_eq0] at c3
        refine ww_run 14 1 (pc' := 29) (lv' := [(0, .ref 0), (1, .int (nI N)), (2, .int (nI p)), (3, .int what)]) (st' := [.int (-7)]) (w' := wMv (wiF fr lo fa) ki mo (hoF sty wset wfor) cd sr z.2.1 z.1 x.2.2.2.2.2.1 x.2.2.2.2.2.2 x.1 x.2.1 x.2.2.1 x.2.2.2.1 x.2.2.2.2.1 z.2.2 (nI P) (nI C) (nI k) lent J K) (Ps := []) rfl trivial ?_
        refine ww_iret 15 rfl rfl ?_
        exact ⟨by rw [if_neg (fun h => h ⟨c1, c2⟩), if_pos c3], x, z, rfl⟩
    · rw [b2i_eq0] at c2
      refine ww_run 7 1 (pc' := 17) (lv' := [(0, .ref 0), (1, .int nn), (2, .int pp), (3, .int what)]) (st' := [.int (-5)]) (w' := wMv (wiF fr lo fa) ki mo (hoF sty wset wfor) cd sr z.2.1 z.1 x.2.2.2.2.2.1 x.2.2.2.2.2.2 x.1 x.2.1 x.2.2.1 x.2.2.2.1 x.2.2.2.2.1 z.2.2 (nI P) (nI C) (nI k) lent J K) (Ps := []) rfl trivial ?_
      refine ww_iret 8 rfl rfl ?_
      exact ⟨by rw [if_pos (fun h => c2 h.2)], x, z, rfl⟩
def chS (ki mo : Nat → Int32) (lent : Int32) (s : ES) (c : Nat) (m what : Int32) : Int32 := if what = 0 then s.2.2.2.2.2.2.1 c else if what = 1 then mWithin (s.2.2.2.2.2.1 c - m) 0 (s.2.2.2.2.2.1 c) else b2i (eFree ki mo s.2.2.2.2.2.1 s.2.2.2.2.2.2.1 lent s.2.2.2.2.2.2.2.1 c m)
set_option maxHeartbeats 4000000 in
set_option maxRecDepth 100000 in
theorem m_chairOf (ki mo cd sr : Nat → Int32) (lent : Int32) (J : Nat → Int32) (K : Nat → Nat → Int32) (fr lo fa : Nat → Int32) (sty wset wfor : Int32) (x : MS) (z : Z3) (sy : SY) (T P C k : Nat) (hP : P ≤ 5) (hC : C ≤ 6) (hk : k < T) (hL : ML cd sr T sy) (hmo : MO6 mo) (nn cc what : Int32) : Co M_X7_chairOf 7 0 0 [.ref 0, .int nn, .int cc, .int what] (wMv (wiF fr lo fa) ki mo (hoF sty wset wfor) cd sr z.2.1 z.1 x.2.2.2.2.2.1 x.2.2.2.2.2.2 x.1 x.2.1 x.2.2.1 x.2.2.2.1 x.2.2.2.2.1 z.2.2 (nI P) (nI C) (nI k) lent J K) (fun r w' => r = some (.int (if ¬ (mIn nn 0 30 ∧ mIn cc 0 (nI C - 1)) then -5 else if ¬ mIn what 0 2 then -7 else chS ki mo lent (evS sy P C fr lo fa ki mo k sty wset wfor lent nn.toNatClampNeg) cc.toNatClampNeg nn what)) ∧ ∃ (x : MS) (z : Z3), w' = wMv (wiF fr lo fa) ki mo (hoF sty wset wfor) cd sr z.2.1 z.1 x.2.2.2.2.2.1 x.2.2.2.2.2.2 x.1 x.2.1 x.2.2.1 x.2.2.2.1 x.2.2.2.2.1 z.2.2 (nI P) (nI C) (nI k) lent J K) := by
  refine Co.of ok_X7_chairOf rfl ?_
  refine ww_run 0 1 (pc' := 1) (lv' := [(0, .ref 0), (1, .int nn), (2, .int cc), (3, .int what)]) (st' := [.int nn]) (w' := wMv (wiF fr lo fa) ki mo (hoF sty wset wfor) cd sr z.2.1 z.1 x.2.2.2.2.2.1 x.2.2.2.2.2.2 x.1 x.2.1 x.2.2.1 x.2.2.2.1 x.2.2.2.2.1 z.2.2 (nI P) (nI C) (nI k) lent J K) (Ps := []) rfl trivial ?_
  refine ww_cSi 1 ok_X7_isMany (Co.fr0 (c_X7_isMany nn) rfl) lk_X7_235 rfl (by omega) (rest := []) rfl (Nat.le_of_ble_eq_true rfl) rfl ?_
  refine ww_if_eq 2 rfl (tgt := 15) rfl (fun c1 => ?_) (fun c1 => ?_)
  · rw [b2i_eq0] at c1
    refine ww_run 7 1 (pc' := 17) (lv' := [(0, .ref 0), (1, .int nn), (2, .int cc), (3, .int what)]) (st' := [.int (-5)]) (w' := wMv (wiF fr lo fa) ki mo (hoF sty wset wfor) cd sr z.2.1 z.1 x.2.2.2.2.2.1 x.2.2.2.2.2.2 x.1 x.2.1 x.2.2.1 x.2.2.2.1 x.2.2.2.2.1 z.2.2 (nI P) (nI C) (nI k) lent J K) (Ps := []) rfl trivial ?_
    refine ww_iret 8 rfl rfl ?_
    exact ⟨by rw [if_pos (fun h => c1 h.1)], x, z, rfl⟩
  · rw [b2i_ne0] at c1
    refine ww_run 3 2 (pc' := 9) (lv' := [(0, .ref 0), (1, .int nn), (2, .int cc), (3, .int what)]) (st' := [.int cc, .ref 0]) (w' := wMv (wiF fr lo fa) ki mo (hoF sty wset wfor) cd sr z.2.1 z.1 x.2.2.2.2.2.1 x.2.2.2.2.2.2 x.1 x.2.1 x.2.2.1 x.2.2.2.1 x.2.2.2.2.1 z.2.2 (nI P) (nI C) (nI k) lent J K) (Ps := []) rfl trivial ?_
    refine ww_cVi 5 ok_X7_isChair (c_X7_isChair (wiF fr lo fa) ki mo (hoF sty wset wfor) cd sr z.2.1 z.1 x.2.2.2.2.2.1 x.2.2.2.2.2.2 x.1 x.2.1 x.2.2.1 x.2.2.2.1 x.2.2.2.2.1 z.2.2 (nI P) (nI C) (nI k) lent J K cc) lk_X7_202 rfl (by omega) (rest := []) rfl (Nat.le_of_ble_eq_true rfl) rfl rfl rfl rfl ?_
    refine ww_if_ne 6 rfl (tgt := 18) rfl (fun c2 => ?_) (fun c2 => ?_)
    · rw [b2i_ne0] at c2
      obtain ⟨N, hN, rfl⟩ := many_nI c1
      obtain ⟨c, hc, rfl⟩ := one_nI (by omega) c2
      refine ww_run 9 3 (pc' := 21) (lv' := [(0, .ref 0), (1, .int (nI N)), (2, .int (nI c)), (3, .int what)]) (st' := [.int 2, .int 0, .int what]) (w' := wMv (wiF fr lo fa) ki mo (hoF sty wset wfor) cd sr z.2.1 z.1 x.2.2.2.2.2.1 x.2.2.2.2.2.2 x.1 x.2.1 x.2.2.1 x.2.2.2.1 x.2.2.2.2.1 z.2.2 (nI P) (nI C) (nI k) lent J K) (Ps := []) rfl trivial ?_
      refine ww_cSi 12 ok_X7_in (Co.fr0 (c_X7_in what 0 2) rfl) lk_X7_108 rfl (by omega) (rest := []) rfl (Nat.le_of_ble_eq_true rfl) rfl ?_
      refine ww_if_ne 13 rfl (tgt := 30) rfl (fun c3 => ?_) (fun c3 => ?_)
      · rw [b2i_ne0] at c3
        refine ww_run 16 2 (pc' := 32) (lv' := [(0, .ref 0), (1, .int (nI N)), (2, .int (nI c)), (3, .int what)]) (st' := [.int (nI N), .ref 0]) (w' := wMv (wiF fr lo fa) ki mo (hoF sty wset wfor) cd sr z.2.1 z.1 x.2.2.2.2.2.1 x.2.2.2.2.2.2 x.1 x.2.1 x.2.2.1 x.2.2.2.1 x.2.2.2.2.1 z.2.2 (nI P) (nI C) (nI k) lent J K) (Ps := []) rfl trivial ?_
        refine ww_cV 18 ok_X7_lives (m_lives ki mo cd sr lent J K fr lo fa sty wset wfor x z sy T P C k hP hC hk hL hmo N (by omega)) lk_X7_238 rfl (by omega) (rest := []) rfl (Nat.le_of_ble_eq_true rfl) rfl rfl rfl rfl (fun r w' hq => ?_)
        obtain ⟨rfl, x1, z1, hR1, rfl⟩ := hq
        have hI1 : INV P C (evS sy P C fr lo fa ki mo k sty wset wfor lent N) := evS_inv hL.2.1 hP hC hmo (by omega)
        refine ww_run 19 3 (pc' := 38) (lv' := [(0, .ref 0), (1, .int (nI N)), (2, .int (nI c)), (3, .int what)]) (st' := [.int (nI N), .int (nI c), .ref 0]) (w' := wMv (wiF fr lo fa) ki mo (hoF sty wset wfor) cd sr z1.2.1 z1.1 x1.2.2.2.2.2.1 x1.2.2.2.2.2.2 x1.1 x1.2.1 x1.2.2.1 x1.2.2.2.1 x1.2.2.2.2.1 z1.2.2 (nI P) (nI C) (nI k) lent J K) (Ps := []) rfl trivial ?_
        refine ww_cVi 22 ok_X7_isWarm (c_X7_isWarm (wiF fr lo fa) ki mo (hoF sty wset wfor) cd sr z1.2.1 z1.1 x1.2.2.2.2.2.1 x1.2.2.2.2.2.2 x1.1 x1.2.1 x1.2.2.1 x1.2.2.2.1 x1.2.2.2.2.1 z1.2.2 (nI P) (nI k) lent J K c (nI N) C hC (by omega)) lk_X7_211 rfl (by omega) (rest := []) rfl (Nat.le_of_ble_eq_true rfl) rfl rfl rfl rfl ?_
        refine ww_if_eq 23 rfl (tgt := 67) rfl (fun c4 => ?_) (fun c4 => ?_)
        · rw [b2i_eq0] at c4
          refine ww_run 37 3 (pc' := 71) (lv' := [(4, .int 0), (0, .ref 0), (1, .int (nI N)), (2, .int (nI c)), (3, .int what)]) (st' := [.int what]) (w' := wMv (wiF fr lo fa) ki mo (hoF sty wset wfor) cd sr z1.2.1 z1.1 x1.2.2.2.2.2.1 x1.2.2.2.2.2.2 x1.1 x1.2.1 x1.2.2.1 x1.2.2.2.1 x1.2.2.2.2.1 z1.2.2 (nI P) (nI C) (nI k) lent J K) (Ps := []) rfl trivial ?_
          refine ww_if_ne 40 rfl (tgt := 83) rfl (fun c5 => ?_) (fun c5 => ?_)
          · refine ww_run 46 2 (pc' := 85) (lv' := [(4, .int 0), (0, .ref 0), (1, .int (nI N)), (2, .int (nI c)), (3, .int what)]) (st' := [.int 1, .int what]) (w' := wMv (wiF fr lo fa) ki mo (hoF sty wset wfor) cd sr z1.2.1 z1.1 x1.2.2.2.2.2.1 x1.2.2.2.2.2.2 x1.1 x1.2.1 x1.2.2.1 x1.2.2.2.1 x1.2.2.2.2.1 z1.2.2 (nI P) (nI C) (nI k) lent J K) (Ps := []) rfl trivial ?_
            refine ww_icmp_ne 48 rfl (tgt := 109) rfl (fun c6 => ?_) (fun c6 => ?_)
            · refine ww_run 62 1 (pc' := 111) (lv' := [(4, .int 0), (0, .ref 0), (1, .int (nI N)), (2, .int (nI c)), (3, .int what)]) (st' := [.int 0]) (w' := wMv (wiF fr lo fa) ki mo (hoF sty wset wfor) cd sr z1.2.1 z1.1 x1.2.2.2.2.2.1 x1.2.2.2.2.2.2 x1.1 x1.2.1 x1.2.2.1 x1.2.2.2.1 x1.2.2.2.2.1 z1.2.2 (nI P) (nI C) (nI k) lent J K) (Ps := []) rfl trivial ?_
              refine ww_if_eq 63 rfl (tgt := 118) rfl (fun c7 => ?_) (fun c7 => ?_)
              · refine ww_run 66 1 (pc' := 119) (lv' := [(4, .int 0), (0, .ref 0), (1, .int (nI N)), (2, .int (nI c)), (3, .int what)]) (st' := [.int 0]) (w' := wMv (wiF fr lo fa) ki mo (hoF sty wset wfor) cd sr z1.2.1 z1.1 x1.2.2.2.2.2.1 x1.2.2.2.2.2.2 x1.1 x1.2.1 x1.2.2.1 x1.2.2.2.1 x1.2.2.2.2.1 z1.2.2 (nI P) (nI C) (nI k) lent J K) (Ps := []) rfl trivial ?_
                refine ww_iret 67 rfl rfl ?_
                obtain ⟨b1, b2⟩ := hR1.2 c hc
                exact ⟨by simp only [nI_clamp (n := N) (by omega), nI_clamp (n := c) (by omega)]; rw [if_neg (fun h => h ⟨c1, c2⟩), if_neg (fun h => h c3)]; unfold chS; rw [if_neg c5, if_neg c6]; rw [b2i_f (by rw [← ob_free hC hc hR1 hI1]; grind)], x1, z1, rfl⟩
              · exact absurd c7 (by decide)
            · refine ww_run 49 11 (pc' := 103) (lv' := [(4, .int 0), (0, .ref 0), (1, .int (nI N)), (2, .int (nI c)), (3, .int what)]) (st' := [.int (x1.2.2.2.2.2.1 (nI c).toNatClampNeg), .int 0, .int ((x1.2.2.2.2.2.1 (nI c).toNatClampNeg) - (nI N))]) (w' := wMv (wiF fr lo fa) ki mo (hoF sty wset wfor) cd sr z1.2.1 z1.1 x1.2.2.2.2.2.1 x1.2.2.2.2.2.2 x1.1 x1.2.1 x1.2.2.1 x1.2.2.2.1 x1.2.2.2.2.1 z1.2.2 (nI P) (nI C) (nI k) lent J K) (Ps := [vp_in (nI c) 6, vp_in (nI c) 6]) rfl ⟨(vp_in_nI (by omega) (by omega)), (vp_in_nI (by omega) (by omega)), trivial⟩ ?_
              rw [nI_clamp (n := c) (by omega)]
              refine ww_cSi 60 ok_X7_within (Co.fr0 (c_X7_within ((x1.2.2.2.2.2.1 c) - (nI N)) 0 (x1.2.2.2.2.2.1 c)) rfl) lk_X7_191 rfl (by omega) (rest := []) rfl (Nat.le_of_ble_eq_true rfl) rfl ?_
              refine ww_run 61 1 (pc' := 119) (lv' := [(4, .int 0), (0, .ref 0), (1, .int (nI N)), (2, .int (nI c)), (3, .int what)]) (st' := [.int (mWithin ((x1.2.2.2.2.2.1 c) - (nI N)) 0 (x1.2.2.2.2.2.1 c))]) (w' := wMv (wiF fr lo fa) ki mo (hoF sty wset wfor) cd sr z1.2.1 z1.1 x1.2.2.2.2.2.1 x1.2.2.2.2.2.2 x1.1 x1.2.1 x1.2.2.1 x1.2.2.2.1 x1.2.2.2.2.1 z1.2.2 (nI P) (nI C) (nI k) lent J K) (Ps := []) rfl trivial ?_
              refine ww_iret 67 rfl rfl ?_
              obtain ⟨b1, b2⟩ := hR1.2 c hc
              exact ⟨by simp only [nI_clamp (n := N) (by omega), nI_clamp (n := c) (by omega)]; rw [if_neg (fun h => h ⟨c1, c2⟩), if_neg (fun h => h c3)]; unfold chS; rw [if_neg c5, if_pos c6]; first | rw [b1] | rw [b2], x1, z1, rfl⟩
          · refine ww_run 41 5 (pc' := 119) (lv' := [(4, .int 0), (0, .ref 0), (1, .int (nI N)), (2, .int (nI c)), (3, .int what)]) (st' := [.int (x1.2.2.2.2.2.2 (nI c).toNatClampNeg)]) (w' := wMv (wiF fr lo fa) ki mo (hoF sty wset wfor) cd sr z1.2.1 z1.1 x1.2.2.2.2.2.1 x1.2.2.2.2.2.2 x1.1 x1.2.1 x1.2.2.1 x1.2.2.2.1 x1.2.2.2.2.1 z1.2.2 (nI P) (nI C) (nI k) lent J K) (Ps := [vp_in (nI c) 6]) rfl ⟨(vp_in_nI (by omega) (by omega)), trivial⟩ ?_
            rw [nI_clamp (n := c) (by omega)]
            refine ww_iret 67 rfl rfl ?_
            obtain ⟨b1, b2⟩ := hR1.2 c hc
            exact ⟨by simp only [nI_clamp (n := N) (by omega), nI_clamp (n := c) (by omega)]; rw [if_neg (fun h => h ⟨c1, c2⟩), if_neg (fun h => h c3)]; unfold chS; rw [if_pos c5]; first | rw [b1] | rw [b2], x1, z1, rfl⟩
        · rw [b2i_ne0] at c4
          refine ww_run 24 5 (pc' := 51) (lv' := [(0, .ref 0), (1, .int (nI N)), (2, .int (nI c)), (3, .int what)]) (st' := [.int (-1), .int (x1.2.2.2.2.2.2 (nI c).toNatClampNeg)]) (w' := wMv (wiF fr lo fa) ki mo (hoF sty wset wfor) cd sr z1.2.1 z1.1 x1.2.2.2.2.2.1 x1.2.2.2.2.2.2 x1.1 x1.2.1 x1.2.2.1 x1.2.2.2.1 x1.2.2.2.2.1 z1.2.2 (nI P) (nI C) (nI k) lent J K) (Ps := [vp_in (nI c) 6]) rfl ⟨(vp_in_nI (by omega) (by omega)), trivial⟩ ?_
          rw [nI_clamp (n := c) (by omega)]
          refine ww_icmp_ne 29 rfl (tgt := 67) rfl (fun c8 => ?_) (fun c8 => ?_)
          · refine ww_run 37 3 (pc' := 71) (lv' := [(4, .int 0), (0, .ref 0), (1, .int (nI N)), (2, .int (nI c)), (3, .int what)]) (st' := [.int what]) (w' := wMv (wiF fr lo fa) ki mo (hoF sty wset wfor) cd sr z1.2.1 z1.1 x1.2.2.2.2.2.1 x1.2.2.2.2.2.2 x1.1 x1.2.1 x1.2.2.1 x1.2.2.2.1 x1.2.2.2.2.1 z1.2.2 (nI P) (nI C) (nI k) lent J K) (Ps := []) rfl trivial ?_
            refine ww_if_ne 40 rfl (tgt := 83) rfl (fun c9 => ?_) (fun c9 => ?_)
            · refine ww_run 46 2 (pc' := 85) (lv' := [(4, .int 0), (0, .ref 0), (1, .int (nI N)), (2, .int (nI c)), (3, .int what)]) (st' := [.int 1, .int what]) (w' := wMv (wiF fr lo fa) ki mo (hoF sty wset wfor) cd sr z1.2.1 z1.1 x1.2.2.2.2.2.1 x1.2.2.2.2.2.2 x1.1 x1.2.1 x1.2.2.1 x1.2.2.2.1 x1.2.2.2.2.1 z1.2.2 (nI P) (nI C) (nI k) lent J K) (Ps := []) rfl trivial ?_
              refine ww_icmp_ne 48 rfl (tgt := 109) rfl (fun c10 => ?_) (fun c10 => ?_)
              · refine ww_run 62 1 (pc' := 111) (lv' := [(4, .int 0), (0, .ref 0), (1, .int (nI N)), (2, .int (nI c)), (3, .int what)]) (st' := [.int 0]) (w' := wMv (wiF fr lo fa) ki mo (hoF sty wset wfor) cd sr z1.2.1 z1.1 x1.2.2.2.2.2.1 x1.2.2.2.2.2.2 x1.1 x1.2.1 x1.2.2.1 x1.2.2.2.1 x1.2.2.2.2.1 z1.2.2 (nI P) (nI C) (nI k) lent J K) (Ps := []) rfl trivial ?_
                refine ww_if_eq 63 rfl (tgt := 118) rfl (fun c11 => ?_) (fun c11 => ?_)
                · refine ww_run 66 1 (pc' := 119) (lv' := [(4, .int 0), (0, .ref 0), (1, .int (nI N)), (2, .int (nI c)), (3, .int what)]) (st' := [.int 0]) (w' := wMv (wiF fr lo fa) ki mo (hoF sty wset wfor) cd sr z1.2.1 z1.1 x1.2.2.2.2.2.1 x1.2.2.2.2.2.2 x1.1 x1.2.1 x1.2.2.1 x1.2.2.2.1 x1.2.2.2.2.1 z1.2.2 (nI P) (nI C) (nI k) lent J K) (Ps := []) rfl trivial ?_
                  refine ww_iret 67 rfl rfl ?_
                  obtain ⟨b1, b2⟩ := hR1.2 c hc
                  exact ⟨by simp only [nI_clamp (n := N) (by omega), nI_clamp (n := c) (by omega)]; rw [if_neg (fun h => h ⟨c1, c2⟩), if_neg (fun h => h c3)]; unfold chS; rw [if_neg c9, if_neg c10]; rw [b2i_f (by rw [← ob_free hC hc hR1 hI1]; grind)], x1, z1, rfl⟩
                · exact absurd c11 (by decide)
              · refine ww_run 49 11 (pc' := 103) (lv' := [(4, .int 0), (0, .ref 0), (1, .int (nI N)), (2, .int (nI c)), (3, .int what)]) (st' := [.int (x1.2.2.2.2.2.1 (nI c).toNatClampNeg), .int 0, .int ((x1.2.2.2.2.2.1 (nI c).toNatClampNeg) - (nI N))]) (w' := wMv (wiF fr lo fa) ki mo (hoF sty wset wfor) cd sr z1.2.1 z1.1 x1.2.2.2.2.2.1 x1.2.2.2.2.2.2 x1.1 x1.2.1 x1.2.2.1 x1.2.2.2.1 x1.2.2.2.2.1 z1.2.2 (nI P) (nI C) (nI k) lent J K) (Ps := [vp_in (nI c) 6, vp_in (nI c) 6]) rfl ⟨(vp_in_nI (by omega) (by omega)), (vp_in_nI (by omega) (by omega)), trivial⟩ ?_
                rw [nI_clamp (n := c) (by omega)]
                refine ww_cSi 60 ok_X7_within (Co.fr0 (c_X7_within ((x1.2.2.2.2.2.1 c) - (nI N)) 0 (x1.2.2.2.2.2.1 c)) rfl) lk_X7_191 rfl (by omega) (rest := []) rfl (Nat.le_of_ble_eq_true rfl) rfl ?_
                refine ww_run 61 1 (pc' := 119) (lv' := [(4, .int 0), (0, .ref 0), (1, .int (nI N)), (2, .int (nI c)), (3, .int what)]) (st' := [.int (mWithin ((x1.2.2.2.2.2.1 c) - (nI N)) 0 (x1.2.2.2.2.2.1 c))]) (w' := wMv (wiF fr lo fa) ki mo (hoF sty wset wfor) cd sr z1.2.1 z1.1 x1.2.2.2.2.2.1 x1.2.2.2.2.2.2 x1.1 x1.2.1 x1.2.2.1 x1.2.2.2.1 x1.2.2.2.2.1 z1.2.2 (nI P) (nI C) (nI k) lent J K) (Ps := []) rfl trivial ?_
                refine ww_iret 67 rfl rfl ?_
                obtain ⟨b1, b2⟩ := hR1.2 c hc
                exact ⟨by simp only [nI_clamp (n := N) (by omega), nI_clamp (n := c) (by omega)]; rw [if_neg (fun h => h ⟨c1, c2⟩), if_neg (fun h => h c3)]; unfold chS; rw [if_neg c9, if_pos c10]; first | rw [b1] | rw [b2], x1, z1, rfl⟩
            · refine ww_run 41 5 (pc' := 119) (lv' := [(4, .int 0), (0, .ref 0), (1, .int (nI N)), (2, .int (nI c)), (3, .int what)]) (st' := [.int (x1.2.2.2.2.2.2 (nI c).toNatClampNeg)]) (w' := wMv (wiF fr lo fa) ki mo (hoF sty wset wfor) cd sr z1.2.1 z1.1 x1.2.2.2.2.2.1 x1.2.2.2.2.2.2 x1.1 x1.2.1 x1.2.2.1 x1.2.2.2.1 x1.2.2.2.2.1 z1.2.2 (nI P) (nI C) (nI k) lent J K) (Ps := [vp_in (nI c) 6]) rfl ⟨(vp_in_nI (by omega) (by omega)), trivial⟩ ?_
              rw [nI_clamp (n := c) (by omega)]
              refine ww_iret 67 rfl rfl ?_
              obtain ⟨b1, b2⟩ := hR1.2 c hc
              exact ⟨by simp only [nI_clamp (n := N) (by omega), nI_clamp (n := c) (by omega)]; rw [if_neg (fun h => h ⟨c1, c2⟩), if_neg (fun h => h c3)]; unfold chS; rw [if_pos c9]; first | rw [b1] | rw [b2], x1, z1, rfl⟩
          · refine ww_run 30 3 (pc' := 57) (lv' := [(0, .ref 0), (1, .int (nI N)), (2, .int (nI c)), (3, .int what)]) (st' := [.int (nI N), .int (nI c), .ref 0]) (w' := wMv (wiF fr lo fa) ki mo (hoF sty wset wfor) cd sr z1.2.1 z1.1 x1.2.2.2.2.2.1 x1.2.2.2.2.2.2 x1.1 x1.2.1 x1.2.2.1 x1.2.2.2.1 x1.2.2.2.2.1 z1.2.2 (nI P) (nI C) (nI k) lent J K) (Ps := []) rfl trivial ?_
            refine ww_cVi 33 ok_X7_lets (c_X7_lets (wiF fr lo fa) ki mo (hoF sty wset wfor) cd sr z1.2.1 z1.1 x1.2.2.2.2.2.1 x1.2.2.2.2.2.2 x1.1 x1.2.1 x1.2.2.1 x1.2.2.2.1 x1.2.2.2.2.1 z1.2.2 (nI P) (nI C) (nI k) lent J K c (nI N) (by omega)) lk_X7_214 rfl (by omega) (rest := []) rfl (Nat.le_of_ble_eq_true rfl) rfl rfl rfl rfl ?_
            refine ww_if_eq 34 rfl (tgt := 67) rfl (fun c12 => ?_) (fun c12 => ?_)
            · rw [b2i_eq0] at c12
              refine ww_run 37 3 (pc' := 71) (lv' := [(4, .int 0), (0, .ref 0), (1, .int (nI N)), (2, .int (nI c)), (3, .int what)]) (st' := [.int what]) (w' := wMv (wiF fr lo fa) ki mo (hoF sty wset wfor) cd sr z1.2.1 z1.1 x1.2.2.2.2.2.1 x1.2.2.2.2.2.2 x1.1 x1.2.1 x1.2.2.1 x1.2.2.2.1 x1.2.2.2.2.1 z1.2.2 (nI P) (nI C) (nI k) lent J K) (Ps := []) rfl trivial ?_
              refine ww_if_ne 40 rfl (tgt := 83) rfl (fun c13 => ?_) (fun c13 => ?_)
              · refine ww_run 46 2 (pc' := 85) (lv' := [(4, .int 0), (0, .ref 0), (1, .int (nI N)), (2, .int (nI c)), (3, .int what)]) (st' := [.int 1, .int what]) (w' := wMv (wiF fr lo fa) ki mo (hoF sty wset wfor) cd sr z1.2.1 z1.1 x1.2.2.2.2.2.1 x1.2.2.2.2.2.2 x1.1 x1.2.1 x1.2.2.1 x1.2.2.2.1 x1.2.2.2.2.1 z1.2.2 (nI P) (nI C) (nI k) lent J K) (Ps := []) rfl trivial ?_
                refine ww_icmp_ne 48 rfl (tgt := 109) rfl (fun c14 => ?_) (fun c14 => ?_)
                · refine ww_run 62 1 (pc' := 111) (lv' := [(4, .int 0), (0, .ref 0), (1, .int (nI N)), (2, .int (nI c)), (3, .int what)]) (st' := [.int 0]) (w' := wMv (wiF fr lo fa) ki mo (hoF sty wset wfor) cd sr z1.2.1 z1.1 x1.2.2.2.2.2.1 x1.2.2.2.2.2.2 x1.1 x1.2.1 x1.2.2.1 x1.2.2.2.1 x1.2.2.2.2.1 z1.2.2 (nI P) (nI C) (nI k) lent J K) (Ps := []) rfl trivial ?_
                  refine ww_if_eq 63 rfl (tgt := 118) rfl (fun c15 => ?_) (fun c15 => ?_)
                  · refine ww_run 66 1 (pc' := 119) (lv' := [(4, .int 0), (0, .ref 0), (1, .int (nI N)), (2, .int (nI c)), (3, .int what)]) (st' := [.int 0]) (w' := wMv (wiF fr lo fa) ki mo (hoF sty wset wfor) cd sr z1.2.1 z1.1 x1.2.2.2.2.2.1 x1.2.2.2.2.2.2 x1.1 x1.2.1 x1.2.2.1 x1.2.2.2.1 x1.2.2.2.2.1 z1.2.2 (nI P) (nI C) (nI k) lent J K) (Ps := []) rfl trivial ?_
                    refine ww_iret 67 rfl rfl ?_
                    obtain ⟨b1, b2⟩ := hR1.2 c hc
                    exact ⟨by simp only [nI_clamp (n := N) (by omega), nI_clamp (n := c) (by omega)]; rw [if_neg (fun h => h ⟨c1, c2⟩), if_neg (fun h => h c3)]; unfold chS; rw [if_neg c13, if_neg c14]; rw [b2i_f (by rw [← ob_free hC hc hR1 hI1]; grind)], x1, z1, rfl⟩
                  · exact absurd c15 (by decide)
                · refine ww_run 49 11 (pc' := 103) (lv' := [(4, .int 0), (0, .ref 0), (1, .int (nI N)), (2, .int (nI c)), (3, .int what)]) (st' := [.int (x1.2.2.2.2.2.1 (nI c).toNatClampNeg), .int 0, .int ((x1.2.2.2.2.2.1 (nI c).toNatClampNeg) - (nI N))]) (w' := wMv (wiF fr lo fa) ki mo (hoF sty wset wfor) cd sr z1.2.1 z1.1 x1.2.2.2.2.2.1 x1.2.2.2.2.2.2 x1.1 x1.2.1 x1.2.2.1 x1.2.2.2.1 x1.2.2.2.2.1 z1.2.2 (nI P) (nI C) (nI k) lent J K) (Ps := [vp_in (nI c) 6, vp_in (nI c) 6]) rfl ⟨(vp_in_nI (by omega) (by omega)), (vp_in_nI (by omega) (by omega)), trivial⟩ ?_
                  rw [nI_clamp (n := c) (by omega)]
                  refine ww_cSi 60 ok_X7_within (Co.fr0 (c_X7_within ((x1.2.2.2.2.2.1 c) - (nI N)) 0 (x1.2.2.2.2.2.1 c)) rfl) lk_X7_191 rfl (by omega) (rest := []) rfl (Nat.le_of_ble_eq_true rfl) rfl ?_
                  refine ww_run 61 1 (pc' := 119) (lv' := [(4, .int 0), (0, .ref 0), (1, .int (nI N)), (2, .int (nI c)), (3, .int what)]) (st' := [.int (mWithin ((x1.2.2.2.2.2.1 c) - (nI N)) 0 (x1.2.2.2.2.2.1 c))]) (w' := wMv (wiF fr lo fa) ki mo (hoF sty wset wfor) cd sr z1.2.1 z1.1 x1.2.2.2.2.2.1 x1.2.2.2.2.2.2 x1.1 x1.2.1 x1.2.2.1 x1.2.2.2.1 x1.2.2.2.2.1 z1.2.2 (nI P) (nI C) (nI k) lent J K) (Ps := []) rfl trivial ?_
                  refine ww_iret 67 rfl rfl ?_
                  obtain ⟨b1, b2⟩ := hR1.2 c hc
                  exact ⟨by simp only [nI_clamp (n := N) (by omega), nI_clamp (n := c) (by omega)]; rw [if_neg (fun h => h ⟨c1, c2⟩), if_neg (fun h => h c3)]; unfold chS; rw [if_neg c13, if_pos c14]; first | rw [b1] | rw [b2], x1, z1, rfl⟩
              · refine ww_run 41 5 (pc' := 119) (lv' := [(4, .int 0), (0, .ref 0), (1, .int (nI N)), (2, .int (nI c)), (3, .int what)]) (st' := [.int (x1.2.2.2.2.2.2 (nI c).toNatClampNeg)]) (w' := wMv (wiF fr lo fa) ki mo (hoF sty wset wfor) cd sr z1.2.1 z1.1 x1.2.2.2.2.2.1 x1.2.2.2.2.2.2 x1.1 x1.2.1 x1.2.2.1 x1.2.2.2.1 x1.2.2.2.2.1 z1.2.2 (nI P) (nI C) (nI k) lent J K) (Ps := [vp_in (nI c) 6]) rfl ⟨(vp_in_nI (by omega) (by omega)), trivial⟩ ?_
                rw [nI_clamp (n := c) (by omega)]
                refine ww_iret 67 rfl rfl ?_
                obtain ⟨b1, b2⟩ := hR1.2 c hc
                exact ⟨by simp only [nI_clamp (n := N) (by omega), nI_clamp (n := c) (by omega)]; rw [if_neg (fun h => h ⟨c1, c2⟩), if_neg (fun h => h c3)]; unfold chS; rw [if_pos c13]; first | rw [b1] | rw [b2], x1, z1, rfl⟩
            · rw [b2i_ne0] at c12
              refine ww_run 35 2 (pc' := 68) (lv' := [(0, .ref 0), (1, .int (nI N)), (2, .int (nI c)), (3, .int what)]) (st' := [.int 1]) (w' := wMv (wiF fr lo fa) ki mo (hoF sty wset wfor) cd sr z1.2.1 z1.1 x1.2.2.2.2.2.1 x1.2.2.2.2.2.2 x1.1 x1.2.1 x1.2.2.1 x1.2.2.2.1 x1.2.2.2.2.1 z1.2.2 (nI P) (nI C) (nI k) lent J K) (Ps := []) rfl trivial ?_
              refine ww_run 38 2 (pc' := 71) (lv' := [(4, .int 1), (0, .ref 0), (1, .int (nI N)), (2, .int (nI c)), (3, .int what)]) (st' := [.int what]) (w' := wMv (wiF fr lo fa) ki mo (hoF sty wset wfor) cd sr z1.2.1 z1.1 x1.2.2.2.2.2.1 x1.2.2.2.2.2.2 x1.1 x1.2.1 x1.2.2.1 x1.2.2.2.1 x1.2.2.2.2.1 z1.2.2 (nI P) (nI C) (nI k) lent J K) (Ps := []) rfl trivial ?_
              refine ww_if_ne 40 rfl (tgt := 83) rfl (fun c16 => ?_) (fun c16 => ?_)
              · refine ww_run 46 2 (pc' := 85) (lv' := [(4, .int 1), (0, .ref 0), (1, .int (nI N)), (2, .int (nI c)), (3, .int what)]) (st' := [.int 1, .int what]) (w' := wMv (wiF fr lo fa) ki mo (hoF sty wset wfor) cd sr z1.2.1 z1.1 x1.2.2.2.2.2.1 x1.2.2.2.2.2.2 x1.1 x1.2.1 x1.2.2.1 x1.2.2.2.1 x1.2.2.2.2.1 z1.2.2 (nI P) (nI C) (nI k) lent J K) (Ps := []) rfl trivial ?_
                refine ww_icmp_ne 48 rfl (tgt := 109) rfl (fun c17 => ?_) (fun c17 => ?_)
                · refine ww_run 62 1 (pc' := 111) (lv' := [(4, .int 1), (0, .ref 0), (1, .int (nI N)), (2, .int (nI c)), (3, .int what)]) (st' := [.int 1]) (w' := wMv (wiF fr lo fa) ki mo (hoF sty wset wfor) cd sr z1.2.1 z1.1 x1.2.2.2.2.2.1 x1.2.2.2.2.2.2 x1.1 x1.2.1 x1.2.2.1 x1.2.2.2.1 x1.2.2.2.2.1 z1.2.2 (nI P) (nI C) (nI k) lent J K) (Ps := []) rfl trivial ?_
                  refine ww_if_eq 63 rfl (tgt := 118) rfl (fun c18 => ?_) (fun c18 => ?_)
                  · exact absurd c18 (by decide)
                  · refine ww_run 64 2 (pc' := 119) (lv' := [(4, .int 1), (0, .ref 0), (1, .int (nI N)), (2, .int (nI c)), (3, .int what)]) (st' := [.int 1]) (w' := wMv (wiF fr lo fa) ki mo (hoF sty wset wfor) cd sr z1.2.1 z1.1 x1.2.2.2.2.2.1 x1.2.2.2.2.2.2 x1.1 x1.2.1 x1.2.2.1 x1.2.2.2.1 x1.2.2.2.2.1 z1.2.2 (nI P) (nI C) (nI k) lent J K) (Ps := []) rfl trivial ?_
                    refine ww_iret 67 rfl rfl ?_
                    obtain ⟨b1, b2⟩ := hR1.2 c hc
                    exact ⟨by simp only [nI_clamp (n := N) (by omega), nI_clamp (n := c) (by omega)]; rw [if_neg (fun h => h ⟨c1, c2⟩), if_neg (fun h => h c3)]; unfold chS; rw [if_neg c16, if_neg c17]; rw [b2i_t (by rw [← ob_free hC hc hR1 hI1]; grind)], x1, z1, rfl⟩
                · refine ww_run 49 11 (pc' := 103) (lv' := [(4, .int 1), (0, .ref 0), (1, .int (nI N)), (2, .int (nI c)), (3, .int what)]) (st' := [.int (x1.2.2.2.2.2.1 (nI c).toNatClampNeg), .int 0, .int ((x1.2.2.2.2.2.1 (nI c).toNatClampNeg) - (nI N))]) (w' := wMv (wiF fr lo fa) ki mo (hoF sty wset wfor) cd sr z1.2.1 z1.1 x1.2.2.2.2.2.1 x1.2.2.2.2.2.2 x1.1 x1.2.1 x1.2.2.1 x1.2.2.2.1 x1.2.2.2.2.1 z1.2.2 (nI P) (nI C) (nI k) lent J K) (Ps := [vp_in (nI c) 6, vp_in (nI c) 6]) rfl ⟨(vp_in_nI (by omega) (by omega)), (vp_in_nI (by omega) (by omega)), trivial⟩ ?_
                  rw [nI_clamp (n := c) (by omega)]
                  refine ww_cSi 60 ok_X7_within (Co.fr0 (c_X7_within ((x1.2.2.2.2.2.1 c) - (nI N)) 0 (x1.2.2.2.2.2.1 c)) rfl) lk_X7_191 rfl (by omega) (rest := []) rfl (Nat.le_of_ble_eq_true rfl) rfl ?_
                  refine ww_run 61 1 (pc' := 119) (lv' := [(4, .int 1), (0, .ref 0), (1, .int (nI N)), (2, .int (nI c)), (3, .int what)]) (st' := [.int (mWithin ((x1.2.2.2.2.2.1 c) - (nI N)) 0 (x1.2.2.2.2.2.1 c))]) (w' := wMv (wiF fr lo fa) ki mo (hoF sty wset wfor) cd sr z1.2.1 z1.1 x1.2.2.2.2.2.1 x1.2.2.2.2.2.2 x1.1 x1.2.1 x1.2.2.1 x1.2.2.2.1 x1.2.2.2.2.1 z1.2.2 (nI P) (nI C) (nI k) lent J K) (Ps := []) rfl trivial ?_
                  refine ww_iret 67 rfl rfl ?_
                  obtain ⟨b1, b2⟩ := hR1.2 c hc
                  exact ⟨by simp only [nI_clamp (n := N) (by omega), nI_clamp (n := c) (by omega)]; rw [if_neg (fun h => h ⟨c1, c2⟩), if_neg (fun h => h c3)]; unfold chS; rw [if_neg c16, if_pos c17]; first | rw [b1] | rw [b2], x1, z1, rfl⟩
              · refine ww_run 41 5 (pc' := 119) (lv' := [(4, .int 1), (0, .ref 0), (1, .int (nI N)), (2, .int (nI c)), (3, .int what)]) (st' := [.int (x1.2.2.2.2.2.2 (nI c).toNatClampNeg)]) (w' := wMv (wiF fr lo fa) ki mo (hoF sty wset wfor) cd sr z1.2.1 z1.1 x1.2.2.2.2.2.1 x1.2.2.2.2.2.2 x1.1 x1.2.1 x1.2.2.1 x1.2.2.2.1 x1.2.2.2.2.1 z1.2.2 (nI P) (nI C) (nI k) lent J K) (Ps := [vp_in (nI c) 6]) rfl ⟨(vp_in_nI (by omega) (by omega)), trivial⟩ ?_
                rw [nI_clamp (n := c) (by omega)]
                refine ww_iret 67 rfl rfl ?_
                obtain ⟨b1, b2⟩ := hR1.2 c hc
                exact ⟨by simp only [nI_clamp (n := N) (by omega), nI_clamp (n := c) (by omega)]; rw [if_neg (fun h => h ⟨c1, c2⟩), if_neg (fun h => h c3)]; unfold chS; rw [if_pos c16]; first | rw [b1] | rw [b2], x1, z1, rfl⟩
      · rw [b2i_eq0] at c3
        refine ww_run 14 1 (pc' := 29) (lv' := [(0, .ref 0), (1, .int (nI N)), (2, .int (nI c)), (3, .int what)]) (st' := [.int (-7)]) (w' := wMv (wiF fr lo fa) ki mo (hoF sty wset wfor) cd sr z.2.1 z.1 x.2.2.2.2.2.1 x.2.2.2.2.2.2 x.1 x.2.1 x.2.2.1 x.2.2.2.1 x.2.2.2.2.1 z.2.2 (nI P) (nI C) (nI k) lent J K) (Ps := []) rfl trivial ?_
        refine ww_iret 15 rfl rfl ?_
        exact ⟨by rw [if_neg (fun h => h ⟨c1, c2⟩), if_pos c3], x, z, rfl⟩
    · rw [b2i_eq0] at c2
      refine ww_run 7 1 (pc' := 17) (lv' := [(0, .ref 0), (1, .int nn), (2, .int cc), (3, .int what)]) (st' := [.int (-5)]) (w' := wMv (wiF fr lo fa) ki mo (hoF sty wset wfor) cd sr z.2.1 z.1 x.2.2.2.2.2.1 x.2.2.2.2.2.2 x.1 x.2.1 x.2.2.1 x.2.2.2.1 x.2.2.2.2.1 z.2.2 (nI P) (nI C) (nI k) lent J K) (Ps := []) rfl trivial ?_
      refine ww_iret 8 rfl rfl ?_
      exact ⟨by rw [if_pos (fun h => c2 h.2)], x, z, rfl⟩
def coS (sy : SY) (k P : Nat) (fa : Nat → Int32) (s : ES) : Int32 := sumTo (fun q => sy k 2 (nm6 (fa q) 0 (mWithin (s.2.2.1 q) 0 9) (s.2.2.2.1 q) 30 (nI q))) P
def alS (sy : SY) (k P C : Nat) (fa ki : Nat → Int32) (s : ES) (m what : Int32) : Int32 := if what = 0 then riS s else if what = 1 then stS P s else if what = 2 then o2i (bestOf (fun _ => true) (fun p b => decide (s.2.2.2.1 b < s.2.2.2.1 p)) P) else if what = 3 then setOf (fun c => decide (eWarm ki s.2.2.2.2.2.1 s.2.2.2.2.2.2.2.1 c m)) C else if what = 4 then s.2.2.2.2.2.2.2.1 else if what = 5 then coS sy k P fa s else -7
set_option maxHeartbeats 4000000 in
set_option maxRecDepth 100000 in
theorem m_all (ki mo cd sr : Nat → Int32) (lent : Int32) (J : Nat → Int32) (K : Nat → Nat → Int32) (fr lo fa : Nat → Int32) (sty wset wfor : Int32) (x : MS) (z : Z3) (sy : SY) (T P C k : Nat) (hP : P ≤ 5) (hC : C ≤ 6) (hk : k < T) (hL : ML cd sr T sy) (hmo : MO6 mo) (nn what : Int32) : Co M_X7_all 7 0 0 [.ref 0, .int nn, .int what] (wMv (wiF fr lo fa) ki mo (hoF sty wset wfor) cd sr z.2.1 z.1 x.2.2.2.2.2.1 x.2.2.2.2.2.2 x.1 x.2.1 x.2.2.1 x.2.2.2.1 x.2.2.2.2.1 z.2.2 (nI P) (nI C) (nI k) lent J K) (fun r w' => r = some (.int (if ¬ mIn nn 0 30 then -5 else alS sy k P C fa ki (evS sy P C fr lo fa ki mo k sty wset wfor lent nn.toNatClampNeg) nn what)) ∧ ∃ (x : MS) (z : Z3), w' = wMv (wiF fr lo fa) ki mo (hoF sty wset wfor) cd sr z.2.1 z.1 x.2.2.2.2.2.1 x.2.2.2.2.2.2 x.1 x.2.1 x.2.2.1 x.2.2.2.1 x.2.2.2.2.1 z.2.2 (nI P) (nI C) (nI k) lent J K) := by
  refine Co.of ok_X7_all rfl ?_
  refine ww_run 0 1 (pc' := 1) (lv' := [(0, .ref 0), (1, .int nn), (2, .int what)]) (st' := [.int nn]) (w' := wMv (wiF fr lo fa) ki mo (hoF sty wset wfor) cd sr z.2.1 z.1 x.2.2.2.2.2.1 x.2.2.2.2.2.2 x.1 x.2.1 x.2.2.1 x.2.2.2.1 x.2.2.2.2.1 z.2.2 (nI P) (nI C) (nI k) lent J K) (Ps := []) rfl trivial ?_
  refine ww_cSi 1 ok_X7_isMany (Co.fr0 (c_X7_isMany nn) rfl) lk_X7_235 rfl (by omega) (rest := []) rfl (Nat.le_of_ble_eq_true rfl) rfl ?_
  refine ww_if_ne 2 rfl (tgt := 10) rfl (fun c1 => ?_) (fun c1 => ?_)
  · rw [b2i_ne0] at c1
    obtain ⟨N, hN, rfl⟩ := many_nI c1
    refine ww_run 5 2 (pc' := 12) (lv' := [(0, .ref 0), (1, .int (nI N)), (2, .int what)]) (st' := [.int (nI N), .ref 0]) (w' := wMv (wiF fr lo fa) ki mo (hoF sty wset wfor) cd sr z.2.1 z.1 x.2.2.2.2.2.1 x.2.2.2.2.2.2 x.1 x.2.1 x.2.2.1 x.2.2.2.1 x.2.2.2.2.1 z.2.2 (nI P) (nI C) (nI k) lent J K) (Ps := []) rfl trivial ?_
    refine ww_cV 7 ok_X7_lives (m_lives ki mo cd sr lent J K fr lo fa sty wset wfor x z sy T P C k hP hC hk hL hmo N (by omega)) lk_X7_238 rfl (by omega) (rest := []) rfl (Nat.le_of_ble_eq_true rfl) rfl rfl rfl rfl (fun r w' hq => ?_)
    obtain ⟨rfl, x1, z1, hR1, rfl⟩ := hq
    have hI1 : INV P C (evS sy P C fr lo fa ki mo k sty wset wfor lent N) := evS_inv hL.2.1 hP hC hmo (by omega)
    refine ww_run 8 1 (pc' := 16) (lv' := [(0, .ref 0), (1, .int (nI N)), (2, .int what)]) (st' := [.int what]) (w' := wMv (wiF fr lo fa) ki mo (hoF sty wset wfor) cd sr z1.2.1 z1.1 x1.2.2.2.2.2.1 x1.2.2.2.2.2.2 x1.1 x1.2.1 x1.2.2.1 x1.2.2.2.1 x1.2.2.2.2.1 z1.2.2 (nI P) (nI C) (nI k) lent J K) (Ps := []) rfl trivial ?_
    by_cases q0 : what = 0
    · refine ww_tabI 9 rfl (by rw [q0]; decide) (by rw [q0]; decide) (off := 40) (by rw [q0]; rfl) (tgt := 56) rfl ?_
      refine ww_run 10 1 (pc' := 57) (lv' := [(0, .ref 0), (1, .int (nI N)), (2, .int what)]) (st' := [.ref 0]) (w' := wMv (wiF fr lo fa) ki mo (hoF sty wset wfor) cd sr z1.2.1 z1.1 x1.2.2.2.2.2.1 x1.2.2.2.2.2.2 x1.1 x1.2.1 x1.2.2.1 x1.2.2.2.1 x1.2.2.2.2.1 z1.2.2 (nI P) (nI C) (nI k) lent J K) (Ps := []) rfl trivial ?_
      refine ww_cVi 11 ok_X7_risen (c_X7_risen (wiF fr lo fa) ki mo (hoF sty wset wfor) cd sr z1.2.1 z1.1 x1.2.2.2.2.2.1 x1.2.2.2.2.2.2 x1.1 x1.2.1 x1.2.2.1 x1.2.2.2.1 x1.2.2.2.2.1 z1.2.2 (nI C) (nI k) lent J K P hP) lk_X7_241 rfl (by omega) (rest := []) rfl (Nat.le_of_ble_eq_true rfl) rfl rfl rfl rfl ?_
      rw [ob_risen hR1 hI1]
      refine ww_iret 12 rfl rfl ?_
      exact ⟨by simp only [nI_clamp (n := N) (by omega)]; rw [if_neg (fun h => h c1)]; unfold alS; simp [*], x1, z1, rfl⟩
    by_cases q1 : what = 1
    · refine ww_tabI 9 rfl (by rw [q1]; decide) (by rw [q1]; decide) (off := 45) (by rw [q1]; rfl) (tgt := 61) rfl ?_
      refine ww_run 13 1 (pc' := 62) (lv' := [(0, .ref 0), (1, .int (nI N)), (2, .int what)]) (st' := [.ref 0]) (w' := wMv (wiF fr lo fa) ki mo (hoF sty wset wfor) cd sr z1.2.1 z1.1 x1.2.2.2.2.2.1 x1.2.2.2.2.2.2 x1.1 x1.2.1 x1.2.2.1 x1.2.2.2.1 x1.2.2.2.2.1 z1.2.2 (nI P) (nI C) (nI k) lent J K) (Ps := []) rfl trivial ?_
      refine ww_cVi 14 ok_X7_stoodAll (c_X7_stoodAll (wiF fr lo fa) ki mo (hoF sty wset wfor) cd sr z1.2.1 z1.1 x1.2.2.2.2.2.1 x1.2.2.2.2.2.2 x1.1 x1.2.1 x1.2.2.1 x1.2.2.2.1 x1.2.2.2.2.1 z1.2.2 (nI C) (nI k) lent J K P hP) lk_X7_244 rfl (by omega) (rest := []) rfl (Nat.le_of_ble_eq_true rfl) rfl rfl rfl rfl ?_
      rw [ob_stood hR1]
      refine ww_iret 15 rfl rfl ?_
      exact ⟨by simp only [nI_clamp (n := N) (by omega)]; rw [if_neg (fun h => h c1)]; unfold alS; simp [*], x1, z1, rfl⟩
    by_cases q2 : what = 2
    · refine ww_tabI 9 rfl (by rw [q2]; decide) (by rw [q2]; decide) (off := 50) (by rw [q2]; rfl) (tgt := 66) rfl ?_
      refine ww_run 16 1 (pc' := 67) (lv' := [(0, .ref 0), (1, .int (nI N)), (2, .int what)]) (st' := [.ref 0]) (w' := wMv (wiF fr lo fa) ki mo (hoF sty wset wfor) cd sr z1.2.1 z1.1 x1.2.2.2.2.2.1 x1.2.2.2.2.2.2 x1.1 x1.2.1 x1.2.2.1 x1.2.2.2.1 x1.2.2.2.2.1 z1.2.2 (nI P) (nI C) (nI k) lent J K) (Ps := []) rfl trivial ?_
      refine ww_cVi 17 ok_X7_longest (c_X7_longest (wiF fr lo fa) ki mo (hoF sty wset wfor) cd sr z1.2.1 z1.1 x1.2.2.2.2.2.1 x1.2.2.2.2.2.2 x1.1 x1.2.1 x1.2.2.1 x1.2.2.2.1 x1.2.2.2.2.1 z1.2.2 (nI C) (nI k) lent J K P hP) lk_X7_247 rfl (by omega) (rest := []) rfl (Nat.le_of_ble_eq_true rfl) rfl rfl rfl rfl ?_
      rw [ob_longest hR1]
      refine ww_iret 18 rfl rfl ?_
      exact ⟨by simp only [nI_clamp (n := N) (by omega)]; rw [if_neg (fun h => h c1)]; unfold alS; simp [*], x1, z1, rfl⟩
    by_cases q3 : what = 3
    · refine ww_tabI 9 rfl (by rw [q3]; decide) (by rw [q3]; decide) (off := 55) (by rw [q3]; rfl) (tgt := 71) rfl ?_
      refine ww_run 19 2 (pc' := 73) (lv' := [(0, .ref 0), (1, .int (nI N)), (2, .int what)]) (st' := [.int (nI N), .ref 0]) (w' := wMv (wiF fr lo fa) ki mo (hoF sty wset wfor) cd sr z1.2.1 z1.1 x1.2.2.2.2.2.1 x1.2.2.2.2.2.2 x1.1 x1.2.1 x1.2.2.1 x1.2.2.2.1 x1.2.2.2.2.1 z1.2.2 (nI P) (nI C) (nI k) lent J K) (Ps := []) rfl trivial ?_
      refine ww_cVi 21 ok_X7_warmIn (c_X7_warmIn (wiF fr lo fa) ki mo (hoF sty wset wfor) cd sr z1.2.1 z1.1 x1.2.2.2.2.2.1 x1.2.2.2.2.2.2 x1.1 x1.2.1 x1.2.2.1 x1.2.2.2.1 x1.2.2.2.2.1 z1.2.2 (nI P) (nI k) lent J K (nI N) C hC) lk_X7_250 rfl (by omega) (rest := []) rfl (Nat.le_of_ble_eq_true rfl) rfl rfl rfl rfl ?_
      rw [ob_warmIn hC hR1 hI1]
      refine ww_iret 22 rfl rfl ?_
      exact ⟨by simp only [nI_clamp (n := N) (by omega)]; rw [if_neg (fun h => h c1)]; unfold alS; simp [*], x1, z1, rfl⟩
    by_cases q4 : what = 4
    · refine ww_tabI 9 rfl (by rw [q4]; decide) (by rw [q4]; decide) (off := 61) (by rw [q4]; rfl) (tgt := 77) rfl ?_
      refine ww_run 23 1 (pc' := 78) (lv' := [(0, .ref 0), (1, .int (nI N)), (2, .int what)]) (st' := [.ref 0]) (w' := wMv (wiF fr lo fa) ki mo (hoF sty wset wfor) cd sr z1.2.1 z1.1 x1.2.2.2.2.2.1 x1.2.2.2.2.2.2 x1.1 x1.2.1 x1.2.2.1 x1.2.2.2.1 x1.2.2.2.2.1 z1.2.2 (nI P) (nI C) (nI k) lent J K) (Ps := []) rfl trivial ?_
      refine ww_cVi 24 ok_X7_satOn (c_X7_satOn (wiF fr lo fa) ki mo (hoF sty wset wfor) cd sr z1.2.1 z1.1 x1.2.2.2.2.2.1 x1.2.2.2.2.2.2 x1.1 x1.2.1 x1.2.2.1 x1.2.2.2.1 x1.2.2.2.2.1 z1.2.2 (nI P) (nI k) lent J K C hC) lk_X7_253 rfl (by omega) (rest := []) rfl (Nat.le_of_ble_eq_true rfl) rfl rfl rfl rfl ?_
      rw [ob_satOn hC hR1 hI1]
      refine ww_iret 25 rfl rfl ?_
      exact ⟨by simp only [nI_clamp (n := N) (by omega)]; rw [if_neg (fun h => h c1)]; unfold alS; simp [*], x1, z1, rfl⟩
    by_cases q5 : what = 5
    · refine ww_tabI 9 rfl (by rw [q5]; decide) (by rw [q5]; decide) (off := 66) (by rw [q5]; rfl) (tgt := 82) rfl ?_
      refine ww_run 26 1 (pc' := 83) (lv' := [(0, .ref 0), (1, .int (nI N)), (2, .int what)]) (st' := [.ref 0]) (w' := wMv (wiF fr lo fa) ki mo (hoF sty wset wfor) cd sr z1.2.1 z1.1 x1.2.2.2.2.2.1 x1.2.2.2.2.2.2 x1.1 x1.2.1 x1.2.2.1 x1.2.2.2.1 x1.2.2.2.2.1 z1.2.2 (nI P) (nI C) (nI k) lent J K) (Ps := []) rfl trivial ?_
      obtain ⟨e, hE, hS⟩ := hL.2.2 k hk
      refine ww_cV 27 ok_X7_costs (c_X7_costs ki mo (hoF sty wset wfor) cd sr z1.2.1 z1.1 x1.2.2.2.2.2.1 x1.2.2.2.2.2.2 x1.1 x1.2.1 x1.2.2.1 x1.2.2.2.1 x1.2.2.2.2.1 z1.2.2 (nI C) lent J K fr lo fa P k e hP hE) lk_X7_256 rfl (by omega) (rest := []) rfl (Nat.le_of_ble_eq_true rfl) rfl rfl rfl rfl (fun r w' hq => ?_)
      obtain ⟨rfl, n2, s2, rfl⟩ := hq
      have hco : sumTo (fun q => sayM cd k e 2 (nm6 (fa q) 0 (mWithin (x1.2.2.1 q) 0 9) (x1.2.2.2.1 q) 30 (nI q))) P = coS sy k P fa (evS sy P C fr lo fa ki mo k sty wset wfor lent N) := sumTo_congr (fun q hq => by rw [hS 2 (by omega), (hR1.1 q hq).2.2.1, (hR1.1 q hq).2.2.2.1])
      simp only [Option.toList, List.cons_append, List.nil_append, hco]
      refine ww_iret 28 rfl rfl ?_
      exact ⟨by simp only [nI_clamp (n := N) (by omega)]; rw [if_neg (fun h => h c1)]; unfold alS; simp [*], x1, (n2, s2, z1.2.2), rfl⟩
    refine ww_tabO 9 rfl (by have z0 := lv_neT q0 (a := 0) rfl; have z1 := lv_neT q1 (a := 1) rfl; have z2 := lv_neT q2 (a := 2) rfl; have z3 := lv_neT q3 (a := 3) rfl; have z4 := lv_neT q4 (a := 4) rfl; have z5 := lv_neT q5 (a := 5) rfl; omega) (tgt := 87) rfl ?_
    refine ww_run 29 1 (pc' := 89) (lv' := [(0, .ref 0), (1, .int (nI N)), (2, .int what)]) (st' := [.int (-7)]) (w' := wMv (wiF fr lo fa) ki mo (hoF sty wset wfor) cd sr z1.2.1 z1.1 x1.2.2.2.2.2.1 x1.2.2.2.2.2.2 x1.1 x1.2.1 x1.2.2.1 x1.2.2.2.1 x1.2.2.2.2.1 z1.2.2 (nI P) (nI C) (nI k) lent J K) (Ps := []) rfl trivial ?_
    refine ww_iret 30 rfl rfl ?_
    exact ⟨by simp only [nI_clamp (n := N) (by omega)]; rw [if_neg (fun h => h c1)]; unfold alS; simp [*], x1, z1, rfl⟩
  · rw [b2i_eq0] at c1
    refine ww_run 3 1 (pc' := 9) (lv' := [(0, .ref 0), (1, .int nn), (2, .int what)]) (st' := [.int (-5)]) (w' := wMv (wiF fr lo fa) ki mo (hoF sty wset wfor) cd sr z.2.1 z.1 x.2.2.2.2.2.1 x.2.2.2.2.2.2 x.1 x.2.1 x.2.2.1 x.2.2.2.1 x.2.2.2.2.1 z.2.2 (nI P) (nI C) (nI k) lent J K) (Ps := []) rfl trivial ?_
    refine ww_iret 4 rfl rfl ?_
    exact ⟨by rw [if_pos c1], x, z, rfl⟩
