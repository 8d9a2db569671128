theorem many_nI {x : Int32} (h : mIn x 0 30) : ∃ N : Nat, N ≤ 30 ∧ x = nI N := nI_of2 (M := 30) (n := 30) rfl (Int32.not_lt.mpr h.1) h.2
theorem one_nI {x : Int32} {P : Nat} (hP : P ≤ 6) (h : mIn x 0 (nI P - 1)) : ∃ p : Nat, p < P ∧ x = nI p := by
  have h2 := vp_mIn h (Nat.le_refl P) (by omega)
  obtain ⟨j, hj, e⟩ := vp_in_of h2 (by omega)
  exact ⟨j, hj, e⟩
set_option maxHeartbeats 4000000 in
set_option maxRecDepth 100000 in
theorem c_X7_of (ki mo cd sr stk names till sitter on was sat stood rose turn : Nat → Int32) (lent : Int32) (J : Nat → Int32) (K : Nat → Nat → Int32) (fr lo fa : Nat → Int32) (sty wset wfor : Int32) (P C k : Nat) (e : Nat → Nat) (hP : P ≤ 5) (hC : C ≤ 6) (hL : MLX cd sr k e) (nn pp what : Int32) : Co M_X7_of 7 0 0 [.ref 0, .int nn, .int pp, .int what] (wMv (wiF fr lo fa) ki mo (hoF sty wset wfor) cd sr stk names till sitter on was sat stood rose turn (nI P) (nI C) (nI k) lent J K) (fun r w' => r = some (.int (if ¬ (mIn nn 0 30 ∧ mIn pp 0 (nI P - 1)) then -5 else if ¬ mIn what 0 4 then -7 else if what = 0 then (mLive P C fr lo fa ki mo (sayM cd k e) lent sty nn.toNatClampNeg 0 (mStart P C wset wfor (on, was, sat, stood, rose, till, sitter))).1 pp.toNatClampNeg else if what = 1 then (mLive P C fr lo fa ki mo (sayM cd k e) lent sty nn.toNatClampNeg 0 (mStart P C wset wfor (on, was, sat, stood, rose, till, sitter))).2.2.1 pp.toNatClampNeg else if what = 2 then (mLive P C fr lo fa ki mo (sayM cd k e) lent sty nn.toNatClampNeg 0 (mStart P C wset wfor (on, was, sat, stood, rose, till, sitter))).2.2.2.1 pp.toNatClampNeg else if what = 3 then (mLive P C fr lo fa ki mo (sayM cd k e) lent sty nn.toNatClampNeg 0 (mStart P C wset wfor (on, was, sat, stood, rose, till, sitter))).2.2.2.2.1 pp.toNatClampNeg else (mLive P C fr lo fa ki mo (sayM cd k e) lent sty nn.toNatClampNeg 0 (mStart P C wset wfor (on, was, sat, stood, rose, till, sitter))).2.1 pp.toNatClampNeg)) ∧ ∃ (x : MS) (n1 s1 t1 : Nat → Int32), w' = wMv (wiF fr lo fa) ki mo (hoF sty wset wfor) cd sr s1 n1 x.2.2.2.2.2.1 x.2.2.2.2.2.2 x.1 x.2.1 x.2.2.1 x.2.2.2.1 x.2.2.2.2.1 t1 (nI P) (nI C) (nI k) lent J K) := by
  refine Co.of ok_X7_of rfl ?_
  refine ww_run 0 1 (pc' := 1) (lv' := [(0, .ref 0), (1, .int nn), (2, .int pp), (3, .int what)]) (st' := [.int nn]) (w' := wMv (wiF fr lo fa) ki mo (hoF sty wset wfor) cd sr stk names till sitter on was sat stood rose turn (nI P) (nI C) (nI k) lent J K) (Ps := []) rfl trivial ?_
  refine ww_cSi 1 ok_X7_isMany (Co.fr0 (c_X7_isMany nn) rfl) lk_X7_235 rfl (by omega) (rest := []) rfl (Nat.le_of_ble_eq_true rfl) rfl ?_
  refine ww_if_eq 2 rfl (tgt := 15) rfl (fun c1 => ?_) (fun c1 => ?_)
  · rw [b2i_eq0] at c1
    refine ww_run 7 1 (pc' := 17) (lv' := [(0, .ref 0), (1, .int nn), (2, .int pp), (3, .int what)]) (st' := [.int (-5)]) (w' := wMv (wiF fr lo fa) ki mo (hoF sty wset wfor) cd sr stk names till sitter on was sat stood rose turn (nI P) (nI C) (nI k) lent J K) (Ps := []) rfl trivial ?_
    refine ww_iret 8 rfl rfl ?_
    exact ⟨by rw [if_pos (fun h => c1 h.1)], (on, was, sat, stood, rose, till, sitter), _, _, _, rfl⟩
  · rw [b2i_ne0] at c1
    refine ww_run 3 2 (pc' := 9) (lv' := [(0, .ref 0), (1, .int nn), (2, .int pp), (3, .int what)]) (st' := [.int pp, .ref 0]) (w' := wMv (wiF fr lo fa) ki mo (hoF sty wset wfor) cd sr stk names till sitter on was sat stood rose turn (nI P) (nI C) (nI k) lent J K) (Ps := []) rfl trivial ?_
    refine ww_cVi 5 ok_X7_isOne (c_X7_isOne (wiF fr lo fa) ki mo (hoF sty wset wfor) cd sr stk names till sitter on was sat stood rose turn (nI P) (nI C) (nI k) lent J K pp) lk_X7_115 rfl (by omega) (rest := []) rfl (Nat.le_of_ble_eq_true rfl) rfl rfl rfl rfl ?_
    refine ww_if_ne 6 rfl (tgt := 18) rfl (fun c2 => ?_) (fun c2 => ?_)
    · rw [b2i_ne0] at c2
      obtain ⟨N, hN, rfl⟩ := many_nI c1
      obtain ⟨p, hp, rfl⟩ := one_nI (by omega) c2
      refine ww_run 9 3 (pc' := 21) (lv' := [(0, .ref 0), (1, .int (nI N)), (2, .int (nI p)), (3, .int what)]) (st' := [.int 4, .int 0, .int what]) (w' := wMv (wiF fr lo fa) ki mo (hoF sty wset wfor) cd sr stk names till sitter on was sat stood rose turn (nI P) (nI C) (nI k) lent J K) (Ps := []) rfl trivial ?_
      refine ww_cSi 12 ok_X7_in (Co.fr0 (c_X7_in what 0 4) rfl) lk_X7_108 rfl (by omega) (rest := []) rfl (Nat.le_of_ble_eq_true rfl) rfl ?_
      refine ww_if_ne 13 rfl (tgt := 30) rfl (fun c3 => ?_) (fun c3 => ?_)
      · rw [b2i_ne0] at c3
        refine ww_run 16 2 (pc' := 32) (lv' := [(0, .ref 0), (1, .int (nI N)), (2, .int (nI p)), (3, .int what)]) (st' := [.int (nI N), .ref 0]) (w' := wMv (wiF fr lo fa) ki mo (hoF sty wset wfor) cd sr stk names till sitter on was sat stood rose turn (nI P) (nI C) (nI k) lent J K) (Ps := []) rfl trivial ?_
        refine ww_cV 18 ok_X7_lives (c_X7_lives ki mo cd sr stk names till sitter on was sat stood rose turn lent J K fr lo fa sty wset wfor P C k e hP hC hL N (by omega)) lk_X7_238 rfl (by omega) (rest := []) rfl (Nat.le_of_ble_eq_true rfl) rfl rfl rfl rfl (fun r w' hq => ?_)
        obtain ⟨rfl, names1, stk1, turn1, rfl⟩ := hq
        generalize hx : mLive P C fr lo fa ki mo (sayM cd k e) lent sty N 0 (mStart P C wset wfor (on, was, sat, stood, rose, till, sitter)) = x
        refine ww_run 19 1 (pc' := 36) (lv' := [(0, .ref 0), (1, .int (nI N)), (2, .int (nI p)), (3, .int what)]) (st' := [.int what]) (w' := wMv (wiF fr lo fa) ki mo (hoF sty wset wfor) cd sr stk1 names1 x.2.2.2.2.2.1 x.2.2.2.2.2.2 x.1 x.2.1 x.2.2.1 x.2.2.2.1 x.2.2.2.2.1 turn1 (nI P) (nI C) (nI k) lent J K) (Ps := []) rfl trivial ?_
        refine ww_if_ne 20 rfl (tgt := 48) rfl (fun c4 => ?_) (fun c4 => ?_)
        · refine ww_run 26 2 (pc' := 50) (lv' := [(0, .ref 0), (1, .int (nI N)), (2, .int (nI p)), (3, .int what)]) (st' := [.int 1, .int what]) (w' := wMv (wiF fr lo fa) ki mo (hoF sty wset wfor) cd sr stk1 names1 x.2.2.2.2.2.1 x.2.2.2.2.2.2 x.1 x.2.1 x.2.2.1 x.2.2.2.1 x.2.2.2.2.1 turn1 (nI P) (nI C) (nI k) lent J K) (Ps := []) rfl trivial ?_
          refine ww_icmp_ne 28 rfl (tgt := 62) rfl (fun c5 => ?_) (fun c5 => ?_)
          · refine ww_run 34 2 (pc' := 64) (lv' := [(0, .ref 0), (1, .int (nI N)), (2, .int (nI p)), (3, .int what)]) (st' := [.int 2, .int what]) (w' := wMv (wiF fr lo fa) ki mo (hoF sty wset wfor) cd sr stk1 names1 x.2.2.2.2.2.1 x.2.2.2.2.2.2 x.1 x.2.1 x.2.2.1 x.2.2.2.1 x.2.2.2.2.1 turn1 (nI P) (nI C) (nI k) lent J K) (Ps := []) rfl trivial ?_
            refine ww_icmp_ne 36 rfl (tgt := 76) rfl (fun c6 => ?_) (fun c6 => ?_)
            · refine ww_run 42 2 (pc' := 78) (lv' := [(0, .ref 0), (1, .int (nI N)), (2, .int (nI p)), (3, .int what)]) (st' := [.int 3, .int what]) (w' := wMv (wiF fr lo fa) ki mo (hoF sty wset wfor) cd sr stk1 names1 x.2.2.2.2.2.1 x.2.2.2.2.2.2 x.1 x.2.1 x.2.2.1 x.2.2.2.1 x.2.2.2.2.1 turn1 (nI P) (nI C) (nI k) lent J K) (Ps := []) rfl trivial ?_
              refine ww_icmp_ne 44 rfl (tgt := 90) rfl (fun c7 => ?_) (fun c7 => ?_)
              · refine ww_run 50 4 (pc' := 96) (lv' := [(0, .ref 0), (1, .int (nI N)), (2, .int (nI p)), (3, .int what)]) (st' := [.int (x.2.1 (nI p).toNatClampNeg)]) (w' := wMv (wiF fr lo fa) ki mo (hoF sty wset wfor) cd sr stk1 names1 x.2.2.2.2.2.1 x.2.2.2.2.2.2 x.1 x.2.1 x.2.2.1 x.2.2.2.1 x.2.2.2.2.1 turn1 (nI P) (nI C) (nI k) lent J K) (Ps := [vp_in (nI p) 5]) rfl ⟨(vp_in_nI (by omega) (by omega)), trivial⟩ ?_
                rw [nI_clamp (n := p) (by omega)]
                refine ww_iret 54 rfl rfl ?_
                exact ⟨by simp only [nI_clamp (n := N) (by omega), nI_clamp (n := p) (by omega), hx]; grind, x, _, _, _, rfl⟩
              · refine ww_run 45 5 (pc' := 96) (lv' := [(0, .ref 0), (1, .int (nI N)), (2, .int (nI p)), (3, .int what)]) (st' := [.int (x.2.2.2.2.1 (nI p).toNatClampNeg)]) (w' := wMv (wiF fr lo fa) ki mo (hoF sty wset wfor) cd sr stk1 names1 x.2.2.2.2.2.1 x.2.2.2.2.2.2 x.1 x.2.1 x.2.2.1 x.2.2.2.1 x.2.2.2.2.1 turn1 (nI P) (nI C) (nI k) lent J K) (Ps := [vp_in (nI p) 5]) rfl ⟨(vp_in_nI (by omega) (by omega)), trivial⟩ ?_
                rw [nI_clamp (n := p) (by omega)]
                refine ww_iret 54 rfl rfl ?_
                exact ⟨by simp only [nI_clamp (n := N) (by omega), nI_clamp (n := p) (by omega), hx]; grind, x, _, _, _, rfl⟩
            · refine ww_run 37 5 (pc' := 96) (lv' := [(0, .ref 0), (1, .int (nI N)), (2, .int (nI p)), (3, .int what)]) (st' := [.int (x.2.2.2.1 (nI p).toNatClampNeg)]) (w' := wMv (wiF fr lo fa) ki mo (hoF sty wset wfor) cd sr stk1 names1 x.2.2.2.2.2.1 x.2.2.2.2.2.2 x.1 x.2.1 x.2.2.1 x.2.2.2.1 x.2.2.2.2.1 turn1 (nI P) (nI C) (nI k) lent J K) (Ps := [vp_in (nI p) 5]) rfl ⟨(vp_in_nI (by omega) (by omega)), trivial⟩ ?_
              rw [nI_clamp (n := p) (by omega)]
              refine ww_iret 54 rfl rfl ?_
              exact ⟨by simp only [nI_clamp (n := N) (by omega), nI_clamp (n := p) (by omega), hx]; grind, x, _, _, _, rfl⟩
          · refine ww_run 29 5 (pc' := 96) (lv' := [(0, .ref 0), (1, .int (nI N)), (2, .int (nI p)), (3, .int what)]) (st' := [.int (x.2.2.1 (nI p).toNatClampNeg)]) (w' := wMv (wiF fr lo fa) ki mo (hoF sty wset wfor) cd sr stk1 names1 x.2.2.2.2.2.1 x.2.2.2.2.2.2 x.1 x.2.1 x.2.2.1 x.2.2.2.1 x.2.2.2.2.1 turn1 (nI P) (nI C) (nI k) lent J K) (Ps := [vp_in (nI p) 5]) rfl ⟨(vp_in_nI (by omega) (by omega)), trivial⟩ ?_
            rw [nI_clamp (n := p) (by omega)]
            refine ww_iret 54 rfl rfl ?_
            exact ⟨by simp only [nI_clamp (n := N) (by omega), nI_clamp (n := p) (by omega), hx]; grind, x, _, _, _, rfl⟩
        · refine ww_run 21 5 (pc' := 96) (lv' := [(0, .ref 0), (1, .int (nI N)), (2, .int (nI p)), (3, .int what)]) (st' := [.int (x.1 (nI p).toNatClampNeg)]) (w' := wMv (wiF fr lo fa) ki mo (hoF sty wset wfor) cd sr stk1 names1 x.2.2.2.2.2.1 x.2.2.2.2.2.2 x.1 x.2.1 x.2.2.1 x.2.2.2.1 x.2.2.2.2.1 turn1 (nI P) (nI C) (nI k) lent J K) (Ps := [vp_in (nI p) 5]) rfl ⟨(vp_in_nI (by omega) (by omega)), trivial⟩ ?_
          rw [nI_clamp (n := p) (by omega)]
          refine ww_iret 54 rfl rfl ?_
          exact ⟨by simp only [nI_clamp (n := N) (by omega), nI_clamp (n := p) (by omega), hx]; grind, x, _, _, _, rfl⟩
      · rw [b2i_eq0] at c3
        refine ww_run 14 1 (pc' := 29) (lv' := [(0, .ref 0), (1, .int (nI N)), (2, .int (nI p)), (3, .int what)]) (st' := [.int (-7)]) (w' := wMv (wiF fr lo fa) ki mo (hoF sty wset wfor) cd sr stk names till sitter on was sat stood rose turn (nI P) (nI C) (nI k) lent J K) (Ps := []) rfl trivial ?_
        refine ww_iret 15 rfl rfl ?_
        exact ⟨by rw [if_neg (fun h => h ⟨c1, c2⟩), if_pos c3], (on, was, sat, stood, rose, till, sitter), _, _, _, rfl⟩
    · rw [b2i_eq0] at c2
      refine ww_run 7 1 (pc' := 17) (lv' := [(0, .ref 0), (1, .int nn), (2, .int pp), (3, .int what)]) (st' := [.int (-5)]) (w' := wMv (wiF fr lo fa) ki mo (hoF sty wset wfor) cd sr stk names till sitter on was sat stood rose turn (nI P) (nI C) (nI k) lent J K) (Ps := []) rfl trivial ?_
      refine ww_iret 8 rfl rfl ?_
      exact ⟨by rw [if_pos (fun h => c2 h.2)], (on, was, sat, stood, rose, till, sitter), _, _, _, rfl⟩
