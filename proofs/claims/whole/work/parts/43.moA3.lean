set_option maxHeartbeats 4000000 in
set_option maxRecDepth 100000 in
theorem l_X7_take_29 {Q : Option Value → List va_E → Prop} {d : Nat} (hd : 8 ≤ d) (ki mo cd sr : Nat → Int32) (lent : Int32) (J : Nat → Int32) (K : Nat → Nat → Int32) (fr lo fa : Nat → Int32) (sty wset wfor : Int32) (sy : SY) (T P C k : Nat) (hP : P ≤ 5) (hC : C ≤ 6) (hk : k < T) (hL : ML cd sr T sy) (hmo : MO6 mo) (what : Int32) (hwf : sm 30 wfor) (KK : ∀ (v : Int32) (x : MS) (z : Z3), WW M_X7_take d Q xz 85 [(0, .ref 0), (1, .int what), (2, .int sty), (3, .int ((takeB (fun v => (evS sy P C fr lo fa ki mo k v wset wfor lent 30)) P 3).1)), (4, .int (mostOf (takeB (fun v => (evS sy P C fr lo fa ki mo k v wset wfor lent 30)) P 3))), (5, .int (nI 3))] [] (wMv (wiF fr lo fa) ki mo (hoF v wset wfor) cd sr z.2.1 z.1 x.2.2.2.2.2.1 x.2.2.2.2.2.2 x.1 x.2.1 x.2.2.1 x.2.2.2.1 x.2.2.2.2.1 z.2.2 (nI P) (nI C) (nI k) lent J K)) :
    ∀ (n i : Nat) (v : Int32) (x : MS) (z : Z3), i ≤ 3 → 3 + 1 ≤ i + n → WW M_X7_take d Q xz 29 [(0, .ref 0), (1, .int what), (2, .int sty), (3, .int ((takeB (fun v => (evS sy P C fr lo fa ki mo k v wset wfor lent 30)) P i).1)), (4, .int (mostOf (takeB (fun v => (evS sy P C fr lo fa ki mo k v wset wfor lent 30)) P i))), (5, .int (nI i))] [] (wMv (wiF fr lo fa) ki mo (hoF v wset wfor) cd sr z.2.1 z.1 x.2.2.2.2.2.1 x.2.2.2.2.2.2 x.1 x.2.1 x.2.2.1 x.2.2.2.1 x.2.2.2.2.1 z.2.2 (nI P) (nI C) (nI k) lent J K) := by
  intro n
  induction n with
  | zero => intro i; intros; omega
  | succ n ih =>
    intro i v x z hi hn 
    have hGa : ∀ v, GS P ((evS sy P C fr lo fa ki mo k v wset wfor lent 30)) := fun v => GS_of hP (evS_inv hL.2.1 hP hC hmo (by omega)) (evS_num hL.2.1 hP hC hmo hwf (by omega))
    have hG := hGa (nI i)
    have hb : BOK (takeB (fun v => (evS sy P C fr lo fa ki mo k v wset wfor lent 30)) P i) := takeB_ok hGa i
    refine ww_run 18 2 (pc' := 32) (lv' := [(0, .ref 0), (1, .int what), (2, .int sty), (3, .int ((takeB (fun v => (evS sy P C fr lo fa ki mo k v wset wfor lent 30)) P i).1)), (4, .int (mostOf (takeB (fun v => (evS sy P C fr lo fa ki mo k v wset wfor lent 30)) P i))), (5, .int (nI i))]) (st' := [.int 3, .int (nI i)]) (w' := wMv (wiF fr lo fa) ki mo (hoF v wset wfor) cd sr z.2.1 z.1 x.2.2.2.2.2.1 x.2.2.2.2.2.2 x.1 x.2.1 x.2.2.1 x.2.2.2.1 x.2.2.2.2.1 z.2.2 (nI P) (nI C) (nI k) lent J K) (Ps := []) rfl trivial ?_
    refine ww_icmp_ge 20 rfl (tgt := 85) rfl (fun c1 => ?_) (fun c1 => ?_)
    · have c1 : 3 ≤ i := (nI_leI (a := 3) (b := i) (by omega) (by omega)).mp c1
      obtain rfl : i = 3 := by omega
      exact KK v x z
    · have c1 : ¬ 3 ≤ i := fun q => c1 ((nI_leI (a := 3) (b := i) (by omega) (by omega)).mpr q)
      refine ww_run 21 6 (pc' := 44) (lv' := [(0, .ref 0), (1, .int what), (2, .int sty), (3, .int ((takeB (fun v => (evS sy P C fr lo fa ki mo k v wset wfor lent 30)) P i).1)), (4, .int (mostOf (takeB (fun v => (evS sy P C fr lo fa ki mo k v wset wfor lent 30)) P i))), (5, .int (nI i))]) (st' := [.ref 0]) (w' := wMv (wiF fr lo fa) ki mo (upd (hoF v wset wfor) 0 (nI i)) cd sr z.2.1 z.1 x.2.2.2.2.2.1 x.2.2.2.2.2.2 x.1 x.2.1 x.2.2.1 x.2.2.2.1 x.2.2.2.2.1 z.2.2 (nI P) (nI C) (nI k) lent J K) (Ps := [vp_in 0 3]) rfl ⟨(vp_in_nI (n := 0) (by decide) (by decide)), trivial⟩ ?_
      rw [ho_u0]
      refine ww_cV 27 ok_X7_worthOfEvening (m_woe ki mo cd sr lent J K fr lo fa (nI i) wset wfor x z sy T P C k hP hC hk hL hmo) lk_X7_269 rfl (by omega) (rest := []) rfl (Nat.le_of_ble_eq_true rfl) rfl rfl rfl rfl (fun r w' hq => ?_)
      obtain ⟨rfl, x1, z1, rfl⟩ := hq
      refine ww_run 28 3 (pc' := 53) (lv' := [(6, .int (woS P (evS sy P C fr lo fa ki mo k (nI i) wset wfor lent 30))), (0, .ref 0), (1, .int what), (2, .int sty), (3, .int ((takeB (fun v => (evS sy P C fr lo fa ki mo k v wset wfor lent 30)) P i).1)), (4, .int (mostOf (takeB (fun v => (evS sy P C fr lo fa ki mo k v wset wfor lent 30)) P i))), (5, .int (nI i))]) (st' := [.int (mostOf (takeB (fun v => (evS sy P C fr lo fa ki mo k v wset wfor lent 30)) P i)), .int (woS P (evS sy P C fr lo fa ki mo k (nI i) wset wfor lent 30))]) (w' := wMv (wiF fr lo fa) ki mo (hoF (nI i) wset wfor) cd sr z1.2.1 z1.1 x1.2.2.2.2.2.1 x1.2.2.2.2.2.2 x1.1 x1.2.1 x1.2.2.1 x1.2.2.2.1 x1.2.2.2.2.1 z1.2.2 (nI P) (nI C) (nI k) lent J K) (Ps := []) rfl trivial ?_
      refine ww_icmp_le 31 rfl (tgt := 61) rfl (fun c2 => ?_) (fun c2 => ?_)
      · refine ww_run 34 4 (pc' := 67) (lv' := [(3, .int ((takeB (fun v => (evS sy P C fr lo fa ki mo k v wset wfor lent 30)) P i).1)), (6, .int (woS P (evS sy P C fr lo fa ki mo k (nI i) wset wfor lent 30))), (0, .ref 0), (1, .int what), (2, .int sty), (4, .int (mostOf (takeB (fun v => (evS sy P C fr lo fa ki mo k v wset wfor lent 30)) P i))), (5, .int (nI i))]) (st' := [.int (mostOf (takeB (fun v => (evS sy P C fr lo fa ki mo k v wset wfor lent 30)) P i)), .int (woS P (evS sy P C fr lo fa ki mo k (nI i) wset wfor lent 30))]) (w' := wMv (wiF fr lo fa) ki mo (hoF (nI i) wset wfor) cd sr z1.2.1 z1.1 x1.2.2.2.2.2.1 x1.2.2.2.2.2.2 x1.1 x1.2.1 x1.2.2.1 x1.2.2.2.1 x1.2.2.2.2.1 z1.2.2 (nI P) (nI C) (nI k) lent J K) (Ps := []) rfl trivial ?_
        refine ww_icmp_le 38 rfl (tgt := 75) rfl (fun c3 => ?_) (fun c3 => ?_)
        · refine ww_run 41 4 (pc' := 29) (lv' := [(5, .int ((nI i) + 1)), (4, .int (mostOf (takeB (fun v => (evS sy P C fr lo fa ki mo k v wset wfor lent 30)) P i))), (3, .int ((takeB (fun v => (evS sy P C fr lo fa ki mo k v wset wfor lent 30)) P i).1)), (6, .int (woS P (evS sy P C fr lo fa ki mo k (nI i) wset wfor lent 30))), (0, .ref 0), (1, .int what), (2, .int sty)]) (st' := []) (w' := wMv (wiF fr lo fa) ki mo (hoF (nI i) wset wfor) cd sr z1.2.1 z1.1 x1.2.2.2.2.2.1 x1.2.2.2.2.2.2 x1.1 x1.2.1 x1.2.2.1 x1.2.2.2.1 x1.2.2.2.2.1 z1.2.2 (nI P) (nI C) (nI k) lent J K) (Ps := []) rfl trivial ?_
          rw [nI_1 i]
          refine ww_lv [4, 5, 6, 2, 1, 0] (lv' := [(0, .ref 0), (1, .int what), (2, .int sty), (3, .int ((takeB (fun v => (evS sy P C fr lo fa ki mo k v wset wfor lent 30)) P i).1)), (4, .int (mostOf (takeB (fun v => (evS sy P C fr lo fa ki mo k v wset wfor lent 30)) P i))), (5, .int (nI (i + 1)))]) rfl ?_
          have hh := ih (i + 1) (nI i) x1 z1 (by omega) (by omega)
          have hy : takeB (fun v => (evS sy P C fr lo fa ki mo k v wset wfor lent 30)) P (i + 1) = takeB (fun v => (evS sy P C fr lo fa ki mo k v wset wfor lent 30)) P i := btr_no hb hG c2
          rw [hy] at hh
          exact hh
        · exact absurd c2 c3
      · refine ww_run 32 2 (pc' := 62) (lv' := [(6, .int (woS P (evS sy P C fr lo fa ki mo k (nI i) wset wfor lent 30))), (0, .ref 0), (1, .int what), (2, .int sty), (3, .int ((takeB (fun v => (evS sy P C fr lo fa ki mo k v wset wfor lent 30)) P i).1)), (4, .int (mostOf (takeB (fun v => (evS sy P C fr lo fa ki mo k v wset wfor lent 30)) P i))), (5, .int (nI i))]) (st' := [.int (nI i)]) (w' := wMv (wiF fr lo fa) ki mo (hoF (nI i) wset wfor) cd sr z1.2.1 z1.1 x1.2.2.2.2.2.1 x1.2.2.2.2.2.2 x1.1 x1.2.1 x1.2.2.1 x1.2.2.2.1 x1.2.2.2.2.1 z1.2.2 (nI P) (nI C) (nI k) lent J K) (Ps := []) rfl trivial ?_
        refine ww_run 35 3 (pc' := 67) (lv' := [(3, .int (nI i)), (6, .int (woS P (evS sy P C fr lo fa ki mo k (nI i) wset wfor lent 30))), (0, .ref 0), (1, .int what), (2, .int sty), (4, .int (mostOf (takeB (fun v => (evS sy P C fr lo fa ki mo k v wset wfor lent 30)) P i))), (5, .int (nI i))]) (st' := [.int (mostOf (takeB (fun v => (evS sy P C fr lo fa ki mo k v wset wfor lent 30)) P i)), .int (woS P (evS sy P C fr lo fa ki mo k (nI i) wset wfor lent 30))]) (w' := wMv (wiF fr lo fa) ki mo (hoF (nI i) wset wfor) cd sr z1.2.1 z1.1 x1.2.2.2.2.2.1 x1.2.2.2.2.2.2 x1.1 x1.2.1 x1.2.2.1 x1.2.2.2.1 x1.2.2.2.2.1 z1.2.2 (nI P) (nI C) (nI k) lent J K) (Ps := []) rfl trivial ?_
        refine ww_icmp_le 38 rfl (tgt := 75) rfl (fun c4 => ?_) (fun c4 => ?_)
        · exact absurd c4 c2
        · refine ww_run 39 2 (pc' := 77) (lv' := [(3, .int (nI i)), (6, .int (woS P (evS sy P C fr lo fa ki mo k (nI i) wset wfor lent 30))), (0, .ref 0), (1, .int what), (2, .int sty), (4, .int (mostOf (takeB (fun v => (evS sy P C fr lo fa ki mo k v wset wfor lent 30)) P i))), (5, .int (nI i))]) (st' := [.int (woS P (evS sy P C fr lo fa ki mo k (nI i) wset wfor lent 30))]) (w' := wMv (wiF fr lo fa) ki mo (hoF (nI i) wset wfor) cd sr z1.2.1 z1.1 x1.2.2.2.2.2.1 x1.2.2.2.2.2.2 x1.1 x1.2.1 x1.2.2.1 x1.2.2.2.1 x1.2.2.2.2.1 z1.2.2 (nI P) (nI C) (nI k) lent J K) (Ps := []) rfl trivial ?_
          refine ww_run 42 3 (pc' := 29) (lv' := [(5, .int ((nI i) + 1)), (4, .int (woS P (evS sy P C fr lo fa ki mo k (nI i) wset wfor lent 30))), (3, .int (nI i)), (6, .int (woS P (evS sy P C fr lo fa ki mo k (nI i) wset wfor lent 30))), (0, .ref 0), (1, .int what), (2, .int sty)]) (st' := []) (w' := wMv (wiF fr lo fa) ki mo (hoF (nI i) wset wfor) cd sr z1.2.1 z1.1 x1.2.2.2.2.2.1 x1.2.2.2.2.2.2 x1.1 x1.2.1 x1.2.2.1 x1.2.2.2.1 x1.2.2.2.2.1 z1.2.2 (nI P) (nI C) (nI k) lent J K) (Ps := []) rfl trivial ?_
          rw [nI_1 i]
          refine ww_lv [4, 5, 6, 2, 1, 0] (lv' := [(0, .ref 0), (1, .int what), (2, .int sty), (3, .int (nI i)), (4, .int (woS P (evS sy P C fr lo fa ki mo k (nI i) wset wfor lent 30))), (5, .int (nI (i + 1)))]) rfl ?_
          have hh := ih (i + 1) (nI i) x1 z1 (by omega) (by omega)
          have hy : (takeB (fun v => (evS sy P C fr lo fa ki mo k v wset wfor lent 30)) P (i + 1)).1 = nI i ∧ mostOf (takeB (fun v => (evS sy P C fr lo fa ki mo k v wset wfor lent 30)) P (i + 1)) = woS P (evS sy P C fr lo fa ki mo k (nI i) wset wfor lent 30) := btr_yes hb hG c2
          rw [hy.1, hy.2] at hh
          exact hh
set_option maxHeartbeats 4000000 in
set_option maxRecDepth 100000 in
theorem m_take (ki mo cd sr : Nat → Int32) (lent : Int32) (J : Nat → Int32) (K : Nat → Nat → Int32) (fr lo fa : Nat → Int32) (sty wset wfor : Int32) (x : MS) (z : Z3) (sy : SY) (T P C k : Nat) (hP : P ≤ 5) (hC : C ≤ 6) (hk : k < T) (hL : ML cd sr T sy) (hmo : MO6 mo) (what : Int32) (hwf : sm 30 wfor) : Co M_X7_take 9 0 0 [.ref 0, .int what] (wMv (wiF fr lo fa) ki mo (hoF sty wset wfor) cd sr z.2.1 z.1 x.2.2.2.2.2.1 x.2.2.2.2.2.2 x.1 x.2.1 x.2.2.1 x.2.2.2.1 x.2.2.2.2.1 z.2.2 (nI P) (nI C) (nI k) lent J K) (fun r w' => r = some (.int (if ¬ mIn what 0 2 then -2 else tellB what (takeB (fun v => (evS sy P C fr lo fa ki mo k v wset wfor lent 30)) P 3))) ∧ ∃ (x : MS) (z : Z3), w' = wMv (wiF fr lo fa) ki mo (hoF sty wset wfor) cd sr z.2.1 z.1 x.2.2.2.2.2.1 x.2.2.2.2.2.2 x.1 x.2.1 x.2.2.1 x.2.2.2.1 x.2.2.2.2.1 z.2.2 (nI P) (nI C) (nI k) lent J K) := by
  refine Co.of ok_X7_take rfl ?_
  refine ww_run 0 3 (pc' := 3) (lv' := [(0, .ref 0), (1, .int what)]) (st' := [.int 2, .int 0, .int what]) (w' := wMv (wiF fr lo fa) ki mo (hoF sty wset wfor) cd sr z.2.1 z.1 x.2.2.2.2.2.1 x.2.2.2.2.2.2 x.1 x.2.1 x.2.2.1 x.2.2.2.1 x.2.2.2.2.1 z.2.2 (nI P) (nI C) (nI k) lent J K) (Ps := []) rfl trivial ?_
  refine ww_cSi 3 ok_X7_in (Co.fr0 (c_X7_in what 0 2) rfl) lk_X7_108 rfl (by omega) (rest := []) rfl (Nat.le_of_ble_eq_true rfl) rfl ?_
  refine ww_if_ne 4 rfl (tgt := 12) rfl (fun c1 => ?_) (fun c1 => ?_)
  · rw [b2i_ne0] at c1
    refine ww_run 7 11 (pc' := 29) (lv' := [(5, .int 0), (4, .int (-100000)), (3, .int 0), (2, .int sty), (0, .ref 0), (1, .int what)]) (st' := []) (w' := wMv (wiF fr lo fa) ki mo (hoF sty wset wfor) cd sr z.2.1 z.1 x.2.2.2.2.2.1 x.2.2.2.2.2.2 x.1 x.2.1 x.2.2.1 x.2.2.2.1 x.2.2.2.2.1 z.2.2 (nI P) (nI C) (nI k) lent J K) (Ps := [vp_in 0 3]) rfl ⟨(vp_in_nI (n := 0) (by decide) (by decide)), trivial⟩ ?_
    refine ww_lv [4, 5, 3, 2, 1, 0] (lv' := [(0, .ref 0), (1, .int what), (2, .int sty), (3, .int 0), (4, .int (-100000)), (5, .int 0)]) rfl ?_
    refine l_X7_take_29 (by omega) ki mo cd sr lent J K fr lo fa sty wset wfor sy T P C k hP hC hk hL hmo what hwf (fun v1 x1 z1 => ?_) 4 0 sty x z (by omega) (by omega)
    refine ww_run 45 9 (pc' := 97) (lv' := [(0, .ref 0), (1, .int what), (2, .int sty), (3, .int ((takeB (fun v => (evS sy P C fr lo fa ki mo k v wset wfor lent 30)) P 3).1)), (4, .int (mostOf (takeB (fun v => (evS sy P C fr lo fa ki mo k v wset wfor lent 30)) P 3))), (5, .int (nI 3))]) (st' := [.int (mostOf (takeB (fun v => (evS sy P C fr lo fa ki mo k v wset wfor lent 30)) P 3)), .int ((takeB (fun v => (evS sy P C fr lo fa ki mo k v wset wfor lent 30)) P 3).1), .int what, .ref 0]) (w' := wMv (wiF fr lo fa) ki mo (upd (hoF v1 wset wfor) 0 sty) cd sr z1.2.1 z1.1 x1.2.2.2.2.2.1 x1.2.2.2.2.2.2 x1.1 x1.2.1 x1.2.2.1 x1.2.2.2.1 x1.2.2.2.2.1 z1.2.2 (nI P) (nI C) (nI k) lent J K) (Ps := [vp_in 0 3]) rfl ⟨(vp_in_nI (n := 0) (by decide) (by decide)), trivial⟩ ?_
    rw [ho_u0]
    refine ww_cVi 54 ok_X7_told3 (c_X7_told3 (wiF fr lo fa) ki mo (hoF sty wset wfor) cd sr z1.2.1 z1.1 x1.2.2.2.2.2.1 x1.2.2.2.2.2.2 x1.1 x1.2.1 x1.2.2.1 x1.2.2.2.1 x1.2.2.2.2.1 z1.2.2 (nI P) (nI C) (nI k) lent J K what ((takeB (fun v => (evS sy P C fr lo fa ki mo k v wset wfor lent 30)) P 3).1) (mostOf (takeB (fun v => (evS sy P C fr lo fa ki mo k v wset wfor lent 30)) P 3))) lk_X7_272 rfl (by omega) (rest := []) rfl (Nat.le_of_ble_eq_true rfl) rfl rfl rfl rfl ?_
    refine ww_iret 55 rfl rfl ?_
    have hGa : ∀ v, GS P ((evS sy P C fr lo fa ki mo k v wset wfor lent 30)) := fun v => GS_of hP (evS_inv hL.2.1 hP hC hmo (by omega)) (evS_num hL.2.1 hP hC hmo hwf (by omega))
    exact ⟨by rw [if_neg (fun h => h c1), tell_told (b := takeB (fun v => (evS sy P C fr lo fa ki mo k v wset wfor lent 30)) P 3) (btr_set (takeB_ok hGa 2) (hGa _))], x1, z1, rfl⟩
  · rw [b2i_eq0] at c1
    refine ww_run 5 1 (pc' := 11) (lv' := [(0, .ref 0), (1, .int what)]) (st' := [.int (-2)]) (w' := wMv (wiF fr lo fa) ki mo (hoF sty wset wfor) cd sr z.2.1 z.1 x.2.2.2.2.2.1 x.2.2.2.2.2.2 x.1 x.2.1 x.2.2.1 x.2.2.2.1 x.2.2.2.2.1 z.2.2 (nI P) (nI C) (nI k) lent J K) (Ps := []) rfl trivial ?_
    refine ww_iret 6 rfl rfl ?_
    exact ⟨by rw [if_pos c1], x, z, rfl⟩
theorem upd_2 {f : Nat → Int32} {k : Nat} {a b : Int32} : upd (upd f k a) k b = upd f k b := by
  funext j
  simp only [upd]
  split <;> rfl
set_option maxHeartbeats 4000000 in
set_option maxRecDepth 100000 in
theorem l_X7_late_41 {Q : Option Value → List va_E → Prop} {d : Nat} (hd : 7 ≤ d) (ki mo cd sr : Nat → Int32) (lent : Int32) (J : Nat → Int32) (K : Nat → Nat → Int32) (fr lo fa : Nat → Int32) (sty wset wfor : Int32) (sy : SY) (T P C k : Nat) (hP : P ≤ 5) (hC : C ≤ 6) (hk : k < T) (hL : ML cd sr T sy) (hmo : MO6 mo) (what : Int32) (p : Nat) (hp : p < P) (KK : ∀ (v : Int32) (x : MS) (z : Z3), WW M_X7_late d Q xz 99 [(0, .ref 0), (1, .int (nI p)), (2, .int what), (3, .int (fr p)), (4, .int (firstT (fun q => decide (¬ (evS sy P C (upd fr p (nI q)) lo fa ki mo k sty wset wfor lent 30).2.2.2.2.1 p = -1)) 30)), (5, .int (lastT (fun q => decide (¬ (evS sy P C (upd fr p (nI q)) lo fa ki mo k sty wset wfor lent 30).2.2.2.2.1 p = -1)) 30)), (6, .int (nI 30))] [] (wMv (wiF (upd fr p v) lo fa) ki mo (hoF sty wset wfor) cd sr z.2.1 z.1 x.2.2.2.2.2.1 x.2.2.2.2.2.2 x.1 x.2.1 x.2.2.1 x.2.2.2.1 x.2.2.2.2.1 z.2.2 (nI P) (nI C) (nI k) lent J K)) :
    ∀ (n i : Nat) (v : Int32) (x : MS) (z : Z3), i ≤ 30 → 30 + 1 ≤ i + n → WW M_X7_late d Q xz 41 [(0, .ref 0), (1, .int (nI p)), (2, .int what), (3, .int (fr p)), (4, .int (firstT (fun q => decide (¬ (evS sy P C (upd fr p (nI q)) lo fa ki mo k sty wset wfor lent 30).2.2.2.2.1 p = -1)) i)), (5, .int (lastT (fun q => decide (¬ (evS sy P C (upd fr p (nI q)) lo fa ki mo k sty wset wfor lent 30).2.2.2.2.1 p = -1)) i)), (6, .int (nI i))] [] (wMv (wiF (upd fr p v) lo fa) ki mo (hoF sty wset wfor) cd sr z.2.1 z.1 x.2.2.2.2.2.1 x.2.2.2.2.2.2 x.1 x.2.1 x.2.2.1 x.2.2.2.1 x.2.2.2.2.1 z.2.2 (nI P) (nI C) (nI k) lent J K) := by
  intro n
  induction n with
  | zero => intro i; intros; omega
  | succ n ih =>
    intro i v x z hi hn 
    refine ww_run 26 2 (pc' := 45) (lv' := [(0, .ref 0), (1, .int (nI p)), (2, .int what), (3, .int (fr p)), (4, .int (firstT (fun q => decide (¬ (evS sy P C (upd fr p (nI q)) lo fa ki mo k sty wset wfor lent 30).2.2.2.2.1 p = -1)) i)), (5, .int (lastT (fun q => decide (¬ (evS sy P C (upd fr p (nI q)) lo fa ki mo k sty wset wfor lent 30).2.2.2.2.1 p = -1)) i)), (6, .int (nI i))]) (st' := [.int 30, .int (nI i)]) (w' := wMv (wiF (upd fr p v) lo fa) ki mo (hoF sty wset wfor) cd sr z.2.1 z.1 x.2.2.2.2.2.1 x.2.2.2.2.2.2 x.1 x.2.1 x.2.2.1 x.2.2.2.1 x.2.2.2.2.1 z.2.2 (nI P) (nI C) (nI k) lent J K) (Ps := []) rfl trivial ?_
    refine ww_icmp_ge 28 rfl (tgt := 99) rfl (fun c1 => ?_) (fun c1 => ?_)
    · have c1 : 30 ≤ i := (nI_leI (a := 30) (b := i) (by omega) (by omega)).mp c1
      obtain rfl : i = 30 := by omega
      exact KK v x z
    · have c1 : ¬ 30 ≤ i := fun q => c1 ((nI_leI (a := 30) (b := i) (by omega) (by omega)).mpr q)
      refine ww_run 29 7 (pc' := 58) (lv' := [(0, .ref 0), (1, .int (nI p)), (2, .int what), (3, .int (fr p)), (4, .int (firstT (fun q => decide (¬ (evS sy P C (upd fr p (nI q)) lo fa ki mo k sty wset wfor lent 30).2.2.2.2.1 p = -1)) i)), (5, .int (lastT (fun q => decide (¬ (evS sy P C (upd fr p (nI q)) lo fa ki mo k sty wset wfor lent 30).2.2.2.2.1 p = -1)) i)), (6, .int (nI i))]) (st' := []) (w' := wMv (upd (wiF (upd fr p v) lo fa) ((3 * (nI p)).toNatClampNeg) (nI i)) ki mo (hoF sty wset wfor) cd sr z.2.1 z.1 x.2.2.2.2.2.1 x.2.2.2.2.2.2 x.1 x.2.1 x.2.2.1 x.2.2.2.1 x.2.2.2.2.1 z.2.2 (nI P) (nI C) (nI k) lent J K) (Ps := [vp_in (3 * (nI p)) 15]) rfl ⟨(by rw [show (3 : Int32) * nI p = nI (3 * p) from pk_mul 3 p]; exact vp_in_nI (by omega) (by omega)), trivial⟩ ?_
      rw [show (3 : Int32) * nI p = nI (3 * p) from pk_mul 3 p]
      rw [nI_clamp (n := (3 * p)) (by omega)]
      rw [wi_u0]
      rw [upd_2]
      refine ww_run 36 2 (pc' := 61) (lv' := [(0, .ref 0), (1, .int (nI p)), (2, .int what), (3, .int (fr p)), (4, .int (firstT (fun q => decide (¬ (evS sy P C (upd fr p (nI q)) lo fa ki mo k sty wset wfor lent 30).2.2.2.2.1 p = -1)) i)), (5, .int (lastT (fun q => decide (¬ (evS sy P C (upd fr p (nI q)) lo fa ki mo k sty wset wfor lent 30).2.2.2.2.1 p = -1)) i)), (6, .int (nI i))]) (st' := [.int 30, .ref 0]) (w' := wMv (wiF (upd fr p (nI i)) lo fa) ki mo (hoF sty wset wfor) cd sr z.2.1 z.1 x.2.2.2.2.2.1 x.2.2.2.2.2.2 x.1 x.2.1 x.2.2.1 x.2.2.2.1 x.2.2.2.2.1 z.2.2 (nI P) (nI C) (nI k) lent J K) (Ps := []) rfl trivial ?_
      refine ww_cV 38 ok_X7_lives (m_lives ki mo cd sr lent J K (upd fr p (nI i)) lo fa sty wset wfor x z sy T P C k hP hC hk hL hmo 30 (by omega)) lk_X7_238 rfl (by omega) (rest := []) rfl (Nat.le_of_ble_eq_true rfl) rfl rfl rfl rfl (fun r w' hq => ?_)
      obtain ⟨rfl, x1, z1, hR1, rfl⟩ := hq
      have hI1 : INV P C (evS sy P C (upd fr p (nI i)) lo fa ki mo k sty wset wfor lent 30) := evS_inv hL.2.1 hP hC hmo (by omega)
      refine ww_run 39 5 (pc' := 71) (lv' := [(0, .ref 0), (1, .int (nI p)), (2, .int what), (3, .int (fr p)), (4, .int (firstT (fun q => decide (¬ (evS sy P C (upd fr p (nI q)) lo fa ki mo k sty wset wfor lent 30).2.2.2.2.1 p = -1)) i)), (5, .int (lastT (fun q => decide (¬ (evS sy P C (upd fr p (nI q)) lo fa ki mo k sty wset wfor lent 30).2.2.2.2.1 p = -1)) i)), (6, .int (nI i))]) (st' := [.int (-1), .int (x1.2.2.2.2.1 (nI p).toNatClampNeg)]) (w' := wMv (wiF (upd fr p (nI i)) lo fa) ki mo (hoF sty wset wfor) cd sr z1.2.1 z1.1 x1.2.2.2.2.2.1 x1.2.2.2.2.2.2 x1.1 x1.2.1 x1.2.2.1 x1.2.2.2.1 x1.2.2.2.2.1 z1.2.2 (nI P) (nI C) (nI k) lent J K) (Ps := [vp_in (nI p) 5]) rfl ⟨(vp_in_nI (by omega) (by omega)), trivial⟩ ?_
      rw [nI_clamp (n := p) (by omega)]
      refine ww_icmp_eq 44 rfl (tgt := 93) rfl (fun c2 => ?_) (fun c2 => ?_)
      · refine ww_run 54 2 (pc' := 41) (lv' := [(6, .int ((nI i) + 1)), (0, .ref 0), (1, .int (nI p)), (2, .int what), (3, .int (fr p)), (4, .int (firstT (fun q => decide (¬ (evS sy P C (upd fr p (nI q)) lo fa ki mo k sty wset wfor lent 30).2.2.2.2.1 p = -1)) i)), (5, .int (lastT (fun q => decide (¬ (evS sy P C (upd fr p (nI q)) lo fa ki mo k sty wset wfor lent 30).2.2.2.2.1 p = -1)) i))]) (st' := []) (w' := wMv (wiF (upd fr p (nI i)) lo fa) ki mo (hoF sty wset wfor) cd sr z1.2.1 z1.1 x1.2.2.2.2.2.1 x1.2.2.2.2.2.2 x1.1 x1.2.1 x1.2.2.1 x1.2.2.2.1 x1.2.2.2.2.1 z1.2.2 (nI P) (nI C) (nI k) lent J K) (Ps := []) rfl trivial ?_
        rw [nI_1 i]
        refine ww_lv [1, 2, 3, 4, 5, 6, 0] (lv' := [(0, .ref 0), (1, .int (nI p)), (2, .int what), (3, .int (fr p)), (4, .int (firstT (fun q => decide (¬ (evS sy P C (upd fr p (nI q)) lo fa ki mo k sty wset wfor lent 30).2.2.2.2.1 p = -1)) i)), (5, .int (lastT (fun q => decide (¬ (evS sy P C (upd fr p (nI q)) lo fa ki mo k sty wset wfor lent 30).2.2.2.2.1 p = -1)) i)), (6, .int (nI (i + 1)))]) rfl ?_
        have hk1 : (fun q => decide (¬ (evS sy P C (upd fr p (nI q)) lo fa ki mo k sty wset wfor lent 30).2.2.2.2.1 p = -1)) i = false := decide_eq_false (by rw [(hR1.1 p hp).2.2.2.2]; exact fun q => q c2)
        have hh := ih (i + 1) (nI i) x1 z1 (by omega) (by omega)
        have e1 : lastT (fun q => decide (¬ (evS sy P C (upd fr p (nI q)) lo fa ki mo k sty wset wfor lent 30).2.2.2.2.1 p = -1)) (i + 1) = lastT (fun q => decide (¬ (evS sy P C (upd fr p (nI q)) lo fa ki mo k sty wset wfor lent 30).2.2.2.2.1 p = -1)) i := by simp only [lastT, hk1]; rfl
        have e2 : firstT (fun q => decide (¬ (evS sy P C (upd fr p (nI q)) lo fa ki mo k sty wset wfor lent 30).2.2.2.2.1 p = -1)) (i + 1) = firstT (fun q => decide (¬ (evS sy P C (upd fr p (nI q)) lo fa ki mo k sty wset wfor lent 30).2.2.2.2.1 p = -1)) i := by
          simp only [firstT]
          by_cases q : firstT (fun q => decide (¬ (evS sy P C (upd fr p (nI q)) lo fa ki mo k sty wset wfor lent 30).2.2.2.2.1 p = -1)) i = -1
          · rw [if_pos q, if_neg (fun q2 => absurd (hk1.symm.trans q2) (by decide)), q]
          · rw [if_neg q]
        rw [e1, e2] at hh
        exact hh
      · refine ww_run 45 2 (pc' := 77) (lv' := [(0, .ref 0), (1, .int (nI p)), (2, .int what), (3, .int (fr p)), (4, .int (firstT (fun q => decide (¬ (evS sy P C (upd fr p (nI q)) lo fa ki mo k sty wset wfor lent 30).2.2.2.2.1 p = -1)) i)), (5, .int (lastT (fun q => decide (¬ (evS sy P C (upd fr p (nI q)) lo fa ki mo k sty wset wfor lent 30).2.2.2.2.1 p = -1)) i)), (6, .int (nI i))]) (st' := [.int (-1), .int (firstT (fun q => decide (¬ (evS sy P C (upd fr p (nI q)) lo fa ki mo k sty wset wfor lent 30).2.2.2.2.1 p = -1)) i)]) (w' := wMv (wiF (upd fr p (nI i)) lo fa) ki mo (hoF sty wset wfor) cd sr z1.2.1 z1.1 x1.2.2.2.2.2.1 x1.2.2.2.2.2.2 x1.1 x1.2.1 x1.2.2.1 x1.2.2.2.1 x1.2.2.2.2.1 z1.2.2 (nI P) (nI C) (nI k) lent J K) (Ps := []) rfl trivial ?_
        refine ww_icmp_ne 47 rfl (tgt := 85) rfl (fun c3 => ?_) (fun c3 => ?_)
        · refine ww_run 50 6 (pc' := 41) (lv' := [(6, .int ((nI i) + 1)), (5, .int (nI i)), (4, .int (firstT (fun q => decide (¬ (evS sy P C (upd fr p (nI q)) lo fa ki mo k sty wset wfor lent 30).2.2.2.2.1 p = -1)) i)), (0, .ref 0), (1, .int (nI p)), (2, .int what), (3, .int (fr p))]) (st' := []) (w' := wMv (wiF (upd fr p (nI i)) lo fa) ki mo (hoF sty wset wfor) cd sr z1.2.1 z1.1 x1.2.2.2.2.2.1 x1.2.2.2.2.2.2 x1.1 x1.2.1 x1.2.2.1 x1.2.2.2.1 x1.2.2.2.2.1 z1.2.2 (nI P) (nI C) (nI k) lent J K) (Ps := []) rfl trivial ?_
          rw [nI_1 i]
          refine ww_lv [3, 4, 5, 6, 2, 1, 0] (lv' := [(0, .ref 0), (1, .int (nI p)), (2, .int what), (3, .int (fr p)), (4, .int (firstT (fun q => decide (¬ (evS sy P C (upd fr p (nI q)) lo fa ki mo k sty wset wfor lent 30).2.2.2.2.1 p = -1)) i)), (5, .int (nI i)), (6, .int (nI (i + 1)))]) rfl ?_
          have hk1 : (fun q => decide (¬ (evS sy P C (upd fr p (nI q)) lo fa ki mo k sty wset wfor lent 30).2.2.2.2.1 p = -1)) i = true := decide_eq_true (by rw [(hR1.1 p hp).2.2.2.2]; exact c2)
          have hh := ih (i + 1) (nI i) x1 z1 (by omega) (by omega)
          have e1 : lastT (fun q => decide (¬ (evS sy P C (upd fr p (nI q)) lo fa ki mo k sty wset wfor lent 30).2.2.2.2.1 p = -1)) (i + 1) = nI i := by simp only [lastT, hk1, if_true]
          have e2 : firstT (fun q => decide (¬ (evS sy P C (upd fr p (nI q)) lo fa ki mo k sty wset wfor lent 30).2.2.2.2.1 p = -1)) (i + 1) = firstT (fun q => decide (¬ (evS sy P C (upd fr p (nI q)) lo fa ki mo k sty wset wfor lent 30).2.2.2.2.1 p = -1)) i := by
            simp only [firstT]
            rw [if_neg c3]
          rw [e1, e2] at hh
          exact hh
        · refine ww_run 48 2 (pc' := 87) (lv' := [(0, .ref 0), (1, .int (nI p)), (2, .int what), (3, .int (fr p)), (4, .int (firstT (fun q => decide (¬ (evS sy P C (upd fr p (nI q)) lo fa ki mo k sty wset wfor lent 30).2.2.2.2.1 p = -1)) i)), (5, .int (lastT (fun q => decide (¬ (evS sy P C (upd fr p (nI q)) lo fa ki mo k sty wset wfor lent 30).2.2.2.2.1 p = -1)) i)), (6, .int (nI i))]) (st' := [.int (nI i)]) (w' := wMv (wiF (upd fr p (nI i)) lo fa) ki mo (hoF sty wset wfor) cd sr z1.2.1 z1.1 x1.2.2.2.2.2.1 x1.2.2.2.2.2.2 x1.1 x1.2.1 x1.2.2.1 x1.2.2.2.1 x1.2.2.2.2.1 z1.2.2 (nI P) (nI C) (nI k) lent J K) (Ps := []) rfl trivial ?_
          refine ww_run 51 5 (pc' := 41) (lv' := [(6, .int ((nI i) + 1)), (5, .int (nI i)), (4, .int (nI i)), (0, .ref 0), (1, .int (nI p)), (2, .int what), (3, .int (fr p))]) (st' := []) (w' := wMv (wiF (upd fr p (nI i)) lo fa) ki mo (hoF sty wset wfor) cd sr z1.2.1 z1.1 x1.2.2.2.2.2.1 x1.2.2.2.2.2.2 x1.1 x1.2.1 x1.2.2.1 x1.2.2.2.1 x1.2.2.2.2.1 z1.2.2 (nI P) (nI C) (nI k) lent J K) (Ps := []) rfl trivial ?_
          rw [nI_1 i]
          refine ww_lv [3, 4, 5, 6, 2, 1, 0] (lv' := [(0, .ref 0), (1, .int (nI p)), (2, .int what), (3, .int (fr p)), (4, .int (nI i)), (5, .int (nI i)), (6, .int (nI (i + 1)))]) rfl ?_
          have hk1 : (fun q => decide (¬ (evS sy P C (upd fr p (nI q)) lo fa ki mo k sty wset wfor lent 30).2.2.2.2.1 p = -1)) i = true := decide_eq_true (by rw [(hR1.1 p hp).2.2.2.2]; exact c2)
          have hh := ih (i + 1) (nI i) x1 z1 (by omega) (by omega)
          have e1 : lastT (fun q => decide (¬ (evS sy P C (upd fr p (nI q)) lo fa ki mo k sty wset wfor lent 30).2.2.2.2.1 p = -1)) (i + 1) = nI i := by simp only [lastT, hk1, if_true]
          have e2 : firstT (fun q => decide (¬ (evS sy P C (upd fr p (nI q)) lo fa ki mo k sty wset wfor lent 30).2.2.2.2.1 p = -1)) (i + 1) = nI i := by
            simp only [firstT]
            rw [if_pos c3, if_pos hk1]
          rw [e1, e2] at hh
          exact hh
set_option maxHeartbeats 4000000 in
set_option maxRecDepth 100000 in
theorem m_late (ki mo cd sr : Nat → Int32) (lent : Int32) (J : Nat → Int32) (K : Nat → Nat → Int32) (fr lo fa : Nat → Int32) (sty wset wfor : Int32) (x : MS) (z : Z3) (sy : SY) (T P C k : Nat) (hP : P ≤ 5) (hC : C ≤ 6) (hk : k < T) (hL : ML cd sr T sy) (hmo : MO6 mo) (pp what : Int32) : Co M_X7_late 8 0 0 [.ref 0, .int pp, .int what] (wMv (wiF fr lo fa) ki mo (hoF sty wset wfor) cd sr z.2.1 z.1 x.2.2.2.2.2.1 x.2.2.2.2.2.2 x.1 x.2.1 x.2.2.1 x.2.2.2.1 x.2.2.2.2.1 z.2.2 (nI P) (nI C) (nI k) lent J K) (fun r w' => r = some (.int (if ¬ mIn pp 0 (nI P - 1) then -5 else if ¬ mIn what 0 1 then -7 else if what = 0 then lastT (fun q => decide (¬ (evS sy P C (upd fr pp.toNatClampNeg (nI q)) lo fa ki mo k sty wset wfor lent 30).2.2.2.2.1 pp.toNatClampNeg = -1)) 30 else firstT (fun q => decide (¬ (evS sy P C (upd fr pp.toNatClampNeg (nI q)) lo fa ki mo k sty wset wfor lent 30).2.2.2.2.1 pp.toNatClampNeg = -1)) 30)) ∧ ∃ (x : MS) (z : Z3), w' = wMv (wiF fr lo fa) ki mo (hoF sty wset wfor) cd sr z.2.1 z.1 x.2.2.2.2.2.1 x.2.2.2.2.2.2 x.1 x.2.1 x.2.2.1 x.2.2.2.1 x.2.2.2.2.1 z.2.2 (nI P) (nI C) (nI k) lent J K) := by
  refine Co.of ok_X7_late rfl ?_
  refine ww_run 0 2 (pc' := 2) (lv' := [(0, .ref 0), (1, .int pp), (2, .int what)]) (st' := [.int pp, .ref 0]) (w' := wMv (wiF fr lo fa) ki mo (hoF sty wset wfor) cd sr z.2.1 z.1 x.2.2.2.2.2.1 x.2.2.2.2.2.2 x.1 x.2.1 x.2.2.1 x.2.2.2.1 x.2.2.2.2.1 z.2.2 (nI P) (nI C) (nI k) lent J K) (Ps := []) rfl trivial ?_
  refine ww_cVi 2 ok_X7_isOne (c_X7_isOne (wiF fr lo fa) ki mo (hoF sty wset wfor) cd sr z.2.1 z.1 x.2.2.2.2.2.1 x.2.2.2.2.2.2 x.1 x.2.1 x.2.2.1 x.2.2.2.1 x.2.2.2.2.1 z.2.2 (nI P) (nI C) (nI k) lent J K pp) lk_X7_115 rfl (by omega) (rest := []) rfl (Nat.le_of_ble_eq_true rfl) rfl rfl rfl rfl ?_
  refine ww_if_ne 3 rfl (tgt := 11) rfl (fun c1 => ?_) (fun c1 => ?_)
  · rw [b2i_ne0] at c1
    refine ww_run 6 3 (pc' := 14) (lv' := [(0, .ref 0), (1, .int pp), (2, .int what)]) (st' := [.int 1, .int 0, .int what]) (w' := wMv (wiF fr lo fa) ki mo (hoF sty wset wfor) cd sr z.2.1 z.1 x.2.2.2.2.2.1 x.2.2.2.2.2.2 x.1 x.2.1 x.2.2.1 x.2.2.2.1 x.2.2.2.2.1 z.2.2 (nI P) (nI C) (nI k) lent J K) (Ps := []) rfl trivial ?_
    refine ww_cSi 9 ok_X7_in (Co.fr0 (c_X7_in what 0 1) rfl) lk_X7_108 rfl (by omega) (rest := []) rfl (Nat.le_of_ble_eq_true rfl) rfl ?_
    refine ww_if_ne 10 rfl (tgt := 23) rfl (fun c2 => ?_) (fun c2 => ?_)
    · rw [b2i_ne0] at c2
      obtain ⟨p, hp, rfl⟩ := one_nI (by omega) c1
      refine ww_run 13 13 (pc' := 41) (lv' := [(6, .int 0), (5, .int (-1)), (4, .int (-1)), (3, .int ((wiF fr lo fa) (3 * (nI p)).toNatClampNeg)), (0, .ref 0), (1, .int (nI p)), (2, .int what)]) (st' := []) (w' := wMv (wiF fr lo fa) ki mo (hoF sty wset wfor) cd sr z.2.1 z.1 x.2.2.2.2.2.1 x.2.2.2.2.2.2 x.1 x.2.1 x.2.2.1 x.2.2.2.1 x.2.2.2.2.1 z.2.2 (nI P) (nI C) (nI k) lent J K) (Ps := [vp_in (3 * (nI p)) 15]) rfl ⟨(by rw [show (3 : Int32) * nI p = nI (3 * p) from pk_mul 3 p]; exact vp_in_nI (by omega) (by omega)), trivial⟩ ?_
      rw [show (3 : Int32) * nI p = nI (3 * p) from pk_mul 3 p]
      rw [nI_clamp (n := (3 * p)) (by omega)]
      rw [wi0]
      refine ww_lv [4, 5, 6, 3, 2, 1, 0] (lv' := [(0, .ref 0), (1, .int (nI p)), (2, .int what), (3, .int (fr p)), (4, .int (-1)), (5, .int (-1)), (6, .int 0)]) rfl ?_
      have e0 : upd fr p (fr p) = fr := upd_self rfl
      rw [← e0]
      rw [upd_s]
      refine l_X7_late_41 (by omega) ki mo cd sr lent J K fr lo fa sty wset wfor sy T P C k hP hC hk hL hmo what p hp (fun v1 x1 z1 => ?_) 31 0 (fr p) x z (by omega) (by omega)
      refine ww_run 56 7 (pc' := 108) (lv' := [(0, .ref 0), (1, .int (nI p)), (2, .int what), (3, .int (fr p)), (4, .int (firstT (fun q => decide (¬ (evS sy P C (upd fr p (nI q)) lo fa ki mo k sty wset wfor lent 30).2.2.2.2.1 p = -1)) 30)), (5, .int (lastT (fun q => decide (¬ (evS sy P C (upd fr p (nI q)) lo fa ki mo k sty wset wfor lent 30).2.2.2.2.1 p = -1)) 30)), (6, .int (nI 30))]) (st' := []) (w' := wMv (upd (wiF (upd fr p v1) lo fa) ((3 * (nI p)).toNatClampNeg) (fr p)) ki mo (hoF sty wset wfor) cd sr z1.2.1 z1.1 x1.2.2.2.2.2.1 x1.2.2.2.2.2.2 x1.1 x1.2.1 x1.2.2.1 x1.2.2.2.1 x1.2.2.2.2.1 z1.2.2 (nI P) (nI C) (nI k) lent J K) (Ps := [vp_in (3 * (nI p)) 15]) rfl ⟨(by rw [show (3 : Int32) * nI p = nI (3 * p) from pk_mul 3 p]; exact vp_in_nI (by omega) (by omega)), trivial⟩ ?_
      rw [show (3 : Int32) * nI p = nI (3 * p) from pk_mul 3 p]
      rw [nI_clamp (n := (3 * p)) (by omega)]
      rw [wi_u0]
      refine ww_run 63 1 (pc' := 109) (lv' := [(0, .ref 0), (1, .int (nI p)), (2, .int what), (3, .int (fr p)), (4, .int (firstT (fun q => decide (¬ (evS sy P C (upd fr p (nI q)) lo fa ki mo k sty wset wfor lent 30).2.2.2.2.1 p = -1)) 30)), (5, .int (lastT (fun q => decide (¬ (evS sy P C (upd fr p (nI q)) lo fa ki mo k sty wset wfor lent 30).2.2.2.2.1 p = -1)) 30)), (6, .int (nI 30))]) (st' := [.int what]) (w' := wMv (wiF (upd (upd fr p v1) p (fr p)) lo fa) ki mo (hoF sty wset wfor) cd sr z1.2.1 z1.1 x1.2.2.2.2.2.1 x1.2.2.2.2.2.2 x1.1 x1.2.1 x1.2.2.1 x1.2.2.2.1 x1.2.2.2.2.1 z1.2.2 (nI P) (nI C) (nI k) lent J K) (Ps := []) rfl trivial ?_
      refine ww_if_ne 64 rfl (tgt := 117) rfl (fun c3 => ?_) (fun c3 => ?_)
      · refine ww_run 67 1 (pc' := 119) (lv' := [(0, .ref 0), (1, .int (nI p)), (2, .int what), (3, .int (fr p)), (4, .int (firstT (fun q => decide (¬ (evS sy P C (upd fr p (nI q)) lo fa ki mo k sty wset wfor lent 30).2.2.2.2.1 p = -1)) 30)), (5, .int (lastT (fun q => decide (¬ (evS sy P C (upd fr p (nI q)) lo fa ki mo k sty wset wfor lent 30).2.2.2.2.1 p = -1)) 30)), (6, .int (nI 30))]) (st' := [.int (firstT (fun q => decide (¬ (evS sy P C (upd fr p (nI q)) lo fa ki mo k sty wset wfor lent 30).2.2.2.2.1 p = -1)) 30)]) (w' := wMv (wiF (upd (upd fr p v1) p (fr p)) lo fa) ki mo (hoF sty wset wfor) cd sr z1.2.1 z1.1 x1.2.2.2.2.2.1 x1.2.2.2.2.2.2 x1.1 x1.2.1 x1.2.2.1 x1.2.2.2.1 x1.2.2.2.2.1 z1.2.2 (nI P) (nI C) (nI k) lent J K) (Ps := []) rfl trivial ?_
        refine ww_iret 68 rfl rfl ?_
        rw [upd_2, upd_self rfl]
        exact ⟨by simp only [nI_clamp (n := p) (by omega)]; rw [if_neg (fun h => h c1), if_neg (fun h => h c2), if_neg c3], x1, z1, rfl⟩
      · refine ww_run 65 2 (pc' := 119) (lv' := [(0, .ref 0), (1, .int (nI p)), (2, .int what), (3, .int (fr p)), (4, .int (firstT (fun q => decide (¬ (evS sy P C (upd fr p (nI q)) lo fa ki mo k sty wset wfor lent 30).2.2.2.2.1 p = -1)) 30)), (5, .int (lastT (fun q => decide (¬ (evS sy P C (upd fr p (nI q)) lo fa ki mo k sty wset wfor lent 30).2.2.2.2.1 p = -1)) 30)), (6, .int (nI 30))]) (st' := [.int (lastT (fun q => decide (¬ (evS sy P C (upd fr p (nI q)) lo fa ki mo k sty wset wfor lent 30).2.2.2.2.1 p = -1)) 30)]) (w' := wMv (wiF (upd (upd fr p v1) p (fr p)) lo fa) ki mo (hoF sty wset wfor) cd sr z1.2.1 z1.1 x1.2.2.2.2.2.1 x1.2.2.2.2.2.2 x1.1 x1.2.1 x1.2.2.1 x1.2.2.2.1 x1.2.2.2.2.1 z1.2.2 (nI P) (nI C) (nI k) lent J K) (Ps := []) rfl trivial ?_
        refine ww_iret 68 rfl rfl ?_
        rw [upd_2, upd_self rfl]
        exact ⟨by simp only [nI_clamp (n := p) (by omega)]; rw [if_neg (fun h => h c1), if_neg (fun h => h c2), if_pos c3], x1, z1, rfl⟩
    · rw [b2i_eq0] at c2
      refine ww_run 11 1 (pc' := 22) (lv' := [(0, .ref 0), (1, .int pp), (2, .int what)]) (st' := [.int (-7)]) (w' := wMv (wiF fr lo fa) ki mo (hoF sty wset wfor) cd sr z.2.1 z.1 x.2.2.2.2.2.1 x.2.2.2.2.2.2 x.1 x.2.1 x.2.2.1 x.2.2.2.1 x.2.2.2.2.1 z.2.2 (nI P) (nI C) (nI k) lent J K) (Ps := []) rfl trivial ?_
      refine ww_iret 12 rfl rfl ?_
      exact ⟨by rw [if_neg (fun h => h c1), if_pos c2], x, z, rfl⟩
  · rw [b2i_eq0] at c1
    refine ww_run 4 1 (pc' := 10) (lv' := [(0, .ref 0), (1, .int pp), (2, .int what)]) (st' := [.int (-5)]) (w' := wMv (wiF fr lo fa) ki mo (hoF sty wset wfor) cd sr z.2.1 z.1 x.2.2.2.2.2.1 x.2.2.2.2.2.2 x.1 x.2.1 x.2.2.1 x.2.2.2.1 x.2.2.2.2.1 z.2.2 (nI P) (nI C) (nI k) lent J K) (Ps := []) rfl trivial ?_
    refine ww_iret 5 rfl rfl ?_
    exact ⟨by rw [if_pos c1], x, z, rfl⟩
set_option maxHeartbeats 4000000 in
set_option maxRecDepth 100000 in
theorem m_lent (ki mo cd sr J : Nat → Int32) (K : Nat → Nat → Int32) (fr lo fa : Nat → Int32) (sty wset wfor : Int32) (x : MS) (z : Z3) (sy : SY) (T P C k : Nat) (hP : P ≤ 5) (hC : C ≤ 6) (hk : k < T) (hL : ML cd sr T sy) (hmo : MO6 mo) (cc what : Int32) (hwf : sm 30 wfor) : Co M_X7_lent 8 0 0 [.ref 0, .int cc, .int what] (wMv (wiF fr lo fa) ki mo (hoF sty wset wfor) cd sr z.2.1 z.1 x.2.2.2.2.2.1 x.2.2.2.2.2.2 x.1 x.2.1 x.2.2.1 x.2.2.2.1 x.2.2.2.2.1 z.2.2 (nI P) (nI C) (nI k) (-1) J K) (fun r w' => r = some (.int (if ¬ (mIn cc 0 (nI C - 1) ∧ mIn what 0 1) then -100000 else if what = 0 then riS (evS sy P C fr lo fa ki mo k sty wset wfor (-1) 30) - riS (evS sy P C fr lo fa ki mo k sty wset wfor cc 30) else stS P (evS sy P C fr lo fa ki mo k sty wset wfor cc 30) - stS P (evS sy P C fr lo fa ki mo k sty wset wfor (-1) 30))) ∧ ∃ (x : MS) (z : Z3), w' = wMv (wiF fr lo fa) ki mo (hoF sty wset wfor) cd sr z.2.1 z.1 x.2.2.2.2.2.1 x.2.2.2.2.2.2 x.1 x.2.1 x.2.2.1 x.2.2.2.1 x.2.2.2.2.1 z.2.2 (nI P) (nI C) (nI k) (-1) J K) := by
  refine Co.of ok_X7_lent rfl ?_
  refine ww_run 0 2 (pc' := 2) (lv' := [(0, .ref 0), (1, .int cc), (2, .int what)]) (st' := [.int cc, .ref 0]) (w' := wMv (wiF fr lo fa) ki mo (hoF sty wset wfor) cd sr z.2.1 z.1 x.2.2.2.2.2.1 x.2.2.2.2.2.2 x.1 x.2.1 x.2.2.1 x.2.2.2.1 x.2.2.2.2.1 z.2.2 (nI P) (nI C) (nI k) (-1) J K) (Ps := []) rfl trivial ?_
  refine ww_cVi 2 ok_X7_isChair (c_X7_isChair (wiF fr lo fa) ki mo (hoF sty wset wfor) cd sr z.2.1 z.1 x.2.2.2.2.2.1 x.2.2.2.2.2.2 x.1 x.2.1 x.2.2.1 x.2.2.2.1 x.2.2.2.2.1 z.2.2 (nI P) (nI C) (nI k) (-1) J K cc) lk_X7_202 rfl (by omega) (rest := []) rfl (Nat.le_of_ble_eq_true rfl) rfl rfl rfl rfl ?_
  refine ww_if_eq 3 rfl (tgt := 17) rfl (fun c1 => ?_) (fun c1 => ?_)
  · rw [b2i_eq0] at c1
    refine ww_run 9 1 (pc' := 20) (lv' := [(0, .ref 0), (1, .int cc), (2, .int what)]) (st' := [.int (-100000)]) (w' := wMv (wiF fr lo fa) ki mo (hoF sty wset wfor) cd sr z.2.1 z.1 x.2.2.2.2.2.1 x.2.2.2.2.2.2 x.1 x.2.1 x.2.2.1 x.2.2.2.1 x.2.2.2.2.1 z.2.2 (nI P) (nI C) (nI k) (-1) J K) (Ps := []) rfl trivial ?_
    refine ww_iret 10 rfl rfl ?_
    exact ⟨by rw [if_pos (by grind)], x, z, rfl⟩
  · rw [b2i_ne0] at c1
    refine ww_run 4 3 (pc' := 11) (lv' := [(0, .ref 0), (1, .int cc), (2, .int what)]) (st' := [.int 1, .int 0, .int what]) (w' := wMv (wiF fr lo fa) ki mo (hoF sty wset wfor) cd sr z.2.1 z.1 x.2.2.2.2.2.1 x.2.2.2.2.2.2 x.1 x.2.1 x.2.2.1 x.2.2.2.1 x.2.2.2.2.1 z.2.2 (nI P) (nI C) (nI k) (-1) J K) (Ps := []) rfl trivial ?_
    refine ww_cSi 7 ok_X7_in (Co.fr0 (c_X7_in what 0 1) rfl) lk_X7_108 rfl (by omega) (rest := []) rfl (Nat.le_of_ble_eq_true rfl) rfl ?_
    refine ww_if_ne 8 rfl (tgt := 21) rfl (fun c2 => ?_) (fun c2 => ?_)
    · rw [b2i_ne0] at c2
      refine ww_run 11 1 (pc' := 22) (lv' := [(0, .ref 0), (1, .int cc), (2, .int what)]) (st' := [.ref 0]) (w' := wMv (wiF fr lo fa) ki mo (hoF sty wset wfor) cd sr z.2.1 z.1 x.2.2.2.2.2.1 x.2.2.2.2.2.2 x.1 x.2.1 x.2.2.1 x.2.2.2.1 x.2.2.2.2.1 z.2.2 (nI P) (nI C) (nI k) (-1) J K) (Ps := []) rfl trivial ?_
      refine ww_cV 12 ok_X7_worthOfEvening (m_woe ki mo cd sr (-1) J K fr lo fa sty wset wfor x z sy T P C k hP hC hk hL hmo) lk_X7_269 rfl (by omega) (rest := []) rfl (Nat.le_of_ble_eq_true rfl) rfl rfl rfl rfl (fun r w' hq => ?_)
      obtain ⟨rfl, x1, z1, rfl⟩ := hq
      refine ww_run 13 5 (pc' := 32) (lv' := [(3, .int (woS P (evS sy P C fr lo fa ki mo k sty wset wfor (-1) 30))), (0, .ref 0), (1, .int cc), (2, .int what)]) (st' := [.ref 0]) (w' := wMv (wiF fr lo fa) ki mo (hoF sty wset wfor) cd sr z1.2.1 z1.1 x1.2.2.2.2.2.1 x1.2.2.2.2.2.2 x1.1 x1.2.1 x1.2.2.1 x1.2.2.2.1 x1.2.2.2.2.1 z1.2.2 (nI P) (nI C) (nI k) cc J K) (Ps := []) rfl trivial ?_
      refine ww_cV 18 ok_X7_worthOfEvening (m_woe ki mo cd sr cc J K fr lo fa sty wset wfor x1 z1 sy T P C k hP hC hk hL hmo) lk_X7_269 rfl (by omega) (rest := []) rfl (Nat.le_of_ble_eq_true rfl) rfl rfl rfl rfl (fun r w' hq => ?_)
      obtain ⟨rfl, x2, z2, rfl⟩ := hq
      refine ww_run 19 5 (pc' := 43) (lv' := [(4, .int (woS P (evS sy P C fr lo fa ki mo k sty wset wfor cc 30))), (3, .int (woS P (evS sy P C fr lo fa ki mo k sty wset wfor (-1) 30))), (0, .ref 0), (1, .int cc), (2, .int what)]) (st' := [.int what]) (w' := wMv (wiF fr lo fa) ki mo (hoF sty wset wfor) cd sr z2.2.1 z2.1 x2.2.2.2.2.2.1 x2.2.2.2.2.2.2 x2.1 x2.2.1 x2.2.2.1 x2.2.2.2.1 x2.2.2.2.2.1 z2.2.2 (nI P) (nI C) (nI k) (-1) J K) (Ps := []) rfl trivial ?_
      refine ww_if_ne 24 rfl (tgt := 59) rfl (fun c3 => ?_) (fun c3 => ?_)
      · refine ww_run 31 1 (pc' := 61) (lv' := [(4, .int (woS P (evS sy P C fr lo fa ki mo k sty wset wfor cc 30))), (3, .int (woS P (evS sy P C fr lo fa ki mo k sty wset wfor (-1) 30))), (0, .ref 0), (1, .int cc), (2, .int what)]) (st' := [.int (woS P (evS sy P C fr lo fa ki mo k sty wset wfor cc 30))]) (w' := wMv (wiF fr lo fa) ki mo (hoF sty wset wfor) cd sr z2.2.1 z2.1 x2.2.2.2.2.2.1 x2.2.2.2.2.2.2 x2.1 x2.2.1 x2.2.2.1 x2.2.2.2.1 x2.2.2.2.2.1 z2.2.2 (nI P) (nI C) (nI k) (-1) J K) (Ps := []) rfl trivial ?_
        refine ww_cSi 32 ok_X7_stoodOf (Co.fr0 (c_X7_stoodOf (woS P (evS sy P C fr lo fa ki mo k sty wset wfor cc 30))) rfl) lk_X7_262 rfl (by omega) (rest := []) rfl (Nat.le_of_ble_eq_true rfl) rfl ?_
        refine ww_run 33 1 (pc' := 65) (lv' := [(4, .int (woS P (evS sy P C fr lo fa ki mo k sty wset wfor cc 30))), (3, .int (woS P (evS sy P C fr lo fa ki mo k sty wset wfor (-1) 30))), (0, .ref 0), (1, .int cc), (2, .int what)]) (st' := [.int (woS P (evS sy P C fr lo fa ki mo k sty wset wfor (-1) 30)), .int (stoodOf (woS P (evS sy P C fr lo fa ki mo k sty wset wfor cc 30)))]) (w' := wMv (wiF fr lo fa) ki mo (hoF sty wset wfor) cd sr z2.2.1 z2.1 x2.2.2.2.2.2.1 x2.2.2.2.2.2.2 x2.1 x2.2.1 x2.2.2.1 x2.2.2.2.1 x2.2.2.2.2.1 z2.2.2 (nI P) (nI C) (nI k) (-1) J K) (Ps := []) rfl trivial ?_
        refine ww_cSi 34 ok_X7_stoodOf (Co.fr0 (c_X7_stoodOf (woS P (evS sy P C fr lo fa ki mo k sty wset wfor (-1) 30))) rfl) lk_X7_262 rfl (by omega) (rest := [.int (stoodOf (woS P (evS sy P C fr lo fa ki mo k sty wset wfor cc 30)))]) rfl (Nat.le_of_ble_eq_true rfl) rfl ?_
        refine ww_run 35 1 (pc' := 69) (lv' := [(4, .int (woS P (evS sy P C fr lo fa ki mo k sty wset wfor cc 30))), (3, .int (woS P (evS sy P C fr lo fa ki mo k sty wset wfor (-1) 30))), (0, .ref 0), (1, .int cc), (2, .int what)]) (st' := [.int ((stoodOf (woS P (evS sy P C fr lo fa ki mo k sty wset wfor cc 30))) - (stoodOf (woS P (evS sy P C fr lo fa ki mo k sty wset wfor (-1) 30))))]) (w' := wMv (wiF fr lo fa) ki mo (hoF sty wset wfor) cd sr z2.2.1 z2.1 x2.2.2.2.2.2.1 x2.2.2.2.2.2.2 x2.1 x2.2.1 x2.2.2.1 x2.2.2.2.1 x2.2.2.2.2.1 z2.2.2 (nI P) (nI C) (nI k) (-1) J K) (Ps := []) rfl trivial ?_
        refine ww_iret 36 rfl rfl ?_
        have hG1 : GS P (evS sy P C fr lo fa ki mo k sty wset wfor (-1) 30) := GS_of hP (evS_inv hL.2.1 hP hC hmo (by omega)) (evS_num hL.2.1 hP hC hmo hwf (by omega))
        have hG2 : GS P (evS sy P C fr lo fa ki mo k sty wset wfor cc 30) := GS_of hP (evS_inv hL.2.1 hP hC hmo (by omega)) (evS_num hL.2.1 hP hC hmo hwf (by omega))
        exact ⟨by rw [if_neg (fun h => h ⟨c1, c2⟩), if_neg c3]; simp only [ri_wo hG1, ri_wo hG2, st_wo hG1, st_wo hG2], x2, z2, rfl⟩
      · refine ww_run 25 1 (pc' := 47) (lv' := [(4, .int (woS P (evS sy P C fr lo fa ki mo k sty wset wfor cc 30))), (3, .int (woS P (evS sy P C fr lo fa ki mo k sty wset wfor (-1) 30))), (0, .ref 0), (1, .int cc), (2, .int what)]) (st' := [.int (woS P (evS sy P C fr lo fa ki mo k sty wset wfor (-1) 30))]) (w' := wMv (wiF fr lo fa) ki mo (hoF sty wset wfor) cd sr z2.2.1 z2.1 x2.2.2.2.2.2.1 x2.2.2.2.2.2.2 x2.1 x2.2.1 x2.2.2.1 x2.2.2.2.1 x2.2.2.2.2.1 z2.2.2 (nI P) (nI C) (nI k) (-1) J K) (Ps := []) rfl trivial ?_
        refine ww_cSi 26 ok_X7_risenOf (Co.fr0 (c_X7_risenOf (woS P (evS sy P C fr lo fa ki mo k sty wset wfor (-1) 30))) rfl) lk_X7_259 rfl (by omega) (rest := []) rfl (Nat.le_of_ble_eq_true rfl) rfl ?_
        refine ww_run 27 1 (pc' := 52) (lv' := [(4, .int (woS P (evS sy P C fr lo fa ki mo k sty wset wfor cc 30))), (3, .int (woS P (evS sy P C fr lo fa ki mo k sty wset wfor (-1) 30))), (0, .ref 0), (1, .int cc), (2, .int what)]) (st' := [.int (woS P (evS sy P C fr lo fa ki mo k sty wset wfor cc 30)), .int (risenOf (woS P (evS sy P C fr lo fa ki mo k sty wset wfor (-1) 30)))]) (w' := wMv (wiF fr lo fa) ki mo (hoF sty wset wfor) cd sr z2.2.1 z2.1 x2.2.2.2.2.2.1 x2.2.2.2.2.2.2 x2.1 x2.2.1 x2.2.2.1 x2.2.2.2.1 x2.2.2.2.2.1 z2.2.2 (nI P) (nI C) (nI k) (-1) J K) (Ps := []) rfl trivial ?_
        refine ww_cSi 28 ok_X7_risenOf (Co.fr0 (c_X7_risenOf (woS P (evS sy P C fr lo fa ki mo k sty wset wfor cc 30))) rfl) lk_X7_259 rfl (by omega) (rest := [.int (risenOf (woS P (evS sy P C fr lo fa ki mo k sty wset wfor (-1) 30)))]) rfl (Nat.le_of_ble_eq_true rfl) rfl ?_
        refine ww_run 29 2 (pc' := 69) (lv' := [(4, .int (woS P (evS sy P C fr lo fa ki mo k sty wset wfor cc 30))), (3, .int (woS P (evS sy P C fr lo fa ki mo k sty wset wfor (-1) 30))), (0, .ref 0), (1, .int cc), (2, .int what)]) (st' := [.int ((risenOf (woS P (evS sy P C fr lo fa ki mo k sty wset wfor (-1) 30))) - (risenOf (woS P (evS sy P C fr lo fa ki mo k sty wset wfor cc 30))))]) (w' := wMv (wiF fr lo fa) ki mo (hoF sty wset wfor) cd sr z2.2.1 z2.1 x2.2.2.2.2.2.1 x2.2.2.2.2.2.2 x2.1 x2.2.1 x2.2.2.1 x2.2.2.2.1 x2.2.2.2.2.1 z2.2.2 (nI P) (nI C) (nI k) (-1) J K) (Ps := []) rfl trivial ?_
        refine ww_iret 36 rfl rfl ?_
        have hG1 : GS P (evS sy P C fr lo fa ki mo k sty wset wfor (-1) 30) := GS_of hP (evS_inv hL.2.1 hP hC hmo (by omega)) (evS_num hL.2.1 hP hC hmo hwf (by omega))
        have hG2 : GS P (evS sy P C fr lo fa ki mo k sty wset wfor cc 30) := GS_of hP (evS_inv hL.2.1 hP hC hmo (by omega)) (evS_num hL.2.1 hP hC hmo hwf (by omega))
        exact ⟨by rw [if_neg (fun h => h ⟨c1, c2⟩), if_pos c3]; simp only [ri_wo hG1, ri_wo hG2, st_wo hG1, st_wo hG2], x2, z2, rfl⟩
    · rw [b2i_eq0] at c2
      refine ww_run 9 1 (pc' := 20) (lv' := [(0, .ref 0), (1, .int cc), (2, .int what)]) (st' := [.int (-100000)]) (w' := wMv (wiF fr lo fa) ki mo (hoF sty wset wfor) cd sr z.2.1 z.1 x.2.2.2.2.2.1 x.2.2.2.2.2.2 x.1 x.2.1 x.2.2.1 x.2.2.2.1 x.2.2.2.2.1 z.2.2 (nI P) (nI C) (nI k) (-1) J K) (Ps := []) rfl trivial ?_
      refine ww_iret 10 rfl rfl ?_
      exact ⟨by rw [if_pos (by grind)], x, z, rfl⟩
set_option maxHeartbeats 4000000 in
set_option maxRecDepth 100000 in
theorem c_X7_changesAbout (wi ki mo ho cd sr stk names till sitter on was sat stood rose turn : Nat → Int32) (pe ch ru lent : Int32) (J : Nat → Int32) (K : Nat → Nat → Int32) (a b : Nat) (ha : a < 6) (hb : b < 6) : Co M_X7_changesAbout 0 0 0 [.ref 0, .int (nI a), .int (nI b)] (wMv wi ki mo ho cd sr stk names till sitter on was sat stood rose turn pe ch ru lent J K) (Qv (wMv wi (swF ki a b) (swF mo a b) ho cd sr stk names till sitter on was sat stood rose turn pe ch ru lent J K)) := by
  refine Co.of ok_X7_changesAbout rfl ?_
  refine ww_run 0 36 (pc' := 54) (lv' := [(4, .int (mo (nI a).toNatClampNeg)), (3, .int (ki (nI a).toNatClampNeg)), (0, .ref 0), (1, .int (nI a)), (2, .int (nI b))]) (st' := []) (w' := wMv wi (upd (upd ki ((nI a).toNatClampNeg) (ki (nI b).toNatClampNeg)) ((nI b).toNatClampNeg) (ki (nI a).toNatClampNeg)) (upd (upd mo ((nI a).toNatClampNeg) (mo (nI b).toNatClampNeg)) ((nI b).toNatClampNeg) (mo (nI a).toNatClampNeg)) ho cd sr stk names till sitter on was sat stood rose turn pe ch ru lent J K) (Ps := [vp_in (nI a) 6, vp_in (nI a) 6, vp_in (nI b) 6, vp_in (nI a) 6, vp_in (nI b) 6, vp_in (nI a) 6, vp_in (nI b) 6, vp_in (nI b) 6]) rfl ⟨(vp_in_nI (by omega) (by omega)), (vp_in_nI (by omega) (by omega)), (vp_in_nI (by omega) (by omega)), (vp_in_nI (by omega) (by omega)), (vp_in_nI (by omega) (by omega)), (vp_in_nI (by omega) (by omega)), (vp_in_nI (by omega) (by omega)), (vp_in_nI (by omega) (by omega)), trivial⟩ ?_
  rw [nI_clamp (n := a) (by omega)]
  rw [nI_clamp (n := b) (by omega)]
  refine ww_vret 36 rfl rfl ?_
  exact ⟨rfl, rfl⟩
