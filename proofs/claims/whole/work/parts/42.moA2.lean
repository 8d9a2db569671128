set_option maxHeartbeats 4000000 in
set_option maxRecDepth 100000 in
theorem l_X7_cold_5 {Q : Option Value → List va_E → Prop} {d : Nat} (hd : 7 ≤ d) (ki mo cd sr : Nat → Int32) (lent : Int32) (J : Nat → Int32) (K : Nat → Nat → Int32) (fr lo fa : Nat → Int32) (sty wset wfor : Int32) (sy : SY) (T P C k : Nat) (hP : P ≤ 5) (hC : C ≤ 6) (hk : k < T) (hL : ML cd sr T sy) (hmo : MO6 mo) (hQ : ∀ (x : MS) (z : Z3), Q (some (.int (coldS (fun n => decide (¬ setOf (fun c => decide (eWarm ki (evS sy P C fr lo fa ki mo k sty wset wfor lent n).2.2.2.2.2.1 (evS sy P C fr lo fa ki mo k sty wset wfor lent n).2.2.2.2.2.2.2.1 c (nI n))) C = 0 ∨ ¬ (evS sy P C fr lo fa ki mo k sty wset wfor lent n).2.2.2.2.2.2.2.1 = 0)) 31))) (wMv (wiF fr lo fa) ki mo (hoF sty wset wfor) cd sr z.2.1 z.1 x.2.2.2.2.2.1 x.2.2.2.2.2.2 x.1 x.2.1 x.2.2.1 x.2.2.2.1 x.2.2.2.2.1 z.2.2 (nI P) (nI C) (nI k) lent J K)) :
    ∀ (j : Nat) (x : MS) (z : Z3), j ≤ 31 → coldS (fun n => decide (¬ setOf (fun c => decide (eWarm ki (evS sy P C fr lo fa ki mo k sty wset wfor lent n).2.2.2.2.2.1 (evS sy P C fr lo fa ki mo k sty wset wfor lent n).2.2.2.2.2.2.2.1 c (nI n))) C = 0 ∨ ¬ (evS sy P C fr lo fa ki mo k sty wset wfor lent n).2.2.2.2.2.2.2.1 = 0)) j = coldS (fun n => decide (¬ setOf (fun c => decide (eWarm ki (evS sy P C fr lo fa ki mo k sty wset wfor lent n).2.2.2.2.2.1 (evS sy P C fr lo fa ki mo k sty wset wfor lent n).2.2.2.2.2.2.2.1 c (nI n))) C = 0 ∨ ¬ (evS sy P C fr lo fa ki mo k sty wset wfor lent n).2.2.2.2.2.2.2.1 = 0)) 31 → WW M_X7_cold d Q xz 5 [(0, .ref 0), (1, .int (if j = 31 then -1 else nI j)), (2, .int (nI j + (-1)))] [] (wMv (wiF fr lo fa) ki mo (hoF sty wset wfor) cd sr z.2.1 z.1 x.2.2.2.2.2.1 x.2.2.2.2.2.2 x.1 x.2.1 x.2.2.1 x.2.2.2.1 x.2.2.2.2.1 z.2.2 (nI P) (nI C) (nI k) lent J K) := by
  intro j
  induction j with
  | zero =>
    intro x z hj0 hj
    rw [show nI 0 + (-1) = (-1 : Int32) by decide]
    refine ww_run 4 1 (pc' := 6) (lv' := [(0, .ref 0), (1, .int (if 0 = 31 then -1 else nI 0)), (2, .int (-1))]) (st' := [.int (-1)]) (w' := wMv (wiF fr lo fa) ki mo (hoF sty wset wfor) cd sr z.2.1 z.1 x.2.2.2.2.2.1 x.2.2.2.2.2.2 x.1 x.2.1 x.2.2.1 x.2.2.2.1 x.2.2.2.2.1 z.2.2 (nI P) (nI C) (nI k) lent J K) (Ps := []) rfl trivial ?_
    refine ww_if_lt 5 rfl (tgt := 39) rfl (fun c1 => ?_) (fun c1 => ?_)
    · refine ww_run 22 1 (pc' := 40) (lv' := [(0, .ref 0), (1, .int (if 0 = 31 then -1 else nI 0)), (2, .int (-1))]) (st' := [.int (if 0 = 31 then -1 else nI 0)]) (w' := wMv (wiF fr lo fa) ki mo (hoF sty wset wfor) cd sr z.2.1 z.1 x.2.2.2.2.2.1 x.2.2.2.2.2.2 x.1 x.2.1 x.2.2.1 x.2.2.2.1 x.2.2.2.2.1 z.2.2 (nI P) (nI C) (nI k) lent J K) (Ps := []) rfl trivial ?_
      refine ww_iret 23 rfl rfl ?_
      rw [show (if (0 : Nat) = 31 then (-1 : Int32) else nI 0) = coldS (fun n => decide (¬ setOf (fun c => decide (eWarm ki (evS sy P C fr lo fa ki mo k sty wset wfor lent n).2.2.2.2.2.1 (evS sy P C fr lo fa ki mo k sty wset wfor lent n).2.2.2.2.2.2.2.1 c (nI n))) C = 0 ∨ ¬ (evS sy P C fr lo fa ki mo k sty wset wfor lent n).2.2.2.2.2.2.2.1 = 0)) 31 from by rw [← hj]; rfl]
      exact hQ x z
    · exact absurd c1 (by decide)
  | succ j ih =>
    intro x z hj1 hj
    rw [pk_m1 j]
    refine ww_run 4 1 (pc' := 6) (lv' := [(0, .ref 0), (1, .int (if j + 1 = 31 then -1 else nI (j + 1))), (2, .int (nI j))]) (st' := [.int (nI j)]) (w' := wMv (wiF fr lo fa) ki mo (hoF sty wset wfor) cd sr z.2.1 z.1 x.2.2.2.2.2.1 x.2.2.2.2.2.2 x.1 x.2.1 x.2.2.1 x.2.2.2.1 x.2.2.2.2.1 z.2.2 (nI P) (nI C) (nI k) lent J K) (Ps := []) rfl trivial ?_
    refine ww_if_lt 5 rfl (tgt := 39) rfl (fun c1 => ?_) (fun c1 => ?_)
    · exact absurd c1 (nI_pos (by omega))
    · have c1 : ¬ j < 0 := fun q => c1 ((nI_ltI (a := j) (b := 0) (by omega) (by omega)).mpr q)
      refine ww_run 6 2 (pc' := 11) (lv' := [(0, .ref 0), (1, .int (if j + 1 = 31 then -1 else nI (j + 1))), (2, .int (nI j))]) (st' := [.int (nI j), .ref 0]) (w' := wMv (wiF fr lo fa) ki mo (hoF sty wset wfor) cd sr z.2.1 z.1 x.2.2.2.2.2.1 x.2.2.2.2.2.2 x.1 x.2.1 x.2.2.1 x.2.2.2.1 x.2.2.2.2.1 z.2.2 (nI P) (nI C) (nI k) lent J K) (Ps := []) rfl trivial ?_
      refine ww_cV 8 ok_X7_lives (m_lives ki mo cd sr lent J K fr lo fa sty wset wfor x z sy T P C k hP hC hk hL hmo j (by omega)) lk_X7_238 rfl (by omega) (rest := []) rfl (Nat.le_of_ble_eq_true rfl) rfl rfl rfl rfl (fun r w' hq => ?_)
      obtain ⟨rfl, x1, z1, hR1, rfl⟩ := hq
      have hI1 : INV P C (evS sy P C fr lo fa ki mo k sty wset wfor lent j) := evS_inv hL.2.1 hP hC hmo (by omega)
      refine ww_run 9 2 (pc' := 16) (lv' := [(0, .ref 0), (1, .int (if j + 1 = 31 then -1 else nI (j + 1))), (2, .int (nI j))]) (st' := [.int (nI j), .ref 0]) (w' := wMv (wiF fr lo fa) ki mo (hoF sty wset wfor) cd sr z1.2.1 z1.1 x1.2.2.2.2.2.1 x1.2.2.2.2.2.2 x1.1 x1.2.1 x1.2.2.1 x1.2.2.2.1 x1.2.2.2.2.1 z1.2.2 (nI P) (nI C) (nI k) lent J K) (Ps := []) rfl trivial ?_
      refine ww_cVi 11 ok_X7_warmIn (c_X7_warmIn (wiF fr lo fa) ki mo (hoF sty wset wfor) cd sr z1.2.1 z1.1 x1.2.2.2.2.2.1 x1.2.2.2.2.2.2 x1.1 x1.2.1 x1.2.2.1 x1.2.2.2.1 x1.2.2.2.2.1 z1.2.2 (nI P) (nI k) lent J K (nI j) C hC) lk_X7_250 rfl (by omega) (rest := []) rfl (Nat.le_of_ble_eq_true rfl) rfl rfl rfl rfl ?_
      rw [ob_warmIn hC hR1 hI1]
      refine ww_if_ne 12 rfl (tgt := 29) rfl (fun c2 => ?_) (fun c2 => ?_)
      · refine ww_run 16 1 (pc' := 30) (lv' := [(0, .ref 0), (1, .int (if j + 1 = 31 then -1 else nI (j + 1))), (2, .int (nI j))]) (st' := [.int (if j + 1 = 31 then -1 else nI (j + 1))]) (w' := wMv (wiF fr lo fa) ki mo (hoF sty wset wfor) cd sr z1.2.1 z1.1 x1.2.2.2.2.2.1 x1.2.2.2.2.2.2 x1.1 x1.2.1 x1.2.2.1 x1.2.2.2.1 x1.2.2.2.2.1 z1.2.2 (nI P) (nI C) (nI k) lent J K) (Ps := []) rfl trivial ?_
        refine ww_iret 17 rfl rfl ?_
        have hh : decide (¬ setOf (fun c => decide (eWarm ki (evS sy P C fr lo fa ki mo k sty wset wfor lent j).2.2.2.2.2.1 (evS sy P C fr lo fa ki mo k sty wset wfor lent j).2.2.2.2.2.2.2.1 c (nI j))) C = 0 ∨ ¬ (evS sy P C fr lo fa ki mo k sty wset wfor lent j).2.2.2.2.2.2.2.1 = 0) = true := decide_eq_true (by grind)
        have e : (if j + 1 = 31 then (-1 : Int32) else nI (j + 1)) = coldS (fun n => decide (¬ setOf (fun c => decide (eWarm ki (evS sy P C fr lo fa ki mo k sty wset wfor lent n).2.2.2.2.2.1 (evS sy P C fr lo fa ki mo k sty wset wfor lent n).2.2.2.2.2.2.2.1 c (nI n))) C = 0 ∨ ¬ (evS sy P C fr lo fa ki mo k sty wset wfor lent n).2.2.2.2.2.2.2.1 = 0)) 31 := by
          rw [← hj]
          simp only [coldS, hh, if_true]
          by_cases h30 : j < 30
          · rw [if_pos h30, if_neg (by omega)]
          · rw [if_neg h30, if_pos (by omega)]
        rw [e]
        exact hQ x1 z1
      · refine ww_run 13 1 (pc' := 23) (lv' := [(0, .ref 0), (1, .int (if j + 1 = 31 then -1 else nI (j + 1))), (2, .int (nI j))]) (st' := [.ref 0]) (w' := wMv (wiF fr lo fa) ki mo (hoF sty wset wfor) cd sr z1.2.1 z1.1 x1.2.2.2.2.2.1 x1.2.2.2.2.2.2 x1.1 x1.2.1 x1.2.2.1 x1.2.2.2.1 x1.2.2.2.2.1 z1.2.2 (nI P) (nI C) (nI k) lent J K) (Ps := []) rfl trivial ?_
        refine ww_cVi 14 ok_X7_satOn (c_X7_satOn (wiF fr lo fa) ki mo (hoF sty wset wfor) cd sr z1.2.1 z1.1 x1.2.2.2.2.2.1 x1.2.2.2.2.2.2 x1.1 x1.2.1 x1.2.2.1 x1.2.2.2.1 x1.2.2.2.2.1 z1.2.2 (nI P) (nI k) lent J K C hC) lk_X7_253 rfl (by omega) (rest := []) rfl (Nat.le_of_ble_eq_true rfl) rfl rfl rfl rfl ?_
        rw [ob_satOn hC hR1 hI1]
        refine ww_if_eq 15 rfl (tgt := 31) rfl (fun c3 => ?_) (fun c3 => ?_)
        · refine ww_run 18 4 (pc' := 5) (lv' := [(2, .int ((nI j) + (-1))), (1, .int (nI j)), (0, .ref 0)]) (st' := []) (w' := wMv (wiF fr lo fa) ki mo (hoF sty wset wfor) cd sr z1.2.1 z1.1 x1.2.2.2.2.2.1 x1.2.2.2.2.2.2 x1.1 x1.2.1 x1.2.2.1 x1.2.2.2.1 x1.2.2.2.2.1 z1.2.2 (nI P) (nI C) (nI k) lent J K) (Ps := []) rfl trivial ?_
          refine ww_lv [2, 1, 0] (lv' := [(0, .ref 0), (1, .int (nI j)), (2, .int ((nI j) + (-1)))]) rfl ?_
          have hh : decide (¬ setOf (fun c => decide (eWarm ki (evS sy P C fr lo fa ki mo k sty wset wfor lent j).2.2.2.2.2.1 (evS sy P C fr lo fa ki mo k sty wset wfor lent j).2.2.2.2.2.2.2.1 c (nI j))) C = 0 ∨ ¬ (evS sy P C fr lo fa ki mo k sty wset wfor lent j).2.2.2.2.2.2.2.1 = 0) = false := decide_eq_false (by grind)
          have h := ih x1 z1 (by omega) (by rw [← hj]; simp only [coldS, hh]; rfl)
          rw [if_neg (by omega)] at h
          exact h
        · refine ww_run 16 1 (pc' := 30) (lv' := [(0, .ref 0), (1, .int (if j + 1 = 31 then -1 else nI (j + 1))), (2, .int (nI j))]) (st' := [.int (if j + 1 = 31 then -1 else nI (j + 1))]) (w' := wMv (wiF fr lo fa) ki mo (hoF sty wset wfor) cd sr z1.2.1 z1.1 x1.2.2.2.2.2.1 x1.2.2.2.2.2.2 x1.1 x1.2.1 x1.2.2.1 x1.2.2.2.1 x1.2.2.2.2.1 z1.2.2 (nI P) (nI C) (nI k) lent J K) (Ps := []) rfl trivial ?_
          refine ww_iret 17 rfl rfl ?_
          have hh : decide (¬ setOf (fun c => decide (eWarm ki (evS sy P C fr lo fa ki mo k sty wset wfor lent j).2.2.2.2.2.1 (evS sy P C fr lo fa ki mo k sty wset wfor lent j).2.2.2.2.2.2.2.1 c (nI j))) C = 0 ∨ ¬ (evS sy P C fr lo fa ki mo k sty wset wfor lent j).2.2.2.2.2.2.2.1 = 0) = true := decide_eq_true (by grind)
          have e : (if j + 1 = 31 then (-1 : Int32) else nI (j + 1)) = coldS (fun n => decide (¬ setOf (fun c => decide (eWarm ki (evS sy P C fr lo fa ki mo k sty wset wfor lent n).2.2.2.2.2.1 (evS sy P C fr lo fa ki mo k sty wset wfor lent n).2.2.2.2.2.2.2.1 c (nI n))) C = 0 ∨ ¬ (evS sy P C fr lo fa ki mo k sty wset wfor lent n).2.2.2.2.2.2.2.1 = 0)) 31 := by
            rw [← hj]
            simp only [coldS, hh, if_true]
            by_cases h30 : j < 30
            · rw [if_pos h30, if_neg (by omega)]
            · rw [if_neg h30, if_pos (by omega)]
          rw [e]
          exact hQ x1 z1
set_option maxHeartbeats 4000000 in
set_option maxRecDepth 100000 in
theorem m_cold (ki mo cd sr : Nat → Int32) (lent : Int32) (J : Nat → Int32) (K : Nat → Nat → Int32) (fr lo fa : Nat → Int32) (sty wset wfor : Int32) (x : MS) (z : Z3) (sy : SY) (T P C k : Nat) (hP : P ≤ 5) (hC : C ≤ 6) (hk : k < T) (hL : ML cd sr T sy) (hmo : MO6 mo)  : Co M_X7_cold 7 0 0 [.ref 0] (wMv (wiF fr lo fa) ki mo (hoF sty wset wfor) cd sr z.2.1 z.1 x.2.2.2.2.2.1 x.2.2.2.2.2.2 x.1 x.2.1 x.2.2.1 x.2.2.2.1 x.2.2.2.2.1 z.2.2 (nI P) (nI C) (nI k) lent J K) (fun r w' => r = some (.int (coldS (fun n => decide (¬ setOf (fun c => decide (eWarm ki (evS sy P C fr lo fa ki mo k sty wset wfor lent n).2.2.2.2.2.1 (evS sy P C fr lo fa ki mo k sty wset wfor lent n).2.2.2.2.2.2.2.1 c (nI n))) C = 0 ∨ ¬ (evS sy P C fr lo fa ki mo k sty wset wfor lent n).2.2.2.2.2.2.2.1 = 0)) 31)) ∧ ∃ (x : MS) (z : Z3), w' = wMv (wiF fr lo fa) ki mo (hoF sty wset wfor) cd sr z.2.1 z.1 x.2.2.2.2.2.1 x.2.2.2.2.2.2 x.1 x.2.1 x.2.2.1 x.2.2.2.1 x.2.2.2.2.1 z.2.2 (nI P) (nI C) (nI k) lent J K) := by
  refine Co.of ok_X7_cold rfl ?_
  refine ww_run 0 4 (pc' := 5) (lv' := [(2, .int 30), (1, .int (-1)), (0, .ref 0)]) (st' := []) (w' := wMv (wiF fr lo fa) ki mo (hoF sty wset wfor) cd sr z.2.1 z.1 x.2.2.2.2.2.1 x.2.2.2.2.2.2 x.1 x.2.1 x.2.2.1 x.2.2.2.1 x.2.2.2.2.1 z.2.2 (nI P) (nI C) (nI k) lent J K) (Ps := []) rfl trivial ?_
  refine ww_lv [2, 1, 0] (lv' := [(0, .ref 0), (1, .int (-1)), (2, .int 30)]) rfl ?_
  refine l_X7_cold_5 (by omega) ki mo cd sr lent J K fr lo fa sty wset wfor sy T P C k hP hC hk hL hmo (fun x z => ⟨rfl, x, z, rfl⟩) 31 x z (by omega) rfl
set_option maxHeartbeats 4000000 in
set_option maxRecDepth 100000 in
theorem l_X7_ones_4 {Q : Option Value → List va_E → Prop} {d : Nat} (hd : 0 ≤ d)   (x : Int32) (KK : WW M_X7_ones d Q xz 24 [(0, .int x), (1, .int (sumTo (fun q => (x >>> ((nI q) &&& 31)) &&& 1) 6)), (2, .int (nI 6))] [] wZero) :
    ∀ (n i : Nat) , i ≤ 6 → 6 + 1 ≤ i + n → WW M_X7_ones d Q xz 4 [(0, .int x), (1, .int (sumTo (fun q => (x >>> ((nI q) &&& 31)) &&& 1) i)), (2, .int (nI i))] [] (wZero ) := by
  intro n
  induction n with
  | zero => intro i; intros; omega
  | succ n ih =>
    intro i  hi hn 
    refine ww_run 4 2 (pc' := 7) (lv' := [(0, .int x), (1, .int (sumTo (fun q => (x >>> ((nI q) &&& 31)) &&& 1) i)), (2, .int (nI i))]) (st' := [.int 6, .int (nI i)]) (w' := wZero ) (Ps := []) rfl trivial ?_
    refine ww_icmp_ge 6 rfl (tgt := 24) rfl (fun c1 => ?_) (fun c1 => ?_)
    · have c1 : 6 ≤ i := (nI_leI (a := 6) (b := i) (by omega) (by omega)).mp c1
      obtain rfl : i = 6 := by omega
      exact KK
    · have c1 : ¬ 6 ≤ i := fun q => c1 ((nI_leI (a := 6) (b := i) (by omega) (by omega)).mpr q)
      refine ww_run 7 10 (pc' := 4) (lv' := [(2, .int ((nI i) + 1)), (1, .int ((sumTo (fun q => (x >>> ((nI q) &&& 31)) &&& 1) i) + ((x >>> ((nI i) &&& 31)) &&& 1))), (0, .int x)]) (st' := []) (w' := wZero ) (Ps := []) rfl trivial ?_
      rw [nI_1 i]
      refine ww_lv [2, 1, 0] (lv' := [(0, .int x), (1, .int ((sumTo (fun q => (x >>> ((nI q) &&& 31)) &&& 1) i) + ((x >>> ((nI i) &&& 31)) &&& 1))), (2, .int (nI (i + 1)))]) rfl ?_
      exact ih (i + 1) (by omega) (by omega)
set_option maxHeartbeats 4000000 in
set_option maxRecDepth 100000 in
theorem c_X7_ones  (x : Int32) : Co M_X7_ones 0 0 0 [.int x] (wZero ) (Qi (sumTo (fun q => (x >>> ((nI q) &&& 31)) &&& 1) 6) wZero ) := by
  refine Co.of ok_X7_ones rfl ?_
  refine ww_run 0 4 (pc' := 4) (lv' := [(2, .int 0), (1, .int 0), (0, .int x)]) (st' := []) (w' := wZero ) (Ps := []) rfl trivial ?_
  refine ww_lv [2, 1, 0] (lv' := [(0, .int x), (1, .int 0), (2, .int 0)]) rfl ?_
  refine l_X7_ones_4 (by omega) x ?_ 7 0 (by omega) (by omega)
  refine ww_run 17 1 (pc' := 25) (lv' := [(0, .int x), (1, .int (sumTo (fun q => (x >>> ((nI q) &&& 31)) &&& 1) 6)), (2, .int (nI 6))]) (st' := [.int (sumTo (fun q => (x >>> ((nI q) &&& 31)) &&& 1) 6)]) (w' := wZero ) (Ps := []) rfl trivial ?_
  refine ww_iret 18 rfl rfl ?_
  exact ⟨rfl, rfl⟩
theorem m_ones {s : Nat} (hs : s < 64) {w : List va_E} : Co M_X7_ones 0 0 0 [.int (nI s)] w (Qi (nI (onesN s)) w) := by
  rw [← ones_dec ⟨s, hs⟩]
  exact Co.fr0 (c_X7_ones (nI s)) rfl
theorem onesN_le (s : Nat) : onesN s ≤ 6 := by
  unfold onesN
  omega
def begV (o : Option Nat) (what : Int32) : Int32 := if what = 0 then o2i o else match o with
  | none => -1
  | some b => nI (onesN b)
set_option maxHeartbeats 4000000 in
set_option maxRecDepth 100000 in
theorem l_X7_begin_24 {Q : Option Value → List va_E → Prop} {d : Nat} (hd : 7 ≤ d) (ki mo cd sr : Nat → Int32) (lent : Int32) (J : Nat → Int32) (K : Nat → Nat → Int32) (fr lo fa : Nat → Int32) (sty wset wfor : Int32) (sy : SY) (T P C k : Nat) (hP : P ≤ 5) (hC : C ≤ 6) (hk : k < T) (hL : ML cd sr T sy) (hmo : MO6 mo) (what : Int32) (KK : ∀ (v : Int32) (x : MS) (z : Z3), WW M_X7_begin d Q xz 90 [(0, .ref 0), (1, .int what), (2, .int wset), (3, .int (o2i (bestOf (fun q => decide (riS (evS sy P C fr lo fa ki mo k sty (nI q) wfor lent 30) = nI P)) (fun q b => decide (onesN q < onesN b)) (2 ^ C)))), (4, .int (nI (2 ^ C)))] [] (wMv (wiF fr lo fa) ki mo (hoF sty v wfor) cd sr z.2.1 z.1 x.2.2.2.2.2.1 x.2.2.2.2.2.2 x.1 x.2.1 x.2.2.1 x.2.2.2.1 x.2.2.2.2.1 z.2.2 (nI P) (nI C) (nI k) lent J K)) :
    ∀ (n i : Nat) (v : Int32) (x : MS) (z : Z3), i ≤ 2 ^ C → 2 ^ C + 1 ≤ i + n → WW M_X7_begin d Q xz 24 [(0, .ref 0), (1, .int what), (2, .int wset), (3, .int (o2i (bestOf (fun q => decide (riS (evS sy P C fr lo fa ki mo k sty (nI q) wfor lent 30) = nI P)) (fun q b => decide (onesN q < onesN b)) i))), (4, .int (nI i))] [] (wMv (wiF fr lo fa) ki mo (hoF sty v wfor) cd sr z.2.1 z.1 x.2.2.2.2.2.1 x.2.2.2.2.2.2 x.1 x.2.1 x.2.2.1 x.2.2.2.1 x.2.2.2.2.1 z.2.2 (nI P) (nI C) (nI k) lent J K) := by
  intro n
  induction n with
  | zero => intro i; intros; omega
  | succ n ih =>
    intro i v x z hi hn 
    have hCC := pow_le ⟨C, by omega⟩
    have hCC : 2 ^ C ≤ 64 := hCC
    refine ww_run 16 5 (pc' := 32) (lv' := [(0, .ref 0), (1, .int what), (2, .int wset), (3, .int (o2i (bestOf (fun q => decide (riS (evS sy P C fr lo fa ki mo k sty (nI q) wfor lent 30) = nI P)) (fun q b => decide (onesN q < onesN b)) i))), (4, .int (nI i))]) (st' := [.int (1 <<< ((nI C) &&& 31)), .int (nI i)]) (w' := wMv (wiF fr lo fa) ki mo (hoF sty v wfor) cd sr z.2.1 z.1 x.2.2.2.2.2.1 x.2.2.2.2.2.2 x.1 x.2.1 x.2.2.1 x.2.2.2.1 x.2.2.2.2.1 z.2.2 (nI P) (nI C) (nI k) lent J K) (Ps := []) rfl trivial ?_
    rw [pow_C ⟨C, by omega⟩]
    refine ww_icmp_ge 21 rfl (tgt := 90) rfl (fun c1 => ?_) (fun c1 => ?_)
    · have c1 : 2 ^ C ≤ i := (nI_leI (a := (2 ^ C)) (b := i) (by omega) (by omega)).mp c1
      obtain rfl : i = 2 ^ C := by omega
      exact KK v x z
    · have c1 : ¬ 2 ^ C ≤ i := fun q => c1 ((nI_leI (a := (2 ^ C)) (b := i) (by omega) (by omega)).mpr q)
      rcases hb : bestOf (fun q => decide (riS (evS sy P C fr lo fa ki mo k sty (nI q) wfor lent 30) = nI P)) (fun q b => decide (onesN q < onesN b)) i with _ | b
      · skip
        refine ww_run 22 2 (pc' := 37) (lv' := [(0, .ref 0), (1, .int what), (2, .int wset), (3, .int (-1)), (4, .int (nI i))]) (st' := [.int (-1), .int (-1)]) (w' := wMv (wiF fr lo fa) ki mo (hoF sty v wfor) cd sr z.2.1 z.1 x.2.2.2.2.2.1 x.2.2.2.2.2.2 x.1 x.2.1 x.2.2.1 x.2.2.2.1 x.2.2.2.2.1 z.2.2 (nI P) (nI C) (nI k) lent J K) (Ps := []) rfl trivial ?_
        refine ww_icmp_eq 24 rfl (tgt := 52) rfl (fun c2 => ?_) (fun c2 => ?_)
        · refine ww_run 30 7 (pc' := 63) (lv' := [(0, .ref 0), (1, .int what), (2, .int wset), (3, .int (-1)), (4, .int (nI i))]) (st' := [.int 30, .ref 0]) (w' := wMv (wiF fr lo fa) ki mo (upd (hoF sty v wfor) 1 (nI i)) cd sr z.2.1 z.1 x.2.2.2.2.2.1 x.2.2.2.2.2.2 x.1 x.2.1 x.2.2.1 x.2.2.2.1 x.2.2.2.2.1 z.2.2 (nI P) (nI C) (nI k) lent J K) (Ps := [vp_in 1 3]) rfl ⟨(vp_in_nI (n := 1) (by decide) (by decide)), trivial⟩ ?_
          rw [ho_u1]
          refine ww_cV 37 ok_X7_lives (m_lives ki mo cd sr lent J K fr lo fa sty (nI i) wfor x z sy T P C k hP hC hk hL hmo 30 (by omega)) lk_X7_238 rfl (by omega) (rest := []) rfl (Nat.le_of_ble_eq_true rfl) rfl rfl rfl rfl (fun r w' hq => ?_)
          obtain ⟨rfl, x1, z1, hR1, rfl⟩ := hq
          have hI1 : INV P C (evS sy P C fr lo fa ki mo k sty (nI i) wfor lent 30) := evS_inv hL.2.1 hP hC hmo (by omega)
          refine ww_run 38 1 (pc' := 67) (lv' := [(0, .ref 0), (1, .int what), (2, .int wset), (3, .int (-1)), (4, .int (nI i))]) (st' := [.ref 0]) (w' := wMv (wiF fr lo fa) ki mo (hoF sty (nI i) wfor) cd sr z1.2.1 z1.1 x1.2.2.2.2.2.1 x1.2.2.2.2.2.2 x1.1 x1.2.1 x1.2.2.1 x1.2.2.2.1 x1.2.2.2.2.1 z1.2.2 (nI P) (nI C) (nI k) lent J K) (Ps := []) rfl trivial ?_
          refine ww_cVi 39 ok_X7_risen (c_X7_risen (wiF fr lo fa) ki mo (hoF sty (nI i) wfor) cd sr z1.2.1 z1.1 x1.2.2.2.2.2.1 x1.2.2.2.2.2.2 x1.1 x1.2.1 x1.2.2.1 x1.2.2.2.1 x1.2.2.2.2.1 z1.2.2 (nI C) (nI k) lent J K P hP) lk_X7_241 rfl (by omega) (rest := []) rfl (Nat.le_of_ble_eq_true rfl) rfl rfl rfl rfl ?_
          rw [ob_risen hR1 hI1]
          refine ww_run 40 2 (pc' := 74) (lv' := [(0, .ref 0), (1, .int what), (2, .int wset), (3, .int (-1)), (4, .int (nI i))]) (st' := [.int (nI P), .int (riS (evS sy P C fr lo fa ki mo k sty (nI i) wfor lent 30))]) (w' := wMv (wiF fr lo fa) ki mo (hoF sty (nI i) wfor) cd sr z1.2.1 z1.1 x1.2.2.2.2.2.1 x1.2.2.2.2.2.2 x1.1 x1.2.1 x1.2.2.1 x1.2.2.2.1 x1.2.2.2.2.1 z1.2.2 (nI P) (nI C) (nI k) lent J K) (Ps := []) rfl trivial ?_
          refine ww_icmp_ne 42 rfl (tgt := 82) rfl (fun c3 => ?_) (fun c3 => ?_)
          · refine ww_run 45 4 (pc' := 24) (lv' := [(4, .int ((nI i) + 1)), (3, .int (-1)), (0, .ref 0), (1, .int what), (2, .int wset)]) (st' := []) (w' := wMv (wiF fr lo fa) ki mo (hoF sty (nI i) wfor) cd sr z1.2.1 z1.1 x1.2.2.2.2.2.1 x1.2.2.2.2.2.2 x1.1 x1.2.1 x1.2.2.1 x1.2.2.2.1 x1.2.2.2.2.1 z1.2.2 (nI P) (nI C) (nI k) lent J K) (Ps := []) rfl trivial ?_
            rw [nI_1 i]
            refine ww_lv [2, 3, 4, 1, 0] (lv' := [(0, .ref 0), (1, .int what), (2, .int wset), (3, .int (-1)), (4, .int (nI (i + 1)))]) rfl ?_
            have e : bestOf (fun q => decide (riS (evS sy P C fr lo fa ki mo k sty (nI q) wfor lent 30) = nI P)) (fun q b => decide (onesN q < onesN b)) (i + 1) = none := bestOf_nn hb (decide_eq_false c3)
            have h := ih (i + 1) (nI i) x1 z1 (by omega) (by omega)
            rw [e] at h
            exact h
          · refine ww_run 43 2 (pc' := 83) (lv' := [(0, .ref 0), (1, .int what), (2, .int wset), (3, .int (-1)), (4, .int (nI i))]) (st' := [.int (nI i)]) (w' := wMv (wiF fr lo fa) ki mo (hoF sty (nI i) wfor) cd sr z1.2.1 z1.1 x1.2.2.2.2.2.1 x1.2.2.2.2.2.2 x1.1 x1.2.1 x1.2.2.1 x1.2.2.2.1 x1.2.2.2.2.1 z1.2.2 (nI P) (nI C) (nI k) lent J K) (Ps := []) rfl trivial ?_
            refine ww_run 46 3 (pc' := 24) (lv' := [(4, .int ((nI i) + 1)), (3, .int (nI i)), (0, .ref 0), (1, .int what), (2, .int wset)]) (st' := []) (w' := wMv (wiF fr lo fa) ki mo (hoF sty (nI i) wfor) cd sr z1.2.1 z1.1 x1.2.2.2.2.2.1 x1.2.2.2.2.2.2 x1.1 x1.2.1 x1.2.2.1 x1.2.2.2.1 x1.2.2.2.2.1 z1.2.2 (nI P) (nI C) (nI k) lent J K) (Ps := []) rfl trivial ?_
            rw [nI_1 i]
            refine ww_lv [2, 3, 4, 1, 0] (lv' := [(0, .ref 0), (1, .int what), (2, .int wset), (3, .int (nI i)), (4, .int (nI (i + 1)))]) rfl ?_
            have e : bestOf (fun q => decide (riS (evS sy P C fr lo fa ki mo k sty (nI q) wfor lent 30) = nI P)) (fun q b => decide (onesN q < onesN b)) (i + 1) = some i := bestOf_nt hb (decide_eq_true c3)
            have h := ih (i + 1) (nI i) x1 z1 (by omega) (by omega)
            rw [e] at h
            exact h
        · exact absurd c2 (by decide)
      · have hbl := bestOf_lt hb
        have ob := onesN_le b
        have oi := onesN_le i
        refine ww_run 22 2 (pc' := 37) (lv' := [(0, .ref 0), (1, .int what), (2, .int wset), (3, .int (nI b)), (4, .int (nI i))]) (st' := [.int (-1), .int (nI b)]) (w' := wMv (wiF fr lo fa) ki mo (hoF sty v wfor) cd sr z.2.1 z.1 x.2.2.2.2.2.1 x.2.2.2.2.2.2 x.1 x.2.1 x.2.2.1 x.2.2.2.1 x.2.2.2.2.1 z.2.2 (nI P) (nI C) (nI k) lent J K) (Ps := []) rfl trivial ?_
        refine ww_icmp_eq 24 rfl (tgt := 52) rfl (fun c4 => ?_) (fun c4 => ?_)
        · exact absurd c4 (nI_ne_m1 (by omega))
        · refine ww_run 25 1 (pc' := 42) (lv' := [(0, .ref 0), (1, .int what), (2, .int wset), (3, .int (nI b)), (4, .int (nI i))]) (st' := [.int (nI i)]) (w' := wMv (wiF fr lo fa) ki mo (hoF sty v wfor) cd sr z.2.1 z.1 x.2.2.2.2.2.1 x.2.2.2.2.2.2 x.1 x.2.1 x.2.2.1 x.2.2.2.1 x.2.2.2.2.1 z.2.2 (nI P) (nI C) (nI k) lent J K) (Ps := []) rfl trivial ?_
          refine ww_cSi 26 ok_X7_ones (m_ones (s := i) (by omega)) lk_X7_265 rfl (by omega) (rest := []) rfl (Nat.le_of_ble_eq_true rfl) rfl ?_
          refine ww_run 27 1 (pc' := 46) (lv' := [(0, .ref 0), (1, .int what), (2, .int wset), (3, .int (nI b)), (4, .int (nI i))]) (st' := [.int (nI b), .int (nI (onesN i))]) (w' := wMv (wiF fr lo fa) ki mo (hoF sty v wfor) cd sr z.2.1 z.1 x.2.2.2.2.2.1 x.2.2.2.2.2.2 x.1 x.2.1 x.2.2.1 x.2.2.2.1 x.2.2.2.2.1 z.2.2 (nI P) (nI C) (nI k) lent J K) (Ps := []) rfl trivial ?_
          refine ww_cSi 28 ok_X7_ones (m_ones (s := b) (by omega)) lk_X7_265 rfl (by omega) (rest := [.int (nI (onesN i))]) rfl (Nat.le_of_ble_eq_true rfl) rfl ?_
          refine ww_icmp_ge 29 rfl (tgt := 84) rfl (fun c5 => ?_) (fun c5 => ?_)
          · have c5 : onesN b ≤ onesN i := (nI_leI (a := (onesN b)) (b := (onesN i)) (by omega) (by omega)).mp c5
            refine ww_run 47 2 (pc' := 24) (lv' := [(4, .int ((nI i) + 1)), (0, .ref 0), (1, .int what), (2, .int wset), (3, .int (nI b))]) (st' := []) (w' := wMv (wiF fr lo fa) ki mo (hoF sty v wfor) cd sr z.2.1 z.1 x.2.2.2.2.2.1 x.2.2.2.2.2.2 x.1 x.2.1 x.2.2.1 x.2.2.2.1 x.2.2.2.2.1 z.2.2 (nI P) (nI C) (nI k) lent J K) (Ps := []) rfl trivial ?_
            rw [nI_1 i]
            refine ww_lv [1, 2, 3, 4, 0] (lv' := [(0, .ref 0), (1, .int what), (2, .int wset), (3, .int (nI b)), (4, .int (nI (i + 1)))]) rfl ?_
            have e : bestOf (fun q => decide (riS (evS sy P C fr lo fa ki mo k sty (nI q) wfor lent 30) = nI P)) (fun q b => decide (onesN q < onesN b)) (i + 1) = some b := bestOf_sa hb (decide_eq_false (by omega))
            have h := ih (i + 1) v x z (by omega) (by omega)
            rw [e] at h
            exact h
          · have c5 : ¬ onesN b ≤ onesN i := fun q => c5 ((nI_leI (a := (onesN b)) (b := (onesN i)) (by omega) (by omega)).mpr q)
            refine ww_run 30 7 (pc' := 63) (lv' := [(0, .ref 0), (1, .int what), (2, .int wset), (3, .int (nI b)), (4, .int (nI i))]) (st' := [.int 30, .ref 0]) (w' := wMv (wiF fr lo fa) ki mo (upd (hoF sty v wfor) 1 (nI i)) cd sr z.2.1 z.1 x.2.2.2.2.2.1 x.2.2.2.2.2.2 x.1 x.2.1 x.2.2.1 x.2.2.2.1 x.2.2.2.2.1 z.2.2 (nI P) (nI C) (nI k) lent J K) (Ps := [vp_in 1 3]) rfl ⟨(vp_in_nI (n := 1) (by decide) (by decide)), trivial⟩ ?_
            rw [ho_u1]
            refine ww_cV 37 ok_X7_lives (m_lives ki mo cd sr lent J K fr lo fa sty (nI i) wfor x z sy T P C k hP hC hk hL hmo 30 (by omega)) lk_X7_238 rfl (by omega) (rest := []) rfl (Nat.le_of_ble_eq_true rfl) rfl rfl rfl rfl (fun r w' hq => ?_)
            obtain ⟨rfl, x1, z1, hR1, rfl⟩ := hq
            have hI1 : INV P C (evS sy P C fr lo fa ki mo k sty (nI i) wfor lent 30) := evS_inv hL.2.1 hP hC hmo (by omega)
            refine ww_run 38 1 (pc' := 67) (lv' := [(0, .ref 0), (1, .int what), (2, .int wset), (3, .int (nI b)), (4, .int (nI i))]) (st' := [.ref 0]) (w' := wMv (wiF fr lo fa) ki mo (hoF sty (nI i) wfor) cd sr z1.2.1 z1.1 x1.2.2.2.2.2.1 x1.2.2.2.2.2.2 x1.1 x1.2.1 x1.2.2.1 x1.2.2.2.1 x1.2.2.2.2.1 z1.2.2 (nI P) (nI C) (nI k) lent J K) (Ps := []) rfl trivial ?_
            refine ww_cVi 39 ok_X7_risen (c_X7_risen (wiF fr lo fa) ki mo (hoF sty (nI i) wfor) cd sr z1.2.1 z1.1 x1.2.2.2.2.2.1 x1.2.2.2.2.2.2 x1.1 x1.2.1 x1.2.2.1 x1.2.2.2.1 x1.2.2.2.2.1 z1.2.2 (nI C) (nI k) lent J K P hP) lk_X7_241 rfl (by omega) (rest := []) rfl (Nat.le_of_ble_eq_true rfl) rfl rfl rfl rfl ?_
            rw [ob_risen hR1 hI1]
            refine ww_run 40 2 (pc' := 74) (lv' := [(0, .ref 0), (1, .int what), (2, .int wset), (3, .int (nI b)), (4, .int (nI i))]) (st' := [.int (nI P), .int (riS (evS sy P C fr lo fa ki mo k sty (nI i) wfor lent 30))]) (w' := wMv (wiF fr lo fa) ki mo (hoF sty (nI i) wfor) cd sr z1.2.1 z1.1 x1.2.2.2.2.2.1 x1.2.2.2.2.2.2 x1.1 x1.2.1 x1.2.2.1 x1.2.2.2.1 x1.2.2.2.2.1 z1.2.2 (nI P) (nI C) (nI k) lent J K) (Ps := []) rfl trivial ?_
            refine ww_icmp_ne 42 rfl (tgt := 82) rfl (fun c6 => ?_) (fun c6 => ?_)
            · refine ww_run 45 4 (pc' := 24) (lv' := [(4, .int ((nI i) + 1)), (3, .int (nI b)), (0, .ref 0), (1, .int what), (2, .int wset)]) (st' := []) (w' := wMv (wiF fr lo fa) ki mo (hoF sty (nI i) wfor) cd sr z1.2.1 z1.1 x1.2.2.2.2.2.1 x1.2.2.2.2.2.2 x1.1 x1.2.1 x1.2.2.1 x1.2.2.2.1 x1.2.2.2.2.1 z1.2.2 (nI P) (nI C) (nI k) lent J K) (Ps := []) rfl trivial ?_
              rw [nI_1 i]
              refine ww_lv [2, 3, 4, 1, 0] (lv' := [(0, .ref 0), (1, .int what), (2, .int wset), (3, .int (nI b)), (4, .int (nI (i + 1)))]) rfl ?_
              have e : bestOf (fun q => decide (riS (evS sy P C fr lo fa ki mo k sty (nI q) wfor lent 30) = nI P)) (fun q b => decide (onesN q < onesN b)) (i + 1) = some b := bestOf_sf hb (decide_eq_false c6)
              have h := ih (i + 1) (nI i) x1 z1 (by omega) (by omega)
              rw [e] at h
              exact h
            · refine ww_run 43 2 (pc' := 83) (lv' := [(0, .ref 0), (1, .int what), (2, .int wset), (3, .int (nI b)), (4, .int (nI i))]) (st' := [.int (nI i)]) (w' := wMv (wiF fr lo fa) ki mo (hoF sty (nI i) wfor) cd sr z1.2.1 z1.1 x1.2.2.2.2.2.1 x1.2.2.2.2.2.2 x1.1 x1.2.1 x1.2.2.1 x1.2.2.2.1 x1.2.2.2.2.1 z1.2.2 (nI P) (nI C) (nI k) lent J K) (Ps := []) rfl trivial ?_
              refine ww_run 46 3 (pc' := 24) (lv' := [(4, .int ((nI i) + 1)), (3, .int (nI i)), (0, .ref 0), (1, .int what), (2, .int wset)]) (st' := []) (w' := wMv (wiF fr lo fa) ki mo (hoF sty (nI i) wfor) cd sr z1.2.1 z1.1 x1.2.2.2.2.2.1 x1.2.2.2.2.2.2 x1.1 x1.2.1 x1.2.2.1 x1.2.2.2.1 x1.2.2.2.2.1 z1.2.2 (nI P) (nI C) (nI k) lent J K) (Ps := []) rfl trivial ?_
              rw [nI_1 i]
              refine ww_lv [2, 3, 4, 1, 0] (lv' := [(0, .ref 0), (1, .int what), (2, .int wset), (3, .int (nI i)), (4, .int (nI (i + 1)))]) rfl ?_
              have e : bestOf (fun q => decide (riS (evS sy P C fr lo fa ki mo k sty (nI q) wfor lent 30) = nI P)) (fun q b => decide (onesN q < onesN b)) (i + 1) = some i := bestOf_st hb (decide_eq_true c6) (decide_eq_true (by omega))
              have h := ih (i + 1) (nI i) x1 z1 (by omega) (by omega)
              rw [e] at h
              exact h
set_option maxHeartbeats 4000000 in
set_option maxRecDepth 100000 in
theorem m_begin (ki mo cd sr : Nat → Int32) (lent : Int32) (J : Nat → Int32) (K : Nat → Nat → Int32) (fr lo fa : Nat → Int32) (sty wset wfor : Int32) (x : MS) (z : Z3) (sy : SY) (T P C k : Nat) (hP : P ≤ 5) (hC : C ≤ 6) (hk : k < T) (hL : ML cd sr T sy) (hmo : MO6 mo) (what : Int32) : Co M_X7_begin 8 0 0 [.ref 0, .int what] (wMv (wiF fr lo fa) ki mo (hoF sty wset wfor) cd sr z.2.1 z.1 x.2.2.2.2.2.1 x.2.2.2.2.2.2 x.1 x.2.1 x.2.2.1 x.2.2.2.1 x.2.2.2.2.1 z.2.2 (nI P) (nI C) (nI k) lent J K) (fun r w' => r = some (.int (if ¬ mIn what 0 1 then -2 else begV (bestOf (fun q => decide (riS (evS sy P C fr lo fa ki mo k sty (nI q) wfor lent 30) = nI P)) (fun q b => decide (onesN q < onesN b)) (2 ^ C)) what)) ∧ ∃ (x : MS) (z : Z3), w' = wMv (wiF fr lo fa) ki mo (hoF sty wset wfor) cd sr z.2.1 z.1 x.2.2.2.2.2.1 x.2.2.2.2.2.2 x.1 x.2.1 x.2.2.1 x.2.2.2.1 x.2.2.2.2.1 z.2.2 (nI P) (nI C) (nI k) lent J K) := by
  refine Co.of ok_X7_begin rfl ?_
  refine ww_run 0 3 (pc' := 3) (lv' := [(0, .ref 0), (1, .int what)]) (st' := [.int 1, .int 0, .int what]) (w' := wMv (wiF fr lo fa) ki mo (hoF sty wset wfor) cd sr z.2.1 z.1 x.2.2.2.2.2.1 x.2.2.2.2.2.2 x.1 x.2.1 x.2.2.1 x.2.2.2.1 x.2.2.2.2.1 z.2.2 (nI P) (nI C) (nI k) lent J K) (Ps := []) rfl trivial ?_
  refine ww_cSi 3 ok_X7_in (Co.fr0 (c_X7_in what 0 1) rfl) lk_X7_108 rfl (by omega) (rest := []) rfl (Nat.le_of_ble_eq_true rfl) rfl ?_
  refine ww_if_ne 4 rfl (tgt := 12) rfl (fun c1 => ?_) (fun c1 => ?_)
  · rw [b2i_ne0] at c1
    refine ww_run 7 9 (pc' := 24) (lv' := [(4, .int 0), (3, .int (-1)), (2, .int wset), (0, .ref 0), (1, .int what)]) (st' := []) (w' := wMv (wiF fr lo fa) ki mo (hoF sty wset wfor) cd sr z.2.1 z.1 x.2.2.2.2.2.1 x.2.2.2.2.2.2 x.1 x.2.1 x.2.2.1 x.2.2.2.1 x.2.2.2.2.1 z.2.2 (nI P) (nI C) (nI k) lent J K) (Ps := [vp_in 1 3]) rfl ⟨(vp_in_nI (n := 1) (by decide) (by decide)), trivial⟩ ?_
    refine ww_lv [3, 4, 2, 1, 0] (lv' := [(0, .ref 0), (1, .int what), (2, .int wset), (3, .int (-1)), (4, .int 0)]) rfl ?_
    have hCC : 2 ^ C ≤ 64 := pow_le ⟨C, by omega⟩
    refine l_X7_begin_24 (by omega) ki mo cd sr lent J K fr lo fa sty wset wfor sy T P C k hP hC hk hL hmo what (fun v1 x1 z1 => ?_) (2 ^ C + 1) 0 wset x z (Nat.zero_le _) (by omega)
    rcases hb : bestOf (fun q => decide (riS (evS sy P C fr lo fa ki mo k sty (nI q) wfor lent 30) = nI P)) (fun q b => decide (onesN q < onesN b)) (2 ^ C) with _ | b
    · skip
      refine ww_run 49 6 (pc' := 98) (lv' := [(0, .ref 0), (1, .int what), (2, .int wset), (3, .int (-1)), (4, .int (nI (2 ^ C)))]) (st' := [.int what]) (w' := wMv (wiF fr lo fa) ki mo (upd (hoF sty v1 wfor) 1 wset) cd sr z1.2.1 z1.1 x1.2.2.2.2.2.1 x1.2.2.2.2.2.2 x1.1 x1.2.1 x1.2.2.1 x1.2.2.2.1 x1.2.2.2.2.1 z1.2.2 (nI P) (nI C) (nI k) lent J K) (Ps := [vp_in 1 3]) rfl ⟨(vp_in_nI (n := 1) (by decide) (by decide)), trivial⟩ ?_
      rw [ho_u1]
      refine ww_if_eq 55 rfl (tgt := 106) rfl (fun c2 => ?_) (fun c2 => ?_)
      · refine ww_run 59 2 (pc' := 114) (lv' := [(0, .ref 0), (1, .int what), (2, .int wset), (3, .int (-1)), (4, .int (nI (2 ^ C)))]) (st' := [.int (-1)]) (w' := wMv (wiF fr lo fa) ki mo (hoF sty wset wfor) cd sr z1.2.1 z1.1 x1.2.2.2.2.2.1 x1.2.2.2.2.2.2 x1.1 x1.2.1 x1.2.2.1 x1.2.2.2.1 x1.2.2.2.2.1 z1.2.2 (nI P) (nI C) (nI k) lent J K) (Ps := []) rfl trivial ?_
        refine ww_iret 63 rfl rfl ?_
        exact ⟨by rw [if_neg (fun h => h c1)]; unfold begV; simp [hb, o2i, *], x1, z1, rfl⟩
      · refine ww_run 56 2 (pc' := 103) (lv' := [(0, .ref 0), (1, .int what), (2, .int wset), (3, .int (-1)), (4, .int (nI (2 ^ C)))]) (st' := [.int (-1), .int (-1)]) (w' := wMv (wiF fr lo fa) ki mo (hoF sty wset wfor) cd sr z1.2.1 z1.1 x1.2.2.2.2.2.1 x1.2.2.2.2.2.2 x1.1 x1.2.1 x1.2.2.1 x1.2.2.2.1 x1.2.2.2.2.1 z1.2.2 (nI P) (nI C) (nI k) lent J K) (Ps := []) rfl trivial ?_
        refine ww_icmp_ne 58 rfl (tgt := 110) rfl (fun c3 => ?_) (fun c3 => ?_)
        · exact absurd c3 (by decide)
        · refine ww_run 59 2 (pc' := 114) (lv' := [(0, .ref 0), (1, .int what), (2, .int wset), (3, .int (-1)), (4, .int (nI (2 ^ C)))]) (st' := [.int (-1)]) (w' := wMv (wiF fr lo fa) ki mo (hoF sty wset wfor) cd sr z1.2.1 z1.1 x1.2.2.2.2.2.1 x1.2.2.2.2.2.2 x1.1 x1.2.1 x1.2.2.1 x1.2.2.2.1 x1.2.2.2.2.1 z1.2.2 (nI P) (nI C) (nI k) lent J K) (Ps := []) rfl trivial ?_
          refine ww_iret 63 rfl rfl ?_
          exact ⟨by rw [if_neg (fun h => h c1)]; unfold begV; simp [hb, o2i, *], x1, z1, rfl⟩
    · have hbl := bestOf_lt hb
      refine ww_run 49 6 (pc' := 98) (lv' := [(0, .ref 0), (1, .int what), (2, .int wset), (3, .int (nI b)), (4, .int (nI (2 ^ C)))]) (st' := [.int what]) (w' := wMv (wiF fr lo fa) ki mo (upd (hoF sty v1 wfor) 1 wset) cd sr z1.2.1 z1.1 x1.2.2.2.2.2.1 x1.2.2.2.2.2.2 x1.1 x1.2.1 x1.2.2.1 x1.2.2.2.1 x1.2.2.2.2.1 z1.2.2 (nI P) (nI C) (nI k) lent J K) (Ps := [vp_in 1 3]) rfl ⟨(vp_in_nI (n := 1) (by decide) (by decide)), trivial⟩ ?_
      rw [ho_u1]
      refine ww_if_eq 55 rfl (tgt := 106) rfl (fun c4 => ?_) (fun c4 => ?_)
      · refine ww_run 59 2 (pc' := 114) (lv' := [(0, .ref 0), (1, .int what), (2, .int wset), (3, .int (nI b)), (4, .int (nI (2 ^ C)))]) (st' := [.int (nI b)]) (w' := wMv (wiF fr lo fa) ki mo (hoF sty wset wfor) cd sr z1.2.1 z1.1 x1.2.2.2.2.2.1 x1.2.2.2.2.2.2 x1.1 x1.2.1 x1.2.2.1 x1.2.2.2.1 x1.2.2.2.2.1 z1.2.2 (nI P) (nI C) (nI k) lent J K) (Ps := []) rfl trivial ?_
        refine ww_iret 63 rfl rfl ?_
        exact ⟨by rw [if_neg (fun h => h c1)]; unfold begV; simp [hb, o2i, *], x1, z1, rfl⟩
      · refine ww_run 56 2 (pc' := 103) (lv' := [(0, .ref 0), (1, .int what), (2, .int wset), (3, .int (nI b)), (4, .int (nI (2 ^ C)))]) (st' := [.int (-1), .int (nI b)]) (w' := wMv (wiF fr lo fa) ki mo (hoF sty wset wfor) cd sr z1.2.1 z1.1 x1.2.2.2.2.2.1 x1.2.2.2.2.2.2 x1.1 x1.2.1 x1.2.2.1 x1.2.2.2.1 x1.2.2.2.2.1 z1.2.2 (nI P) (nI C) (nI k) lent J K) (Ps := []) rfl trivial ?_
        refine ww_icmp_ne 58 rfl (tgt := 110) rfl (fun c5 => ?_) (fun c5 => ?_)
        · refine ww_run 61 1 (pc' := 111) (lv' := [(0, .ref 0), (1, .int what), (2, .int wset), (3, .int (nI b)), (4, .int (nI (2 ^ C)))]) (st' := [.int (nI b)]) (w' := wMv (wiF fr lo fa) ki mo (hoF sty wset wfor) cd sr z1.2.1 z1.1 x1.2.2.2.2.2.1 x1.2.2.2.2.2.2 x1.1 x1.2.1 x1.2.2.1 x1.2.2.2.1 x1.2.2.2.2.1 z1.2.2 (nI P) (nI C) (nI k) lent J K) (Ps := []) rfl trivial ?_
          refine ww_cSi 62 ok_X7_ones (m_ones (s := b) (by omega)) lk_X7_265 rfl (by omega) (rest := []) rfl (Nat.le_of_ble_eq_true rfl) rfl ?_
          refine ww_iret 63 rfl rfl ?_
          exact ⟨by rw [if_neg (fun h => h c1)]; unfold begV; simp [hb, o2i, *], x1, z1, rfl⟩
        · exact absurd c5 (nI_ne_m1 (by omega))
  · rw [b2i_eq0] at c1
    refine ww_run 5 1 (pc' := 11) (lv' := [(0, .ref 0), (1, .int what)]) (st' := [.int (-2)]) (w' := wMv (wiF fr lo fa) ki mo (hoF sty wset wfor) cd sr z.2.1 z.1 x.2.2.2.2.2.1 x.2.2.2.2.2.2 x.1 x.2.1 x.2.2.1 x.2.2.2.1 x.2.2.2.2.1 z.2.2 (nI P) (nI C) (nI k) lent J K) (Ps := []) rfl trivial ?_
    refine ww_iret 6 rfl rfl ?_
    exact ⟨by rw [if_pos c1], x, z, rfl⟩
