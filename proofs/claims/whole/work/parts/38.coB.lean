set_option maxHeartbeats 4000000 in
set_option maxRecDepth 100000 in
theorem c_X7_told3 (wi ki mo ho cd sr stk names till sitter on was sat stood rose turn : Nat → Int32) (pe ch ru lent : Int32) (J : Nat → Int32) (K : Nat → Nat → Int32) (what which x : Int32) : Co M_X7_told3 2 0 0 [.ref 0, .int what, .int which, .int x] (wMv wi ki mo ho cd sr stk names till sitter on was sat stood rose turn pe ch ru lent J K) (Qi (told3 what which x) (wMv wi ki mo ho cd sr stk names till sitter on was sat stood rose turn pe ch ru lent J K)) := by
  refine Co.of ok_X7_told3 rfl ?_
  refine ww_run 0 1 (pc' := 1) (lv' := [(0, .ref 0), (1, .int what), (2, .int which), (3, .int x)]) (st' := [.int what]) (w' := wMv wi ki mo ho cd sr stk names till sitter on was sat stood rose turn pe ch ru lent J K) (Ps := []) rfl trivial ?_
  refine ww_if_ne 1 rfl (tgt := 8) rfl (fun c1 => ?_) (fun c1 => ?_)
  · refine ww_run 4 2 (pc' := 10) (lv' := [(0, .ref 0), (1, .int what), (2, .int which), (3, .int x)]) (st' := [.int 1, .int what]) (w' := wMv wi ki mo ho cd sr stk names till sitter on was sat stood rose turn pe ch ru lent J K) (Ps := []) rfl trivial ?_
    refine ww_icmp_ne 6 rfl (tgt := 20) rfl (fun c2 => ?_) (fun c2 => ?_)
    · refine ww_run 10 1 (pc' := 21) (lv' := [(0, .ref 0), (1, .int what), (2, .int which), (3, .int x)]) (st' := [.int x]) (w' := wMv wi ki mo ho cd sr stk names till sitter on was sat stood rose turn pe ch ru lent J K) (Ps := []) rfl trivial ?_
      refine ww_cSi 11 ok_X7_stoodOf (Co.fr0 (c_X7_stoodOf x) rfl) lk_X7_262 rfl (by omega) (rest := []) rfl (Nat.le_of_ble_eq_true rfl) rfl ?_
      refine ww_iret 12 rfl rfl ?_
      exact ⟨by unfold told3; rw [if_neg c1, if_neg c2], rfl⟩
    · refine ww_run 7 1 (pc' := 14) (lv' := [(0, .ref 0), (1, .int what), (2, .int which), (3, .int x)]) (st' := [.int x]) (w' := wMv wi ki mo ho cd sr stk names till sitter on was sat stood rose turn pe ch ru lent J K) (Ps := []) rfl trivial ?_
      refine ww_cSi 8 ok_X7_risenOf (Co.fr0 (c_X7_risenOf x) rfl) lk_X7_259 rfl (by omega) (rest := []) rfl (Nat.le_of_ble_eq_true rfl) rfl ?_
      refine ww_run 9 1 (pc' := 24) (lv' := [(0, .ref 0), (1, .int what), (2, .int which), (3, .int x)]) (st' := [.int (risenOf x)]) (w' := wMv wi ki mo ho cd sr stk names till sitter on was sat stood rose turn pe ch ru lent J K) (Ps := []) rfl trivial ?_
      refine ww_iret 12 rfl rfl ?_
      exact ⟨by unfold told3; rw [if_neg c1, if_pos c2], rfl⟩
  · refine ww_run 2 2 (pc' := 24) (lv' := [(0, .ref 0), (1, .int what), (2, .int which), (3, .int x)]) (st' := [.int which]) (w' := wMv wi ki mo ho cd sr stk names till sitter on was sat stood rose turn pe ch ru lent J K) (Ps := []) rfl trivial ?_
    refine ww_iret 12 rfl rfl ?_
    exact ⟨by unfold told3; rw [if_pos c1], rfl⟩
set_option maxHeartbeats 4000000 in
set_option maxRecDepth 100000 in
theorem c_X7_worthOfEvening (ki mo cd sr stk names till sitter on was sat stood rose turn : Nat → Int32) (lent : Int32) (J : Nat → Int32) (K : Nat → Nat → Int32) (fr lo fa : Nat → Int32) (sty wset wfor : Int32) (P C k : Nat) (e : Nat → Nat) (hP : P ≤ 5) (hC : C ≤ 6) (hL : MLX cd sr k e)  : Co M_X7_worthOfEvening 7 0 0 [.ref 0] (wMv (wiF fr lo fa) ki mo (hoF sty wset wfor) cd sr stk names till sitter on was sat stood rose turn (nI P) (nI C) (nI k) lent J K) (fun r w' => r = some (.int (1000 * sumTo (fun q => if (mLive P C fr lo fa ki mo (sayM cd k e) lent sty 30 0 (mStart P C wset wfor (on, was, sat, stood, rose, till, sitter))).2.2.2.2.1 q = -1 then 0 else 1) P - sumTo (mLive P C fr lo fa ki mo (sayM cd k e) lent sty 30 0 (mStart P C wset wfor (on, was, sat, stood, rose, till, sitter))).2.2.2.1 P)) ∧ ∃ (x : MS) (n1 s1 t1 : Nat → Int32), w' = wMv (wiF fr lo fa) ki mo (hoF sty wset wfor) cd sr s1 n1 x.2.2.2.2.2.1 x.2.2.2.2.2.2 x.1 x.2.1 x.2.2.1 x.2.2.2.1 x.2.2.2.2.1 t1 (nI P) (nI C) (nI k) lent J K) := by
  refine Co.of ok_X7_worthOfEvening rfl ?_
  refine ww_run 0 2 (pc' := 3) (lv' := [(0, .ref 0)]) (st' := [.int 30, .ref 0]) (w' := wMv (wiF fr lo fa) ki mo (hoF sty wset wfor) cd sr stk names till sitter on was sat stood rose turn (nI P) (nI C) (nI k) lent J K) (Ps := []) rfl trivial ?_
  refine ww_cV 2 ok_X7_lives (c_X7_lives ki mo cd sr stk names till sitter on was sat stood rose turn lent J K fr lo fa sty wset wfor P C k e hP hC hL 30 (by omega)) lk_X7_238 rfl (by omega) (rest := []) rfl (Nat.le_of_ble_eq_true rfl) rfl rfl rfl rfl (fun r w' hq => ?_)
  obtain ⟨rfl, names1, stk1, turn1, rfl⟩ := hq
  generalize hx : mLive P C fr lo fa ki mo (sayM cd k e) lent sty 30 0 (mStart P C wset wfor (on, was, sat, stood, rose, till, sitter)) = x
  refine ww_run 3 2 (pc' := 10) (lv' := [(0, .ref 0)]) (st' := [.ref 0, .int 1000]) (w' := wMv (wiF fr lo fa) ki mo (hoF sty wset wfor) cd sr stk1 names1 x.2.2.2.2.2.1 x.2.2.2.2.2.2 x.1 x.2.1 x.2.2.1 x.2.2.2.1 x.2.2.2.2.1 turn1 (nI P) (nI C) (nI k) lent J K) (Ps := []) rfl trivial ?_
  refine ww_cVi 5 ok_X7_risen (c_X7_risen (wiF fr lo fa) ki mo (hoF sty wset wfor) cd sr stk1 names1 x.2.2.2.2.2.1 x.2.2.2.2.2.2 x.1 x.2.1 x.2.2.1 x.2.2.2.1 x.2.2.2.2.1 turn1 (nI C) (nI k) lent J K P hP) lk_X7_241 rfl (by omega) (rest := [.int 1000]) rfl (Nat.le_of_ble_eq_true rfl) rfl rfl rfl rfl ?_
  refine ww_run 6 2 (pc' := 15) (lv' := [(0, .ref 0)]) (st' := [.ref 0, .int (1000 * (sumTo (fun q => if x.2.2.2.2.1 q = -1 then 0 else 1) P))]) (w' := wMv (wiF fr lo fa) ki mo (hoF sty wset wfor) cd sr stk1 names1 x.2.2.2.2.2.1 x.2.2.2.2.2.2 x.1 x.2.1 x.2.2.1 x.2.2.2.1 x.2.2.2.2.1 turn1 (nI P) (nI C) (nI k) lent J K) (Ps := []) rfl trivial ?_
  refine ww_cVi 8 ok_X7_stoodAll (c_X7_stoodAll (wiF fr lo fa) ki mo (hoF sty wset wfor) cd sr stk1 names1 x.2.2.2.2.2.1 x.2.2.2.2.2.2 x.1 x.2.1 x.2.2.1 x.2.2.2.1 x.2.2.2.2.1 turn1 (nI C) (nI k) lent J K P hP) lk_X7_244 rfl (by omega) (rest := [.int (1000 * (sumTo (fun q => if x.2.2.2.2.1 q = -1 then 0 else 1) P))]) rfl (Nat.le_of_ble_eq_true rfl) rfl rfl rfl rfl ?_
  refine ww_run 9 1 (pc' := 19) (lv' := [(0, .ref 0)]) (st' := [.int ((1000 * (sumTo (fun q => if x.2.2.2.2.1 q = -1 then 0 else 1) P)) - (sumTo x.2.2.2.1 P))]) (w' := wMv (wiF fr lo fa) ki mo (hoF sty wset wfor) cd sr stk1 names1 x.2.2.2.2.2.1 x.2.2.2.2.2.2 x.1 x.2.1 x.2.2.1 x.2.2.2.1 x.2.2.2.2.1 turn1 (nI P) (nI C) (nI k) lent J K) (Ps := []) rfl trivial ?_
  refine ww_iret 10 rfl rfl ?_
  exact ⟨rfl, x, _, _, _, rfl⟩
set_option maxHeartbeats 4000000 in
set_option maxRecDepth 100000 in
theorem l_X7_costs_4 {Q : Option Value → List va_E → Prop} {d : Nat} (hd : 3 ≤ d) (ki mo ho cd sr till sitter on was sat stood rose turn : Nat → Int32) (ch lent : Int32) (J : Nat → Int32) (K : Nat → Nat → Int32) (fr lo fa : Nat → Int32) (P k : Nat) (e : Nat → Nat) (hP : P ≤ 5) (hL : MLX cd sr k e) (KK : ∀ (names stk : Nat → Int32), WW M_X7_costs d Q xz 58 [(0, .ref 0), (1, .int (sumTo (fun q => sayM cd k e 2 (nm6 (fa q) 0 (mWithin (sat q) 0 9) (stood q) 30 (nI q))) P)), (2, .int (nI P))] [] (wMv (wiF fr lo fa) ki mo ho cd sr stk names till sitter on was sat stood rose turn (nI P) ch (nI k) lent J K)) :
    ∀ (n i : Nat) (names stk : Nat → Int32), i ≤ P → P + 1 ≤ i + n → WW M_X7_costs d Q xz 4 [(0, .ref 0), (1, .int (sumTo (fun q => sayM cd k e 2 (nm6 (fa q) 0 (mWithin (sat q) 0 9) (stood q) 30 (nI q))) i)), (2, .int (nI i))] [] (wMv (wiF fr lo fa) ki mo ho cd sr stk names till sitter on was sat stood rose turn (nI P) ch (nI k) lent J K) := by
  intro n
  induction n with
  | zero => intro i; intros; omega
  | succ n ih =>
    intro i names stk hi hn
    refine ww_run 4 3 (pc' := 9) (lv' := [(0, .ref 0), (1, .int (sumTo (fun q => sayM cd k e 2 (nm6 (fa q) 0 (mWithin (sat q) 0 9) (stood q) 30 (nI q))) i)), (2, .int (nI i))]) (st' := [.int (nI P), .int (nI i)]) (w' := wMv (wiF fr lo fa) ki mo ho cd sr stk names till sitter on was sat stood rose turn (nI P) ch (nI k) lent J K) (Ps := []) rfl trivial ?_
    refine ww_icmp_ge 7 rfl (tgt := 58) rfl (fun c1 => ?_) (fun c1 => ?_)
    · have c1 : P ≤ i := (nI_leI (a := P) (b := i) (by omega) (by omega)).mp c1
      obtain rfl : i = P := by omega
      exact KK names stk
    · have c1 : ¬ P ≤ i := fun q => c1 ((nI_leI (a := P) (b := i) (by omega) (by omega)).mpr q)
      refine ww_run 8 18 (pc' := 35) (lv' := [(0, .ref 0), (1, .int (sumTo (fun q => sayM cd k e 2 (nm6 (fa q) 0 (mWithin (sat q) 0 9) (stood q) 30 (nI q))) i)), (2, .int (nI i))]) (st' := [.int 9, .int 0, .int (sat (nI i).toNatClampNeg), .int 0, .int ((wiF fr lo fa) ((3 * (nI i)) + 2).toNatClampNeg), .int 2, .ref 0, .int (sumTo (fun q => sayM cd k e 2 (nm6 (fa q) 0 (mWithin (sat q) 0 9) (stood q) 30 (nI q))) i)]) (w' := wMv (wiF fr lo fa) ki mo ho cd sr stk names till sitter on was sat stood rose turn (nI P) ch (nI k) lent J K) (Ps := [vp_in ((3 * (nI i)) + 2) 15, vp_in (nI i) 5]) rfl ⟨(by rw [show (3 : Int32) * nI i = nI (3 * i) from pk_mul 3 i, show nI (3 * i) + (2 : Int32) = nI ((3 * i) + 2) from nI_add (3 * i) 2]; exact vp_in_nI (by omega) (by omega)), (vp_in_nI (by omega) (by omega)), trivial⟩ ?_
      rw [nI_clamp (n := i) (by omega)]
      rw [show (3 : Int32) * nI i = nI (3 * i) from pk_mul 3 i]
      rw [show nI (3 * i) + (2 : Int32) = nI ((3 * i) + 2) from nI_add (3 * i) 2]
      rw [nI_clamp (n := (3 * i + 2)) (by omega)]
      rw [wi2]
      refine ww_cSi 26 ok_X7_within (Co.fr0 (c_X7_within (sat i) 0 9) rfl) lk_X7_191 rfl (by omega) (rest := [.int 0, .int (fa i), .int 2, .ref 0, .int (sumTo (fun q => sayM cd k e 2 (nm6 (fa q) 0 (mWithin (sat q) 0 9) (stood q) 30 (nI q))) i)]) rfl (Nat.le_of_ble_eq_true rfl) rfl ?_
      refine ww_run 27 6 (pc' := 47) (lv' := [(0, .ref 0), (1, .int (sumTo (fun q => sayM cd k e 2 (nm6 (fa q) 0 (mWithin (sat q) 0 9) (stood q) 30 (nI q))) i)), (2, .int (nI i))]) (st' := [.int (nI i), .int 30, .int (stood (nI i).toNatClampNeg), .int (mWithin (sat i) 0 9), .int 0, .int (fa i), .int 2, .ref 0, .int (sumTo (fun q => sayM cd k e 2 (nm6 (fa q) 0 (mWithin (sat q) 0 9) (stood q) 30 (nI q))) i)]) (w' := wMv (wiF fr lo fa) ki mo ho cd sr stk names till sitter on was sat stood rose turn (nI P) ch (nI k) lent J K) (Ps := [vp_in (nI i) 5]) rfl ⟨(vp_in_nI (by omega) (by omega)), trivial⟩ ?_
      rw [nI_clamp (n := i) (by omega)]
      refine ww_cV 33 (b := 0) (av := [.int 2, .int (fa i), .int 0, .int (mWithin (sat i) 0 9), .int (stood i), .int 30, .int (nI i)]) ok_X7_asksOf (c_X7_asksOf (wiF fr lo fa) ki mo ho cd sr stk names till sitter on was sat stood rose turn (nI P) ch lent J K k 2 e (by omega) hL (fa i) 0 (mWithin (sat i) 0 9) (stood i) 30 (nI i)) lk_X7_194 rfl (by omega) (rest := [.int (sumTo (fun q => sayM cd k e 2 (nm6 (fa q) 0 (mWithin (sat q) 0 9) (stood q) 30 (nI q))) i)]) rfl (Nat.le_of_ble_eq_true rfl) rfl rfl rfl rfl (fun r w' hq => ?_)
      obtain ⟨rfl, names1, stk1, rfl⟩ := hq
      refine ww_run 34 4 (pc' := 4) (lv' := [(2, .int ((nI i) + 1)), (1, .int ((sumTo (fun q => sayM cd k e 2 (nm6 (fa q) 0 (mWithin (sat q) 0 9) (stood q) 30 (nI q))) i) + (sayM cd k e 2 (nm6 (fa i) 0 (mWithin (sat i) 0 9) (stood i) 30 (nI i))))), (0, .ref 0)]) (st' := []) (w' := wMv (wiF fr lo fa) ki mo ho cd sr stk1 names1 till sitter on was sat stood rose turn (nI P) ch (nI k) lent J K) (Ps := []) rfl trivial ?_
      rw [nI_1 i]
      refine ww_lv [2, 1, 0] (lv' := [(0, .ref 0), (1, .int ((sumTo (fun q => sayM cd k e 2 (nm6 (fa q) 0 (mWithin (sat q) 0 9) (stood q) 30 (nI q))) i) + (sayM cd k e 2 (nm6 (fa i) 0 (mWithin (sat i) 0 9) (stood i) 30 (nI i))))), (2, .int (nI (i + 1)))]) rfl ?_
      exact ih (i + 1) _ _ (by omega) (by omega)
set_option maxHeartbeats 4000000 in
set_option maxRecDepth 100000 in
theorem c_X7_costs (ki mo ho cd sr stk names till sitter on was sat stood rose turn : Nat → Int32) (ch lent : Int32) (J : Nat → Int32) (K : Nat → Nat → Int32) (fr lo fa : Nat → Int32) (P k : Nat) (e : Nat → Nat) (hP : P ≤ 5) (hL : MLX cd sr k e) : Co M_X7_costs 3 0 0 [.ref 0] (wMv (wiF fr lo fa) ki mo ho cd sr stk names till sitter on was sat stood rose turn (nI P) ch (nI k) lent J K) (fun r w' => r = some (.int (sumTo (fun q => sayM cd k e 2 (nm6 (fa q) 0 (mWithin (sat q) 0 9) (stood q) 30 (nI q))) P)) ∧ ∃ names' stk', w' = wMv (wiF fr lo fa) ki mo ho cd sr stk' names' till sitter on was sat stood rose turn (nI P) ch (nI k) lent J K) := by
  refine Co.of ok_X7_costs rfl ?_
  refine ww_run 0 4 (pc' := 4) (lv' := [(2, .int 0), (1, .int 0), (0, .ref 0)]) (st' := []) (w' := wMv (wiF fr lo fa) ki mo ho cd sr stk names till sitter on was sat stood rose turn (nI P) ch (nI k) lent J K) (Ps := []) rfl trivial ?_
  refine ww_lv [2, 1, 0] (lv' := [(0, .ref 0), (1, .int 0), (2, .int 0)]) rfl ?_
  refine l_X7_costs_4 (by omega) ki mo ho cd sr till sitter on was sat stood rose turn ch lent J K fr lo fa P k e hP hL (fun names1 stk1 => ?_) (P + 1) 0 names stk (by omega) (by omega)
  refine ww_run 38 1 (pc' := 59) (lv' := [(0, .ref 0), (1, .int (sumTo (fun q => sayM cd k e 2 (nm6 (fa q) 0 (mWithin (sat q) 0 9) (stood q) 30 (nI q))) P)), (2, .int (nI P))]) (st' := [.int (sumTo (fun q => sayM cd k e 2 (nm6 (fa q) 0 (mWithin (sat q) 0 9) (stood q) 30 (nI q))) P)]) (w' := wMv (wiF fr lo fa) ki mo ho cd sr stk1 names1 till sitter on was sat stood rose turn (nI P) ch (nI k) lent J K) (Ps := []) rfl trivial ?_
  refine ww_iret 39 rfl rfl ?_
  exact ⟨rfl, _, _, rfl⟩
set_option maxHeartbeats 4000000 in
set_option maxRecDepth 100000 in
theorem c_X7_chairOf (ki mo cd sr stk names till sitter on was sat stood rose turn : Nat → Int32) (lent : Int32) (J : Nat → Int32) (K : Nat → Nat → Int32) (fr lo fa : Nat → Int32) (sty wset wfor : Int32) (P C k : Nat) (e : Nat → Nat) (hP : P ≤ 5) (hC : C ≤ 6) (hL : MLX cd sr k e) (nn cc what : Int32) : Co M_X7_chairOf 7 0 0 [.ref 0, .int nn, .int cc, .int what] (wMv (wiF fr lo fa) ki mo (hoF sty wset wfor) cd sr stk names till sitter on was sat stood rose turn (nI P) (nI C) (nI k) lent J K) (fun r w' => r = some (.int (if ¬ (mIn nn 0 30 ∧ mIn cc 0 (nI C - 1)) then -5 else if ¬ mIn what 0 2 then -7 else if what = 0 then (mLive P C fr lo fa ki mo (sayM cd k e) lent sty nn.toNatClampNeg 0 (mStart P C wset wfor (on, was, sat, stood, rose, till, sitter))).2.2.2.2.2.2 cc.toNatClampNeg else if what = 1 then mWithin ((mLive P C fr lo fa ki mo (sayM cd k e) lent sty nn.toNatClampNeg 0 (mStart P C wset wfor (on, was, sat, stood, rose, till, sitter))).2.2.2.2.2.1 cc.toNatClampNeg - nn) 0 ((mLive P C fr lo fa ki mo (sayM cd k e) lent sty nn.toNatClampNeg 0 (mStart P C wset wfor (on, was, sat, stood, rose, till, sitter))).2.2.2.2.2.1 cc.toNatClampNeg) else b2i (mFree C ki mo (mLive P C fr lo fa ki mo (sayM cd k e) lent sty nn.toNatClampNeg 0 (mStart P C wset wfor (on, was, sat, stood, rose, till, sitter))).2.2.2.2.2.1 (mLive P C fr lo fa ki mo (sayM cd k e) lent sty nn.toNatClampNeg 0 (mStart P C wset wfor (on, was, sat, stood, rose, till, sitter))).2.2.2.2.2.2 lent cc.toNatClampNeg nn))) ∧ ∃ (x : MS) (n1 s1 t1 : Nat → Int32), w' = wMv (wiF fr lo fa) ki mo (hoF sty wset wfor) cd sr s1 n1 x.2.2.2.2.2.1 x.2.2.2.2.2.2 x.1 x.2.1 x.2.2.1 x.2.2.2.1 x.2.2.2.2.1 t1 (nI P) (nI C) (nI k) lent J K) := by
  refine Co.of ok_X7_chairOf rfl ?_
  refine ww_run 0 1 (pc' := 1) (lv' := [(0, .ref 0), (1, .int nn), (2, .int cc), (3, .int what)]) (st' := [.int nn]) (w' := wMv (wiF fr lo fa) ki mo (hoF sty wset wfor) cd sr stk names till sitter on was sat stood rose turn (nI P) (nI C) (nI k) lent J K) (Ps := []) rfl trivial ?_
  refine ww_cSi 1 ok_X7_isMany (Co.fr0 (c_X7_isMany nn) rfl) lk_X7_235 rfl (by omega) (rest := []) rfl (Nat.le_of_ble_eq_true rfl) rfl ?_
  refine ww_if_eq 2 rfl (tgt := 15) rfl (fun c1 => ?_) (fun c1 => ?_)
  · rw [b2i_eq0] at c1
    refine ww_run 7 1 (pc' := 17) (lv' := [(0, .ref 0), (1, .int nn), (2, .int cc), (3, .int what)]) (st' := [.int (-5)]) (w' := wMv (wiF fr lo fa) ki mo (hoF sty wset wfor) cd sr stk names till sitter on was sat stood rose turn (nI P) (nI C) (nI k) lent J K) (Ps := []) rfl trivial ?_
    refine ww_iret 8 rfl rfl ?_
    exact ⟨by rw [if_pos (fun h => c1 h.1)], (on, was, sat, stood, rose, till, sitter), _, _, _, rfl⟩
  · rw [b2i_ne0] at c1
    refine ww_run 3 2 (pc' := 9) (lv' := [(0, .ref 0), (1, .int nn), (2, .int cc), (3, .int what)]) (st' := [.int cc, .ref 0]) (w' := wMv (wiF fr lo fa) ki mo (hoF sty wset wfor) cd sr stk names till sitter on was sat stood rose turn (nI P) (nI C) (nI k) lent J K) (Ps := []) rfl trivial ?_
    refine ww_cVi 5 ok_X7_isChair (c_X7_isChair (wiF fr lo fa) ki mo (hoF sty wset wfor) cd sr stk names till sitter on was sat stood rose turn (nI P) (nI C) (nI k) lent J K cc) lk_X7_202 rfl (by omega) (rest := []) rfl (Nat.le_of_ble_eq_true rfl) rfl rfl rfl rfl ?_
    refine ww_if_ne 6 rfl (tgt := 18) rfl (fun c2 => ?_) (fun c2 => ?_)
    · rw [b2i_ne0] at c2
      obtain ⟨N, hN, rfl⟩ := many_nI c1
      obtain ⟨c, hc, rfl⟩ := one_nI (by omega) c2
      refine ww_run 9 3 (pc' := 21) (lv' := [(0, .ref 0), (1, .int (nI N)), (2, .int (nI c)), (3, .int what)]) (st' := [.int 2, .int 0, .int what]) (w' := wMv (wiF fr lo fa) ki mo (hoF sty wset wfor) cd sr stk names till sitter on was sat stood rose turn (nI P) (nI C) (nI k) lent J K) (Ps := []) rfl trivial ?_
      refine ww_cSi 12 ok_X7_in (Co.fr0 (c_X7_in what 0 2) rfl) lk_X7_108 rfl (by omega) (rest := []) rfl (Nat.le_of_ble_eq_true rfl) rfl ?_
      refine ww_if_ne 13 rfl (tgt := 30) rfl (fun c3 => ?_) (fun c3 => ?_)
      · rw [b2i_ne0] at c3
        refine ww_run 16 2 (pc' := 32) (lv' := [(0, .ref 0), (1, .int (nI N)), (2, .int (nI c)), (3, .int what)]) (st' := [.int (nI N), .ref 0]) (w' := wMv (wiF fr lo fa) ki mo (hoF sty wset wfor) cd sr stk names till sitter on was sat stood rose turn (nI P) (nI C) (nI k) lent J K) (Ps := []) rfl trivial ?_
        refine ww_cV 18 ok_X7_lives (c_X7_lives ki mo cd sr stk names till sitter on was sat stood rose turn lent J K fr lo fa sty wset wfor P C k e hP hC hL N (by omega)) lk_X7_238 rfl (by omega) (rest := []) rfl (Nat.le_of_ble_eq_true rfl) rfl rfl rfl rfl (fun r w' hq => ?_)
        obtain ⟨rfl, names1, stk1, turn1, rfl⟩ := hq
        generalize hx : mLive P C fr lo fa ki mo (sayM cd k e) lent sty N 0 (mStart P C wset wfor (on, was, sat, stood, rose, till, sitter)) = x
        refine ww_run 19 3 (pc' := 38) (lv' := [(0, .ref 0), (1, .int (nI N)), (2, .int (nI c)), (3, .int what)]) (st' := [.int (nI N), .int (nI c), .ref 0]) (w' := wMv (wiF fr lo fa) ki mo (hoF sty wset wfor) cd sr stk1 names1 x.2.2.2.2.2.1 x.2.2.2.2.2.2 x.1 x.2.1 x.2.2.1 x.2.2.2.1 x.2.2.2.2.1 turn1 (nI P) (nI C) (nI k) lent J K) (Ps := []) rfl trivial ?_
        refine ww_cVi 22 ok_X7_isWarm (c_X7_isWarm (wiF fr lo fa) ki mo (hoF sty wset wfor) cd sr stk1 names1 x.2.2.2.2.2.1 x.2.2.2.2.2.2 x.1 x.2.1 x.2.2.1 x.2.2.2.1 x.2.2.2.2.1 turn1 (nI P) (nI k) lent J K c (nI N) C hC (by omega)) lk_X7_211 rfl (by omega) (rest := []) rfl (Nat.le_of_ble_eq_true rfl) rfl rfl rfl rfl ?_
        refine ww_if_eq 23 rfl (tgt := 67) rfl (fun c4 => ?_) (fun c4 => ?_)
        · rw [b2i_eq0] at c4
          refine ww_run 37 3 (pc' := 71) (lv' := [(4, .int 0), (0, .ref 0), (1, .int (nI N)), (2, .int (nI c)), (3, .int what)]) (st' := [.int what]) (w' := wMv (wiF fr lo fa) ki mo (hoF sty wset wfor) cd sr stk1 names1 x.2.2.2.2.2.1 x.2.2.2.2.2.2 x.1 x.2.1 x.2.2.1 x.2.2.2.1 x.2.2.2.2.1 turn1 (nI P) (nI C) (nI k) lent J K) (Ps := []) rfl trivial ?_
          refine ww_if_ne 40 rfl (tgt := 83) rfl (fun c5 => ?_) (fun c5 => ?_)
          · refine ww_run 46 2 (pc' := 85) (lv' := [(4, .int 0), (0, .ref 0), (1, .int (nI N)), (2, .int (nI c)), (3, .int what)]) (st' := [.int 1, .int what]) (w' := wMv (wiF fr lo fa) ki mo (hoF sty wset wfor) cd sr stk1 names1 x.2.2.2.2.2.1 x.2.2.2.2.2.2 x.1 x.2.1 x.2.2.1 x.2.2.2.1 x.2.2.2.2.1 turn1 (nI P) (nI C) (nI k) lent J K) (Ps := []) rfl trivial ?_
            refine ww_icmp_ne 48 rfl (tgt := 109) rfl (fun c6 => ?_) (fun c6 => ?_)
            · refine ww_run 62 1 (pc' := 111) (lv' := [(4, .int 0), (0, .ref 0), (1, .int (nI N)), (2, .int (nI c)), (3, .int what)]) (st' := [.int 0]) (w' := wMv (wiF fr lo fa) ki mo (hoF sty wset wfor) cd sr stk1 names1 x.2.2.2.2.2.1 x.2.2.2.2.2.2 x.1 x.2.1 x.2.2.1 x.2.2.2.1 x.2.2.2.2.1 turn1 (nI P) (nI C) (nI k) lent J K) (Ps := []) rfl trivial ?_
              refine ww_if_eq 63 rfl (tgt := 118) rfl (fun c7 => ?_) (fun c7 => ?_)
              · refine ww_run 66 1 (pc' := 119) (lv' := [(4, .int 0), (0, .ref 0), (1, .int (nI N)), (2, .int (nI c)), (3, .int what)]) (st' := [.int 0]) (w' := wMv (wiF fr lo fa) ki mo (hoF sty wset wfor) cd sr stk1 names1 x.2.2.2.2.2.1 x.2.2.2.2.2.2 x.1 x.2.1 x.2.2.1 x.2.2.2.1 x.2.2.2.2.1 turn1 (nI P) (nI C) (nI k) lent J K) (Ps := []) rfl trivial ?_
                refine ww_iret 67 rfl rfl ?_
                exact ⟨by simp only [nI_clamp (n := N) (by omega), nI_clamp (n := c) (by omega), hx]; rw [if_neg (fun h => h ⟨c1, c2⟩), if_neg (fun h => h c3), if_neg c5, if_neg c6, b2i_f (by grind)], x, _, _, _, rfl⟩
              · exact absurd c7 (by decide)
            · refine ww_run 49 11 (pc' := 103) (lv' := [(4, .int 0), (0, .ref 0), (1, .int (nI N)), (2, .int (nI c)), (3, .int what)]) (st' := [.int (x.2.2.2.2.2.1 (nI c).toNatClampNeg), .int 0, .int ((x.2.2.2.2.2.1 (nI c).toNatClampNeg) - (nI N))]) (w' := wMv (wiF fr lo fa) ki mo (hoF sty wset wfor) cd sr stk1 names1 x.2.2.2.2.2.1 x.2.2.2.2.2.2 x.1 x.2.1 x.2.2.1 x.2.2.2.1 x.2.2.2.2.1 turn1 (nI P) (nI C) (nI k) lent J K) (Ps := [vp_in (nI c) 6, vp_in (nI c) 6]) rfl ⟨(vp_in_nI (by omega) (by omega)), (vp_in_nI (by omega) (by omega)), trivial⟩ ?_
              rw [nI_clamp (n := c) (by omega)]
              refine ww_cSi 60 ok_X7_within (Co.fr0 (c_X7_within ((x.2.2.2.2.2.1 c) - (nI N)) 0 (x.2.2.2.2.2.1 c)) rfl) lk_X7_191 rfl (by omega) (rest := []) rfl (Nat.le_of_ble_eq_true rfl) rfl ?_
              refine ww_run 61 1 (pc' := 119) (lv' := [(4, .int 0), (0, .ref 0), (1, .int (nI N)), (2, .int (nI c)), (3, .int what)]) (st' := [.int (mWithin ((x.2.2.2.2.2.1 c) - (nI N)) 0 (x.2.2.2.2.2.1 c))]) (w' := wMv (wiF fr lo fa) ki mo (hoF sty wset wfor) cd sr stk1 names1 x.2.2.2.2.2.1 x.2.2.2.2.2.2 x.1 x.2.1 x.2.2.1 x.2.2.2.1 x.2.2.2.2.1 turn1 (nI P) (nI C) (nI k) lent J K) (Ps := []) rfl trivial ?_
              refine ww_iret 67 rfl rfl ?_
              exact ⟨by simp only [nI_clamp (n := N) (by omega), nI_clamp (n := c) (by omega), hx]; rw [if_neg (fun h => h ⟨c1, c2⟩), if_neg (fun h => h c3), if_neg c5, if_pos c6], x, _, _, _, rfl⟩
          · refine ww_run 41 5 (pc' := 119) (lv' := [(4, .int 0), (0, .ref 0), (1, .int (nI N)), (2, .int (nI c)), (3, .int what)]) (st' := [.int (x.2.2.2.2.2.2 (nI c).toNatClampNeg)]) (w' := wMv (wiF fr lo fa) ki mo (hoF sty wset wfor) cd sr stk1 names1 x.2.2.2.2.2.1 x.2.2.2.2.2.2 x.1 x.2.1 x.2.2.1 x.2.2.2.1 x.2.2.2.2.1 turn1 (nI P) (nI C) (nI k) lent J K) (Ps := [vp_in (nI c) 6]) rfl ⟨(vp_in_nI (by omega) (by omega)), trivial⟩ ?_
            rw [nI_clamp (n := c) (by omega)]
            refine ww_iret 67 rfl rfl ?_
            exact ⟨by simp only [nI_clamp (n := N) (by omega), nI_clamp (n := c) (by omega), hx]; rw [if_neg (fun h => h ⟨c1, c2⟩), if_neg (fun h => h c3), if_pos c5], x, _, _, _, rfl⟩
        · rw [b2i_ne0] at c4
          refine ww_run 24 5 (pc' := 51) (lv' := [(0, .ref 0), (1, .int (nI N)), (2, .int (nI c)), (3, .int what)]) (st' := [.int (-1), .int (x.2.2.2.2.2.2 (nI c).toNatClampNeg)]) (w' := wMv (wiF fr lo fa) ki mo (hoF sty wset wfor) cd sr stk1 names1 x.2.2.2.2.2.1 x.2.2.2.2.2.2 x.1 x.2.1 x.2.2.1 x.2.2.2.1 x.2.2.2.2.1 turn1 (nI P) (nI C) (nI k) lent J K) (Ps := [vp_in (nI c) 6]) rfl ⟨(vp_in_nI (by omega) (by omega)), trivial⟩ ?_
          rw [nI_clamp (n := c) (by omega)]
          refine ww_icmp_ne 29 rfl (tgt := 67) rfl (fun c8 => ?_) (fun c8 => ?_)
          · refine ww_run 37 3 (pc' := 71) (lv' := [(4, .int 0), (0, .ref 0), (1, .int (nI N)), (2, .int (nI c)), (3, .int what)]) (st' := [.int what]) (w' := wMv (wiF fr lo fa) ki mo (hoF sty wset wfor) cd sr stk1 names1 x.2.2.2.2.2.1 x.2.2.2.2.2.2 x.1 x.2.1 x.2.2.1 x.2.2.2.1 x.2.2.2.2.1 turn1 (nI P) (nI C) (nI k) lent J K) (Ps := []) rfl trivial ?_
            refine ww_if_ne 40 rfl (tgt := 83) rfl (fun c9 => ?_) (fun c9 => ?_)
            · refine ww_run 46 2 (pc' := 85) (lv' := [(4, .int 0), (0, .ref 0), (1, .int (nI N)), (2, .int (nI c)), (3, .int what)]) (st' := [.int 1, .int what]) (w' := wMv (wiF fr lo fa) ki mo (hoF sty wset wfor) cd sr stk1 names1 x.2.2.2.2.2.1 x.2.2.2.2.2.2 x.1 x.2.1 x.2.2.1 x.2.2.2.1 x.2.2.2.2.1 turn1 (nI P) (nI C) (nI k) lent J K) (Ps := []) rfl trivial ?_
              refine ww_icmp_ne 48 rfl (tgt := 109) rfl (fun c10 => ?_) (fun c10 => ?_)
              · refine ww_run 62 1 (pc' := 111) (lv' := [(4, .int 0), (0, .ref 0), (1, .int (nI N)), (2, .int (nI c)), (3, .int what)]) (st' := [.int 0]) (w' := wMv (wiF fr lo fa) ki mo (hoF sty wset wfor) cd sr stk1 names1 x.2.2.2.2.2.1 x.2.2.2.2.2.2 x.1 x.2.1 x.2.2.1 x.2.2.2.1 x.2.2.2.2.1 turn1 (nI P) (nI C) (nI k) lent J K) (Ps := []) rfl trivial ?_
                refine ww_if_eq 63 rfl (tgt := 118) rfl (fun c11 => ?_) (fun c11 => ?_)
                · refine ww_run 66 1 (pc' := 119) (lv' := [(4, .int 0), (0, .ref 0), (1, .int (nI N)), (2, .int (nI c)), (3, .int what)]) (st' := [.int 0]) (w' := wMv (wiF fr lo fa) ki mo (hoF sty wset wfor) cd sr stk1 names1 x.2.2.2.2.2.1 x.2.2.2.2.2.2 x.1 x.2.1 x.2.2.1 x.2.2.2.1 x.2.2.2.2.1 turn1 (nI P) (nI C) (nI k) lent J K) (Ps := []) rfl trivial ?_
                  refine ww_iret 67 rfl rfl ?_
                  exact ⟨by simp only [nI_clamp (n := N) (by omega), nI_clamp (n := c) (by omega), hx]; rw [if_neg (fun h => h ⟨c1, c2⟩), if_neg (fun h => h c3), if_neg c9, if_neg c10, b2i_f (by grind)], x, _, _, _, rfl⟩
                · exact absurd c11 (by decide)
              · refine ww_run 49 11 (pc' := 103) (lv' := [(4, .int 0), (0, .ref 0), (1, .int (nI N)), (2, .int (nI c)), (3, .int what)]) (st' := [.int (x.2.2.2.2.2.1 (nI c).toNatClampNeg), .int 0, .int ((x.2.2.2.2.2.1 (nI c).toNatClampNeg) - (nI N))]) (w' := wMv (wiF fr lo fa) ki mo (hoF sty wset wfor) cd sr stk1 names1 x.2.2.2.2.2.1 x.2.2.2.2.2.2 x.1 x.2.1 x.2.2.1 x.2.2.2.1 x.2.2.2.2.1 turn1 (nI P) (nI C) (nI k) lent J K) (Ps := [vp_in (nI c) 6, vp_in (nI c) 6]) rfl ⟨(vp_in_nI (by omega) (by omega)), (vp_in_nI (by omega) (by omega)), trivial⟩ ?_
                rw [nI_clamp (n := c) (by omega)]
                refine ww_cSi 60 ok_X7_within (Co.fr0 (c_X7_within ((x.2.2.2.2.2.1 c) - (nI N)) 0 (x.2.2.2.2.2.1 c)) rfl) lk_X7_191 rfl (by omega) (rest := []) rfl (Nat.le_of_ble_eq_true rfl) rfl ?_
                refine ww_run 61 1 (pc' := 119) (lv' := [(4, .int 0), (0, .ref 0), (1, .int (nI N)), (2, .int (nI c)), (3, .int what)]) (st' := [.int (mWithin ((x.2.2.2.2.2.1 c) - (nI N)) 0 (x.2.2.2.2.2.1 c))]) (w' := wMv (wiF fr lo fa) ki mo (hoF sty wset wfor) cd sr stk1 names1 x.2.2.2.2.2.1 x.2.2.2.2.2.2 x.1 x.2.1 x.2.2.1 x.2.2.2.1 x.2.2.2.2.1 turn1 (nI P) (nI C) (nI k) lent J K) (Ps := []) rfl trivial ?_
                refine ww_iret 67 rfl rfl ?_
                exact ⟨by simp only [nI_clamp (n := N) (by omega), nI_clamp (n := c) (by omega), hx]; rw [if_neg (fun h => h ⟨c1, c2⟩), if_neg (fun h => h c3), if_neg c9, if_pos c10], x, _, _, _, rfl⟩
            · refine ww_run 41 5 (pc' := 119) (lv' := [(4, .int 0), (0, .ref 0), (1, .int (nI N)), (2, .int (nI c)), (3, .int what)]) (st' := [.int (x.2.2.2.2.2.2 (nI c).toNatClampNeg)]) (w' := wMv (wiF fr lo fa) ki mo (hoF sty wset wfor) cd sr stk1 names1 x.2.2.2.2.2.1 x.2.2.2.2.2.2 x.1 x.2.1 x.2.2.1 x.2.2.2.1 x.2.2.2.2.1 turn1 (nI P) (nI C) (nI k) lent J K) (Ps := [vp_in (nI c) 6]) rfl ⟨(vp_in_nI (by omega) (by omega)), trivial⟩ ?_
              rw [nI_clamp (n := c) (by omega)]
              refine ww_iret 67 rfl rfl ?_
              exact ⟨by simp only [nI_clamp (n := N) (by omega), nI_clamp (n := c) (by omega), hx]; rw [if_neg (fun h => h ⟨c1, c2⟩), if_neg (fun h => h c3), if_pos c9], x, _, _, _, rfl⟩
          · refine ww_run 30 3 (pc' := 57) (lv' := [(0, .ref 0), (1, .int (nI N)), (2, .int (nI c)), (3, .int what)]) (st' := [.int (nI N), .int (nI c), .ref 0]) (w' := wMv (wiF fr lo fa) ki mo (hoF sty wset wfor) cd sr stk1 names1 x.2.2.2.2.2.1 x.2.2.2.2.2.2 x.1 x.2.1 x.2.2.1 x.2.2.2.1 x.2.2.2.2.1 turn1 (nI P) (nI C) (nI k) lent J K) (Ps := []) rfl trivial ?_
            refine ww_cVi 33 ok_X7_lets (c_X7_lets (wiF fr lo fa) ki mo (hoF sty wset wfor) cd sr stk1 names1 x.2.2.2.2.2.1 x.2.2.2.2.2.2 x.1 x.2.1 x.2.2.1 x.2.2.2.1 x.2.2.2.2.1 turn1 (nI P) (nI C) (nI k) lent J K c (nI N) (by omega)) lk_X7_214 rfl (by omega) (rest := []) rfl (Nat.le_of_ble_eq_true rfl) rfl rfl rfl rfl ?_
            refine ww_if_eq 34 rfl (tgt := 67) rfl (fun c12 => ?_) (fun c12 => ?_)
            · rw [b2i_eq0] at c12
              refine ww_run 37 3 (pc' := 71) (lv' := [(4, .int 0), (0, .ref 0), (1, .int (nI N)), (2, .int (nI c)), (3, .int what)]) (st' := [.int what]) (w' := wMv (wiF fr lo fa) ki mo (hoF sty wset wfor) cd sr stk1 names1 x.2.2.2.2.2.1 x.2.2.2.2.2.2 x.1 x.2.1 x.2.2.1 x.2.2.2.1 x.2.2.2.2.1 turn1 (nI P) (nI C) (nI k) lent J K) (Ps := []) rfl trivial ?_
              refine ww_if_ne 40 rfl (tgt := 83) rfl (fun c13 => ?_) (fun c13 => ?_)
              · refine ww_run 46 2 (pc' := 85) (lv' := [(4, .int 0), (0, .ref 0), (1, .int (nI N)), (2, .int (nI c)), (3, .int what)]) (st' := [.int 1, .int what]) (w' := wMv (wiF fr lo fa) ki mo (hoF sty wset wfor) cd sr stk1 names1 x.2.2.2.2.2.1 x.2.2.2.2.2.2 x.1 x.2.1 x.2.2.1 x.2.2.2.1 x.2.2.2.2.1 turn1 (nI P) (nI C) (nI k) lent J K) (Ps := []) rfl trivial ?_
                refine ww_icmp_ne 48 rfl (tgt := 109) rfl (fun c14 => ?_) (fun c14 => ?_)
                · refine ww_run 62 1 (pc' := 111) (lv' := [(4, .int 0), (0, .ref 0), (1, .int (nI N)), (2, .int (nI c)), (3, .int what)]) (st' := [.int 0]) (w' := wMv (wiF fr lo fa) ki mo (hoF sty wset wfor) cd sr stk1 names1 x.2.2.2.2.2.1 x.2.2.2.2.2.2 x.1 x.2.1 x.2.2.1 x.2.2.2.1 x.2.2.2.2.1 turn1 (nI P) (nI C) (nI k) lent J K) (Ps := []) rfl trivial ?_
                  refine ww_if_eq 63 rfl (tgt := 118) rfl (fun c15 => ?_) (fun c15 => ?_)
                  · refine ww_run 66 1 (pc' := 119) (lv' := [(4, .int 0), (0, .ref 0), (1, .int (nI N)), (2, .int (nI c)), (3, .int what)]) (st' := [.int 0]) (w' := wMv (wiF fr lo fa) ki mo (hoF sty wset wfor) cd sr stk1 names1 x.2.2.2.2.2.1 x.2.2.2.2.2.2 x.1 x.2.1 x.2.2.1 x.2.2.2.1 x.2.2.2.2.1 turn1 (nI P) (nI C) (nI k) lent J K) (Ps := []) rfl trivial ?_
                    refine ww_iret 67 rfl rfl ?_
                    exact ⟨by simp only [nI_clamp (n := N) (by omega), nI_clamp (n := c) (by omega), hx]; rw [if_neg (fun h => h ⟨c1, c2⟩), if_neg (fun h => h c3), if_neg c13, if_neg c14, b2i_f (by grind)], x, _, _, _, rfl⟩
                  · exact absurd c15 (by decide)
                · refine ww_run 49 11 (pc' := 103) (lv' := [(4, .int 0), (0, .ref 0), (1, .int (nI N)), (2, .int (nI c)), (3, .int what)]) (st' := [.int (x.2.2.2.2.2.1 (nI c).toNatClampNeg), .int 0, .int ((x.2.2.2.2.2.1 (nI c).toNatClampNeg) - (nI N))]) (w' := wMv (wiF fr lo fa) ki mo (hoF sty wset wfor) cd sr stk1 names1 x.2.2.2.2.2.1 x.2.2.2.2.2.2 x.1 x.2.1 x.2.2.1 x.2.2.2.1 x.2.2.2.2.1 turn1 (nI P) (nI C) (nI k) lent J K) (Ps := [vp_in (nI c) 6, vp_in (nI c) 6]) rfl ⟨(vp_in_nI (by omega) (by omega)), (vp_in_nI (by omega) (by omega)), trivial⟩ ?_
                  rw [nI_clamp (n := c) (by omega)]
                  refine ww_cSi 60 ok_X7_within (Co.fr0 (c_X7_within ((x.2.2.2.2.2.1 c) - (nI N)) 0 (x.2.2.2.2.2.1 c)) rfl) lk_X7_191 rfl (by omega) (rest := []) rfl (Nat.le_of_ble_eq_true rfl) rfl ?_
                  refine ww_run 61 1 (pc' := 119) (lv' := [(4, .int 0), (0, .ref 0), (1, .int (nI N)), (2, .int (nI c)), (3, .int what)]) (st' := [.int (mWithin ((x.2.2.2.2.2.1 c) - (nI N)) 0 (x.2.2.2.2.2.1 c))]) (w' := wMv (wiF fr lo fa) ki mo (hoF sty wset wfor) cd sr stk1 names1 x.2.2.2.2.2.1 x.2.2.2.2.2.2 x.1 x.2.1 x.2.2.1 x.2.2.2.1 x.2.2.2.2.1 turn1 (nI P) (nI C) (nI k) lent J K) (Ps := []) rfl trivial ?_
                  refine ww_iret 67 rfl rfl ?_
                  exact ⟨by simp only [nI_clamp (n := N) (by omega), nI_clamp (n := c) (by omega), hx]; rw [if_neg (fun h => h ⟨c1, c2⟩), if_neg (fun h => h c3), if_neg c13, if_pos c14], x, _, _, _, rfl⟩
              · refine ww_run 41 5 (pc' := 119) (lv' := [(4, .int 0), (0, .ref 0), (1, .int (nI N)), (2, .int (nI c)), (3, .int what)]) (st' := [.int (x.2.2.2.2.2.2 (nI c).toNatClampNeg)]) (w' := wMv (wiF fr lo fa) ki mo (hoF sty wset wfor) cd sr stk1 names1 x.2.2.2.2.2.1 x.2.2.2.2.2.2 x.1 x.2.1 x.2.2.1 x.2.2.2.1 x.2.2.2.2.1 turn1 (nI P) (nI C) (nI k) lent J K) (Ps := [vp_in (nI c) 6]) rfl ⟨(vp_in_nI (by omega) (by omega)), trivial⟩ ?_
                rw [nI_clamp (n := c) (by omega)]
                refine ww_iret 67 rfl rfl ?_
                exact ⟨by simp only [nI_clamp (n := N) (by omega), nI_clamp (n := c) (by omega), hx]; rw [if_neg (fun h => h ⟨c1, c2⟩), if_neg (fun h => h c3), if_pos c13], x, _, _, _, rfl⟩
            · rw [b2i_ne0] at c12
              refine ww_run 35 2 (pc' := 68) (lv' := [(0, .ref 0), (1, .int (nI N)), (2, .int (nI c)), (3, .int what)]) (st' := [.int 1]) (w' := wMv (wiF fr lo fa) ki mo (hoF sty wset wfor) cd sr stk1 names1 x.2.2.2.2.2.1 x.2.2.2.2.2.2 x.1 x.2.1 x.2.2.1 x.2.2.2.1 x.2.2.2.2.1 turn1 (nI P) (nI C) (nI k) lent J K) (Ps := []) rfl trivial ?_
              refine ww_run 38 2 (pc' := 71) (lv' := [(4, .int 1), (0, .ref 0), (1, .int (nI N)), (2, .int (nI c)), (3, .int what)]) (st' := [.int what]) (w' := wMv (wiF fr lo fa) ki mo (hoF sty wset wfor) cd sr stk1 names1 x.2.2.2.2.2.1 x.2.2.2.2.2.2 x.1 x.2.1 x.2.2.1 x.2.2.2.1 x.2.2.2.2.1 turn1 (nI P) (nI C) (nI k) lent J K) (Ps := []) rfl trivial ?_
              refine ww_if_ne 40 rfl (tgt := 83) rfl (fun c16 => ?_) (fun c16 => ?_)
              · refine ww_run 46 2 (pc' := 85) (lv' := [(4, .int 1), (0, .ref 0), (1, .int (nI N)), (2, .int (nI c)), (3, .int what)]) (st' := [.int 1, .int what]) (w' := wMv (wiF fr lo fa) ki mo (hoF sty wset wfor) cd sr stk1 names1 x.2.2.2.2.2.1 x.2.2.2.2.2.2 x.1 x.2.1 x.2.2.1 x.2.2.2.1 x.2.2.2.2.1 turn1 (nI P) (nI C) (nI k) lent J K) (Ps := []) rfl trivial ?_
                refine ww_icmp_ne 48 rfl (tgt := 109) rfl (fun c17 => ?_) (fun c17 => ?_)
                · refine ww_run 62 1 (pc' := 111) (lv' := [(4, .int 1), (0, .ref 0), (1, .int (nI N)), (2, .int (nI c)), (3, .int what)]) (st' := [.int 1]) (w' := wMv (wiF fr lo fa) ki mo (hoF sty wset wfor) cd sr stk1 names1 x.2.2.2.2.2.1 x.2.2.2.2.2.2 x.1 x.2.1 x.2.2.1 x.2.2.2.1 x.2.2.2.2.1 turn1 (nI P) (nI C) (nI k) lent J K) (Ps := []) rfl trivial ?_
                  refine ww_if_eq 63 rfl (tgt := 118) rfl (fun c18 => ?_) (fun c18 => ?_)
                  · exact absurd c18 (by decide)
                  · refine ww_run 64 2 (pc' := 119) (lv' := [(4, .int 1), (0, .ref 0), (1, .int (nI N)), (2, .int (nI c)), (3, .int what)]) (st' := [.int 1]) (w' := wMv (wiF fr lo fa) ki mo (hoF sty wset wfor) cd sr stk1 names1 x.2.2.2.2.2.1 x.2.2.2.2.2.2 x.1 x.2.1 x.2.2.1 x.2.2.2.1 x.2.2.2.2.1 turn1 (nI P) (nI C) (nI k) lent J K) (Ps := []) rfl trivial ?_
                    refine ww_iret 67 rfl rfl ?_
                    exact ⟨by simp only [nI_clamp (n := N) (by omega), nI_clamp (n := c) (by omega), hx]; rw [if_neg (fun h => h ⟨c1, c2⟩), if_neg (fun h => h c3), if_neg c16, if_neg c17, b2i_t (by grind)], x, _, _, _, rfl⟩
                · refine ww_run 49 11 (pc' := 103) (lv' := [(4, .int 1), (0, .ref 0), (1, .int (nI N)), (2, .int (nI c)), (3, .int what)]) (st' := [.int (x.2.2.2.2.2.1 (nI c).toNatClampNeg), .int 0, .int ((x.2.2.2.2.2.1 (nI c).toNatClampNeg) - (nI N))]) (w' := wMv (wiF fr lo fa) ki mo (hoF sty wset wfor) cd sr stk1 names1 x.2.2.2.2.2.1 x.2.2.2.2.2.2 x.1 x.2.1 x.2.2.1 x.2.2.2.1 x.2.2.2.2.1 turn1 (nI P) (nI C) (nI k) lent J K) (Ps := [vp_in (nI c) 6, vp_in (nI c) 6]) rfl ⟨(vp_in_nI (by omega) (by omega)), (vp_in_nI (by omega) (by omega)), trivial⟩ ?_
                  rw [nI_clamp (n := c) (by omega)]
                  refine ww_cSi 60 ok_X7_within (Co.fr0 (c_X7_within ((x.2.2.2.2.2.1 c) - (nI N)) 0 (x.2.2.2.2.2.1 c)) rfl) lk_X7_191 rfl (by omega) (rest := []) rfl (Nat.le_of_ble_eq_true rfl) rfl ?_
                  refine ww_run 61 1 (pc' := 119) (lv' := [(4, .int 1), (0, .ref 0), (1, .int (nI N)), (2, .int (nI c)), (3, .int what)]) (st' := [.int (mWithin ((x.2.2.2.2.2.1 c) - (nI N)) 0 (x.2.2.2.2.2.1 c))]) (w' := wMv (wiF fr lo fa) ki mo (hoF sty wset wfor) cd sr stk1 names1 x.2.2.2.2.2.1 x.2.2.2.2.2.2 x.1 x.2.1 x.2.2.1 x.2.2.2.1 x.2.2.2.2.1 turn1 (nI P) (nI C) (nI k) lent J K) (Ps := []) rfl trivial ?_
                  refine ww_iret 67 rfl rfl ?_
                  exact ⟨by simp only [nI_clamp (n := N) (by omega), nI_clamp (n := c) (by omega), hx]; rw [if_neg (fun h => h ⟨c1, c2⟩), if_neg (fun h => h c3), if_neg c16, if_pos c17], x, _, _, _, rfl⟩
              · refine ww_run 41 5 (pc' := 119) (lv' := [(4, .int 1), (0, .ref 0), (1, .int (nI N)), (2, .int (nI c)), (3, .int what)]) (st' := [.int (x.2.2.2.2.2.2 (nI c).toNatClampNeg)]) (w' := wMv (wiF fr lo fa) ki mo (hoF sty wset wfor) cd sr stk1 names1 x.2.2.2.2.2.1 x.2.2.2.2.2.2 x.1 x.2.1 x.2.2.1 x.2.2.2.1 x.2.2.2.2.1 turn1 (nI P) (nI C) (nI k) lent J K) (Ps := [vp_in (nI c) 6]) rfl ⟨(vp_in_nI (by omega) (by omega)), trivial⟩ ?_
                rw [nI_clamp (n := c) (by omega)]
                refine ww_iret 67 rfl rfl ?_
                exact ⟨by simp only [nI_clamp (n := N) (by omega), nI_clamp (n := c) (by omega), hx]; rw [if_neg (fun h => h ⟨c1, c2⟩), if_neg (fun h => h c3), if_pos c16], x, _, _, _, rfl⟩
      · rw [b2i_eq0] at c3
        refine ww_run 14 1 (pc' := 29) (lv' := [(0, .ref 0), (1, .int (nI N)), (2, .int (nI c)), (3, .int what)]) (st' := [.int (-7)]) (w' := wMv (wiF fr lo fa) ki mo (hoF sty wset wfor) cd sr stk names till sitter on was sat stood rose turn (nI P) (nI C) (nI k) lent J K) (Ps := []) rfl trivial ?_
        refine ww_iret 15 rfl rfl ?_
        exact ⟨by rw [if_neg (fun h => h ⟨c1, c2⟩), if_pos c3], (on, was, sat, stood, rose, till, sitter), _, _, _, rfl⟩
    · rw [b2i_eq0] at c2
      refine ww_run 7 1 (pc' := 17) (lv' := [(0, .ref 0), (1, .int nn), (2, .int cc), (3, .int what)]) (st' := [.int (-5)]) (w' := wMv (wiF fr lo fa) ki mo (hoF sty wset wfor) cd sr stk names till sitter on was sat stood rose turn (nI P) (nI C) (nI k) lent J K) (Ps := []) rfl trivial ?_
      refine ww_iret 8 rfl rfl ?_
      exact ⟨by rw [if_pos (fun h => c2 h.2)], (on, was, sat, stood, rose, till, sitter), _, _, _, rfl⟩
