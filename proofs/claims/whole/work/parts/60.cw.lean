theorem nm6_eq2 {names : Nat → Int32} {a b c d e f v : Int32} : ∀ k, k < 6 → upd (upd (upd (upd (upd (upd (upd names 0 a) 1 b) 2 c) 3 d) 4 e) 5 f) 2 v k = nm6 a b v d e f k := by
  intro k hk
  simp only [upd, nm6]
  grind
set_option maxHeartbeats 4000000 in
set_option maxRecDepth 100000 in
theorem l_X0_costsTogether_4 {Q : Option Value → List va_E → Prop} {d : Nat} (hd : 2 ≤ d) (fr lo fa ki mo : Nat → Int32) (ch sty wset wfor law lent : Int32) (on was sat stood rose firsts waits till sitter : Nat → Int32) (satOn risen : Int32) (nc : Nat) (codes ends : Nat → Int32)  (P : Nat) (e : Nat → Nat) (hP : P ≤ 5) (hL : LW nc ends e) (KK : ∀ (names stk : Nat → Int32), WW M_X0_costsTogether d Q xz 59 [(0, .ref 0), (1, .ref 17), (2, .int (sumTo (fun q => sayV codes e 2 (nm6 (fa q) 0 (if sat q < 9 then sat q else 9) (stood q) 30 (nI q))) P)), (3, .int (nI P))] [] (wEv fr lo fa ki mo (nI P) ch sty wset wfor law lent on was sat stood rose firsts waits till sitter names satOn risen nc codes ends stk)) :
    ∀ (n i : Nat) (names stk : Nat → Int32), i ≤ P → P + 1 ≤ i + n → WW M_X0_costsTogether d Q xz 4 [(0, .ref 0), (1, .ref 17), (2, .int (sumTo (fun q => sayV codes e 2 (nm6 (fa q) 0 (if sat q < 9 then sat q else 9) (stood q) 30 (nI q))) i)), (3, .int (nI i))] [] (wEv fr lo fa ki mo (nI P) ch sty wset wfor law lent on was sat stood rose firsts waits till sitter names satOn risen nc codes ends stk) := by
  intro n
  induction n with
  | zero => intro i; intros; omega
  | succ n ih =>
    intro i names stk hi hn 
    refine ww_run 4 4 (pc' := 12) (lv' := [(0, .ref 0), (1, .ref 17), (2, .int (sumTo (fun q => sayV codes e 2 (nm6 (fa q) 0 (if sat q < 9 then sat q else 9) (stood q) 30 (nI q))) i)), (3, .int (nI i))]) (st' := [.int (nI P), .int (nI i)]) (w' := wEv fr lo fa ki mo (nI P) ch sty wset wfor law lent on was sat stood rose firsts waits till sitter names satOn risen nc codes ends stk) (Ps := []) rfl trivial ?_
    refine ww_icmp_ge 8 rfl (tgt := 59) rfl (fun c1 => ?_) (fun c1 => ?_)
    · have c1 : P ≤ i := (nI_leI (a := P) (b := i) (by omega) (by omega)).mp c1
      obtain rfl : i = P := by omega
      exact KK names stk
    · have c1 : ¬ P ≤ i := fun q => c1 ((nI_leI (a := P) (b := i) (by omega) (by omega)).mpr q)
      refine ww_run 9 5 (pc' := 21) (lv' := [(0, .ref 0), (1, .ref 17), (2, .int (sumTo (fun q => sayV codes e 2 (nm6 (fa q) 0 (if sat q < 9 then sat q else 9) (stood q) 30 (nI q))) i)), (3, .int (nI i))]) (st' := [.int (nI i), .int 30, .int 0, .int (nI i), .ref 0]) (w' := wEv fr lo fa ki mo (nI P) ch sty wset wfor law lent on was sat stood rose firsts waits till sitter names satOn risen nc codes ends stk) (Ps := []) rfl trivial ?_
      refine ww_cVv 14 ok_X0_nameFor (c_X0_nameFor fr lo fa ki mo (nI P) ch sty wset wfor law lent on was sat stood rose firsts waits till sitter names satOn risen nc codes ends stk i 0 30 (nI i) (by omega)) lk_X0_93 rfl (by omega) (rest := []) rfl (Nat.le_of_ble_eq_true rfl) rfl rfl rfl rfl ?_
      refine ww_run 15 8 (pc' := 37) (lv' := [(0, .ref 0), (1, .ref 17), (2, .int (sumTo (fun q => sayV codes e 2 (nm6 (fa q) 0 (if sat q < 9 then sat q else 9) (stood q) 30 (nI q))) i)), (3, .int (nI i))]) (st' := [.int (sat (nI i).toNatClampNeg), .int 9, .int 2, .ref 16]) (w' := wEv fr lo fa ki mo (nI P) ch sty wset wfor law lent on was sat stood rose firsts waits till sitter (upd (upd (upd (upd (upd (upd names 0 (fa i)) 1 0) 2 (sat i)) 3 (stood i)) 4 30) 5 (nI i)) satOn risen nc codes ends stk) (Ps := [vp_in (nI i) 5]) rfl ⟨(vp_in_nI (by omega) (by omega)), trivial⟩ ?_
      rw [nI_clamp (n := i) (by omega)]
      refine ww_mmin 23 (idx := 154) (by decide +kernel) (by omega) (Nat.le_of_ble_eq_true rfl) rfl ?_
      refine ww_run 24 6 (pc' := 48) (lv' := [(0, .ref 0), (1, .ref 17), (2, .int (sumTo (fun q => sayV codes e 2 (nm6 (fa q) 0 (if sat q < 9 then sat q else 9) (stood q) 30 (nI q))) i)), (3, .int (nI i))]) (st' := [.ref 16, .int 2, .ref 17, .int (sumTo (fun q => sayV codes e 2 (nm6 (fa q) 0 (if sat q < 9 then sat q else 9) (stood q) 30 (nI q))) i)]) (w' := wEv fr lo fa ki mo (nI P) ch sty wset wfor law lent on was sat stood rose firsts waits till sitter (upd (upd (upd (upd (upd (upd (upd names 0 (fa i)) 1 0) 2 (sat i)) 3 (stood i)) 4 30) 5 (nI i)) 2 (if (sat i) < 9 then (sat i) else 9)) satOn risen nc codes ends stk) (Ps := [vp_in 2 6]) rfl ⟨(vp_in_nI (n := 2) (by decide) (by decide)), trivial⟩ ?_
      refine ww_cVi 30 (b := 17) (av := [.int 2, .ref 16]) (w1 := wEv fr lo fa ki mo (nI P) ch sty wset wfor law lent on was sat stood rose firsts waits till sitter (upd (upd (upd (upd (upd (upd (upd names 0 (fa i)) 1 0) 2 (sat i)) 3 (stood i)) 4 30) 5 (nI i)) 2 (if (sat i) < 9 then (sat i) else 9)) satOn risen nc codes ends ((sayC codes e 2 stk (upd (upd (upd (upd (upd (upd (upd names 0 (fa i)) 1 0) 2 (sat i)) 3 (stood i)) 4 30) 5 (nI i)) 2 (if (sat i) < 9 then (sat i) else 9))).1)) ok_X3_says (Co.fri [17, 18, 19, 20, 16] (c_X3_says nc codes ends stk (upd (upd (upd (upd (upd (upd (upd names 0 (fa i)) 1 0) 2 (sat i)) 3 (stood i)) 4 30) 5 (nI i)) 2 (if (sat i) < 9 then (sat i) else 9)) 2 e (by omega) hL.1 hL.2.1 hL.2.2.1 hL.2.2.2.1 hL.2.2.2.2) rfl rfl rfl) lk_X0_100 rfl (by omega) (rest := [.int (sumTo (fun q => sayV codes e 2 (nm6 (fa q) 0 (if sat q < 9 then sat q else 9) (stood q) 30 (nI q))) i)]) rfl (Nat.le_of_ble_eq_true rfl) rfl rfl rfl rfl ?_
      rw [sayV_eq (ng := nm6 (fa i) 0 (if sat i < 9 then sat i else 9) (stood i) 30 (nI i)) nm6_eq2]
      refine ww_run 31 4 (pc' := 4) (lv' := [(3, .int ((nI i) + 1)), (2, .int ((sumTo (fun q => sayV codes e 2 (nm6 (fa q) 0 (if sat q < 9 then sat q else 9) (stood q) 30 (nI q))) i) + (sayV codes e 2 (nm6 (fa i) 0 (if sat i < 9 then sat i else 9) (stood i) 30 (nI i))))), (0, .ref 0), (1, .ref 17)]) (st' := []) (w' := wEv fr lo fa ki mo (nI P) ch sty wset wfor law lent on was sat stood rose firsts waits till sitter (upd (upd (upd (upd (upd (upd (upd names 0 (fa i)) 1 0) 2 (sat i)) 3 (stood i)) 4 30) 5 (nI i)) 2 (if (sat i) < 9 then (sat i) else 9)) satOn risen nc codes ends ((sayC codes e 2 stk (upd (upd (upd (upd (upd (upd (upd names 0 (fa i)) 1 0) 2 (sat i)) 3 (stood i)) 4 30) 5 (nI i)) 2 (if (sat i) < 9 then (sat i) else 9))).1)) (Ps := []) rfl trivial ?_
      rw [nI_1 i]
      refine ww_lv [2, 3, 1, 0] (lv' := [(0, .ref 0), (1, .ref 17), (2, .int ((sumTo (fun q => sayV codes e 2 (nm6 (fa q) 0 (if sat q < 9 then sat q else 9) (stood q) 30 (nI q))) i) + (sayV codes e 2 (nm6 (fa i) 0 (if sat i < 9 then sat i else 9) (stood i) 30 (nI i))))), (3, .int (nI (i + 1)))]) rfl ?_
      exact ih (i + 1) _ _ (by omega) (by omega)
set_option maxHeartbeats 4000000 in
set_option maxRecDepth 100000 in
theorem c_X0_costsTogether (fr lo fa ki mo : Nat → Int32) (ch sty wset wfor law lent : Int32) (on was sat stood rose firsts waits till sitter names : Nat → Int32) (satOn risen : Int32) (nc : Nat) (codes ends stk : Nat → Int32) (P : Nat) (e : Nat → Nat) (hP : P ≤ 5) (hL : LW nc ends e) : Co M_X0_costsTogether 2 0 0 [.ref 0, .ref 17] (wEv fr lo fa ki mo (nI P) ch sty wset wfor law lent on was sat stood rose firsts waits till sitter names satOn risen nc codes ends stk) (fun r w' => r = some (.int (sumTo (fun q => sayV codes e 2 (nm6 (fa q) 0 (if sat q < 9 then sat q else 9) (stood q) 30 (nI q))) P)) ∧ ∃ names' stk', w' = wEv fr lo fa ki mo (nI P) ch sty wset wfor law lent on was sat stood rose firsts waits till sitter names' satOn risen nc codes ends stk') := by
  refine Co.of ok_X0_costsTogether rfl ?_
  refine ww_run 0 4 (pc' := 4) (lv' := [(3, .int 0), (2, .int 0), (0, .ref 0), (1, .ref 17)]) (st' := []) (w' := wEv fr lo fa ki mo (nI P) ch sty wset wfor law lent on was sat stood rose firsts waits till sitter names satOn risen nc codes ends stk) (Ps := []) rfl trivial ?_
  refine ww_lv [2, 3, 1, 0] (lv' := [(0, .ref 0), (1, .ref 17), (2, .int 0), (3, .int 0)]) rfl ?_
  refine l_X0_costsTogether_4 (by omega) fr lo fa ki mo ch sty wset wfor law lent on was sat stood rose firsts waits till sitter satOn risen nc codes ends P e hP hL (fun names1 stk1 => ?_) (P + 1) 0 names stk (by omega) (by omega)
  refine ww_run 35 1 (pc' := 60) (lv' := [(0, .ref 0), (1, .ref 17), (2, .int (sumTo (fun q => sayV codes e 2 (nm6 (fa q) 0 (if sat q < 9 then sat q else 9) (stood q) 30 (nI q))) P)), (3, .int (nI P))]) (st' := [.int (sumTo (fun q => sayV codes e 2 (nm6 (fa q) 0 (if sat q < 9 then sat q else 9) (stood q) 30 (nI q))) P)]) (w' := wEv fr lo fa ki mo (nI P) ch sty wset wfor law lent on was sat stood rose firsts waits till sitter names1 satOn risen nc codes ends stk1) (Ps := []) rfl trivial ?_
  refine ww_iret 36 rfl rfl ?_
  exact ⟨rfl, _, _, rfl⟩
def shR : Nat → Option Nat := fun j => if j = 0 then some 40 else if j = 1 then some 42 else if j = 2 then some 44 else if j = 3 then some 46 else none
abbrev wC (fr lo fa ki mo : Nat → Int32) (pe ch sty wset wfor law lent : Int32) (pfr plo pfa pki pmo : Nat → Int32) (ppe pch psty pwset pwfor plaw plent : Int32) (bytes tcodes tends : Nat → Int32) (tsize tat tcn tpl tok : Int32) (efr elo efa eki emo : Nat → Int32) (epe ech esty ewset ewfor elaw elent : Int32) (on was sat stood rose firsts waits till sitter names : Nat → Int32) (satOn risen pict tn brs bst : Int32) (row brow kept asked so sz : Nat → Int32) (ce : Nat → Nat → Int32) (tx : Nat → Option Nat) (T : List va_E) : List va_E :=
  (.inr (5, [.ref 1, .ref 7, .int pict, .ref 13, .ref 17, .int tn, .ref 18, .ref 19, .int brs, .int bst, .ref 36, .ref 37, .ref 38, .ref 39]) : va_E) ::
   .inr (1, [.ref 2, .ref 3, .ref 4, .int pe, .ref 5, .ref 6, .int ch, .int sty, .int wset, .int wfor, .int law, .int lent]) ::
   iA 5 fr ::
   iA 5 lo ::
   iA 5 fa ::
   iA 6 ki ::
   iA 6 mo ::
   .inr (1, [.ref 8, .ref 9, .ref 10, .int ppe, .ref 11, .ref 12, .int pch, .int psty, .int pwset, .int pwfor, .int plaw, .int plent]) ::
   iA 5 pfr ::
   iA 5 plo ::
   iA 5 pfa ::
   iA 6 pki ::
   iA 6 pmo ::
   .inr (4, [.int tsize, .int tat, .ref 14, .ref 15, .ref 16, .int tcn, .int tpl, .int tok]) ::
   iA 160 bytes ::
   iA 160 tcodes ::
   iA 3 tends ::
   .inl (2, 6, .inr (.inr (.inr (.inr tx)))) ::
   .inl (3, 4, .inr (.inr (.inr (.inr shR)))) ::
   .inr (0, [.ref 20, .ref 26, .ref 27, .ref 28, .ref 29, .ref 30, .ref 31, .ref 32, .ref 33, .ref 34, .ref 35, .int satOn, .int risen]) ::
   .inr (1, [.ref 21, .ref 22, .ref 23, .int epe, .ref 24, .ref 25, .int ech, .int esty, .int ewset, .int ewfor, .int elaw, .int elent]) ::
   iA 5 efr ::
   iA 5 elo ::
   iA 5 efa ::
   iA 6 eki ::
   iA 6 emo ::
   iA 5 on ::
   iA 5 was ::
   iA 5 sat ::
   iA 5 stood ::
   iA 5 rose ::
   iA 5 firsts ::
   zA 5 waits ::
   iA 6 till ::
   iA 6 sitter ::
   iA 6 names ::
   iA 5 row ::
   iA 5 brow ::
   iA 20 kept ::
   iA 6 asked ::
   .inr (3, [.int (so 0), .int (sz 0), .ref 41]) ::
   iA 40 (ce 0) ::
   .inr (3, [.int (so 1), .int (sz 1), .ref 43]) ::
   iA 40 (ce 1) ::
   .inr (3, [.int (so 2), .int (sz 2), .ref 45]) ::
   iA 40 (ce 2) ::
   .inr (3, [.int (so 3), .int (sz 3), .ref 47]) ::
   iA 40 (ce 3) :: T
