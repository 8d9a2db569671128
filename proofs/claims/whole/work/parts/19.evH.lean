/-- till when a chair is warm at first -/
def tillS (wset wfor : Int32) : Nat → Int32 := fun c => if ((wset >>> ((nI c) &&& 31)) &&& 1) = 0 then 0 else wfor
def mixF (f g : Nat → Int32) (n : Nat) : Nat → Int32 := fun j => if j < n then g j else f j
theorem mixF_0 (f g : Nat → Int32) : mixF f g 0 = f := by funext j; simp [mixF]
theorem mixF_s {f g : Nat → Int32} {n : Nat} {v : Int32} (hv : v = g n) : upd (mixF f g n) n v = mixF f g (n + 1) := by
  funext j
  simp only [upd, mixF]
  grind
def startS (wset wfor : Int32) : ES := (fun _ => -1, fun _ => -1, fun _ => 0, fun _ => 0, fun _ => -1, tillS wset wfor, fun _ => -1, 0, 0)
theorem startS_on (wset wfor : Int32) : onOK (startS wset wfor).1 := fun _ _ => Or.inl rfl
set_option maxHeartbeats 4000000 in
set_option maxRecDepth 100000 in
theorem l_X0_start_60 {Q : Option Value → List va_E → Prop} {d : Nat} (fr lo fa ki mo : Nat → Int32) (pe ch sty wset wfor law lent : Int32) (on was sat stood rose firsts waits till sitter names : Nat → Int32) (satOn risen : Int32) (nc : Nat) (codes ends stk : Nat → Int32) (K : WW M_X0_start d Q xz 103 [(0, .ref 0), (1, .int (nI 6))] [] (wEv fr lo fa ki mo pe ch sty wset wfor law lent on was sat stood rose firsts waits (mixF till (tillS wset wfor) 6) sitter names satOn risen nc codes ends stk)) :
    ∀ (n i : Nat), i ≤ 6 → 6 + 1 ≤ i + n → WW M_X0_start d Q xz 60 [(0, .ref 0), (1, .int (nI i))] [] (wEv fr lo fa ki mo pe ch sty wset wfor law lent on was sat stood rose firsts waits (mixF till (tillS wset wfor) i) sitter names satOn risen nc codes ends stk) := by
  intro n
  induction n with
  | zero => intro i; intros; omega
  | succ n ih =>
    intro i hi hn
    refine ww_run 32 2 (pc' := 63) (lv' := [(0, .ref 0), (1, .int (nI i))]) (st' := [.int 6, .int (nI i)]) (w' := wEv fr lo fa ki mo pe ch sty wset wfor law lent on was sat stood rose firsts waits (mixF till (tillS wset wfor) i) sitter names satOn risen nc codes ends stk) (Ps := []) rfl trivial ?_
    refine ww_icmp_ge 34 rfl (tgt := 103) rfl (fun c1 => ?_) (fun c1 => ?_)
    · have c1 : 6 ≤ i := (nI_leI (a := 6) (b := i) (by omega) (by omega)).mp c1
      obtain rfl : i = 6 := by omega
      exact K
    · have c1 : ¬ 6 ≤ i := fun q => c1 ((nI_leI (a := 6) (b := i) (by omega) (by omega)).mpr q)
      refine ww_run 35 10 (pc' := 82) (lv' := [(0, .ref 0), (1, .int (nI i))]) (st' := [.int ((wset >>> ((nI i) &&& 31)) &&& 1), .int (nI i), .ref 14]) (w' := wEv fr lo fa ki mo pe ch sty wset wfor law lent on was sat stood rose firsts waits (mixF till (tillS wset wfor) i) sitter names satOn risen nc codes ends stk) (Ps := []) rfl trivial ?_
      refine ww_if_eq 45 rfl (tgt := 95) rfl (fun c2 => ?_) (fun c2 => ?_)
      · refine ww_run 50 4 (pc' := 60) (lv' := [(1, .int ((nI i) + 1)), (0, .ref 0)]) (st' := []) (w' := wEv fr lo fa ki mo pe ch sty wset wfor law lent on was sat stood rose firsts waits (upd (mixF till (tillS wset wfor) i) ((nI i).toNatClampNeg) 0) sitter names satOn risen nc codes ends stk) (Ps := [vp_in (nI i) 6]) rfl ⟨(vp_in_nI (by omega) (by omega)), trivial⟩ ?_
        rw [nI_clamp (n := i) (by omega)]
        rw [nI_1 i]
        refine ww_lv [1, 0] (lv' := [(0, .ref 0), (1, .int (nI (i + 1)))]) rfl ?_
        rw [mixF_s (by simp only [tillS]; rw [if_pos c2])]
        exact ih (i + 1) (by omega) (by omega)
      · refine ww_run 46 4 (pc' := 96) (lv' := [(0, .ref 0), (1, .int (nI i))]) (st' := [.int wfor, .int (nI i), .ref 14]) (w' := wEv fr lo fa ki mo pe ch sty wset wfor law lent on was sat stood rose firsts waits (mixF till (tillS wset wfor) i) sitter names satOn risen nc codes ends stk) (Ps := []) rfl trivial ?_
        refine ww_run 51 3 (pc' := 60) (lv' := [(1, .int ((nI i) + 1)), (0, .ref 0)]) (st' := []) (w' := wEv fr lo fa ki mo pe ch sty wset wfor law lent on was sat stood rose firsts waits (upd (mixF till (tillS wset wfor) i) ((nI i).toNatClampNeg) wfor) sitter names satOn risen nc codes ends stk) (Ps := [vp_in (nI i) 6]) rfl ⟨(vp_in_nI (by omega) (by omega)), trivial⟩ ?_
        rw [nI_clamp (n := i) (by omega)]
        rw [nI_1 i]
        refine ww_lv [1, 0] (lv' := [(0, .ref 0), (1, .int (nI (i + 1)))]) rfl ?_
        rw [mixF_s (by simp only [tillS]; rw [if_neg c2])]
        exact ih (i + 1) (by omega) (by omega)
set_option maxHeartbeats 4000000 in
set_option maxRecDepth 100000 in
theorem c_X0_start (fr lo fa ki mo : Nat → Int32) (pe ch sty wset wfor law lent : Int32) (on was sat stood rose firsts waits till sitter names : Nat → Int32) (satOn risen : Int32) (nc : Nat) (codes ends stk : Nat → Int32)  : Co M_X0_start 1 0 0 [.ref 0] (wEv fr lo fa ki mo pe ch sty wset wfor law lent on was sat stood rose firsts waits till sitter names satOn risen nc codes ends stk) (Qv (wEv fr lo fa ki mo pe ch sty wset wfor law lent (fun _ => (-1)) (fun _ => (-1)) (fun _ => 0) (fun _ => 0) (fun _ => (-1)) firsts waits (tillS wset wfor) (fun _ => (-1)) names 0 0 nc codes ends stk)) := by
  refine Co.of ok_X0_start rfl ?_
  refine ww_run 0 9 (pc' := 15) (lv' := [(0, .ref 0)]) (st' := [.int (-1), .ref 7]) (w' := wEv fr lo fa ki mo pe ch sty wset wfor law lent on was sat stood rose firsts waits till sitter names 0 0 nc codes ends stk) (Ps := []) rfl trivial ?_
  refine ww_cSv 9 (av := [.ref 7, .int (-1)]) (w1 := wEv fr lo fa ki mo pe ch sty wset wfor law lent (fun _ => (-1)) was sat stood rose firsts waits till sitter names 0 0 nc codes ends stk) ok_J7_fill_53178 (Co.frv [7] (c_J7_fill_53178 5 on (-1) (by omega)) rfl rfl rfl) lk_X0_57 rfl (by omega) (rest := []) rfl (Nat.le_of_ble_eq_true rfl) rfl ?_
  refine ww_run 10 3 (pc' := 23) (lv' := [(0, .ref 0)]) (st' := [.int (-1), .ref 8]) (w' := wEv fr lo fa ki mo pe ch sty wset wfor law lent (fun _ => (-1)) was sat stood rose firsts waits till sitter names 0 0 nc codes ends stk) (Ps := []) rfl trivial ?_
  refine ww_cSv 13 (av := [.ref 8, .int (-1)]) (w1 := wEv fr lo fa ki mo pe ch sty wset wfor law lent (fun _ => (-1)) (fun _ => (-1)) sat stood rose firsts waits till sitter names 0 0 nc codes ends stk) ok_J7_fill_53178 (Co.frv [8] (c_J7_fill_53178 5 was (-1) (by omega)) rfl rfl rfl) lk_X0_57 rfl (by omega) (rest := []) rfl (Nat.le_of_ble_eq_true rfl) rfl ?_
  refine ww_run 14 3 (pc' := 31) (lv' := [(0, .ref 0)]) (st' := [.int 0, .ref 9]) (w' := wEv fr lo fa ki mo pe ch sty wset wfor law lent (fun _ => (-1)) (fun _ => (-1)) sat stood rose firsts waits till sitter names 0 0 nc codes ends stk) (Ps := []) rfl trivial ?_
  refine ww_cSv 17 (av := [.ref 9, .int 0]) (w1 := wEv fr lo fa ki mo pe ch sty wset wfor law lent (fun _ => (-1)) (fun _ => (-1)) (fun _ => 0) stood rose firsts waits till sitter names 0 0 nc codes ends stk) ok_J7_fill_53178 (Co.frv [9] (c_J7_fill_53178 5 sat 0 (by omega)) rfl rfl rfl) lk_X0_57 rfl (by omega) (rest := []) rfl (Nat.le_of_ble_eq_true rfl) rfl ?_
  refine ww_run 18 3 (pc' := 39) (lv' := [(0, .ref 0)]) (st' := [.int 0, .ref 10]) (w' := wEv fr lo fa ki mo pe ch sty wset wfor law lent (fun _ => (-1)) (fun _ => (-1)) (fun _ => 0) stood rose firsts waits till sitter names 0 0 nc codes ends stk) (Ps := []) rfl trivial ?_
  refine ww_cSv 21 (av := [.ref 10, .int 0]) (w1 := wEv fr lo fa ki mo pe ch sty wset wfor law lent (fun _ => (-1)) (fun _ => (-1)) (fun _ => 0) (fun _ => 0) rose firsts waits till sitter names 0 0 nc codes ends stk) ok_J7_fill_53178 (Co.frv [10] (c_J7_fill_53178 5 stood 0 (by omega)) rfl rfl rfl) lk_X0_57 rfl (by omega) (rest := []) rfl (Nat.le_of_ble_eq_true rfl) rfl ?_
  refine ww_run 22 3 (pc' := 47) (lv' := [(0, .ref 0)]) (st' := [.int (-1), .ref 11]) (w' := wEv fr lo fa ki mo pe ch sty wset wfor law lent (fun _ => (-1)) (fun _ => (-1)) (fun _ => 0) (fun _ => 0) rose firsts waits till sitter names 0 0 nc codes ends stk) (Ps := []) rfl trivial ?_
  refine ww_cSv 25 (av := [.ref 11, .int (-1)]) (w1 := wEv fr lo fa ki mo pe ch sty wset wfor law lent (fun _ => (-1)) (fun _ => (-1)) (fun _ => 0) (fun _ => 0) (fun _ => (-1)) firsts waits till sitter names 0 0 nc codes ends stk) ok_J7_fill_53178 (Co.frv [11] (c_J7_fill_53178 5 rose (-1) (by omega)) rfl rfl rfl) lk_X0_57 rfl (by omega) (rest := []) rfl (Nat.le_of_ble_eq_true rfl) rfl ?_
  refine ww_run 26 3 (pc' := 55) (lv' := [(0, .ref 0)]) (st' := [.int (-1), .ref 15]) (w' := wEv fr lo fa ki mo pe ch sty wset wfor law lent (fun _ => (-1)) (fun _ => (-1)) (fun _ => 0) (fun _ => 0) (fun _ => (-1)) firsts waits till sitter names 0 0 nc codes ends stk) (Ps := []) rfl trivial ?_
  refine ww_cSv 29 (av := [.ref 15, .int (-1)]) (w1 := wEv fr lo fa ki mo pe ch sty wset wfor law lent (fun _ => (-1)) (fun _ => (-1)) (fun _ => 0) (fun _ => 0) (fun _ => (-1)) firsts waits till (fun _ => (-1)) names 0 0 nc codes ends stk) ok_J7_fill_53178 (Co.frv [15] (c_J7_fill_53178 6 sitter (-1) (by omega)) rfl rfl rfl) lk_X0_57 rfl (by omega) (rest := []) rfl (Nat.le_of_ble_eq_true rfl) rfl ?_
  refine ww_run 30 2 (pc' := 60) (lv' := [(1, .int 0), (0, .ref 0)]) (st' := []) (w' := wEv fr lo fa ki mo pe ch sty wset wfor law lent (fun _ => (-1)) (fun _ => (-1)) (fun _ => 0) (fun _ => 0) (fun _ => (-1)) firsts waits till (fun _ => (-1)) names 0 0 nc codes ends stk) (Ps := []) rfl trivial ?_
  refine ww_lv [1, 0] (lv' := [(0, .ref 0), (1, .int 0)]) rfl ?_
  have h0 := l_X0_start_60 (Q := Qv (wEv fr lo fa ki mo pe ch sty wset wfor law lent (fun _ => (-1)) (fun _ => (-1)) (fun _ => 0) (fun _ => 0) (fun _ => (-1)) firsts waits (tillS wset wfor) (fun _ => (-1)) names 0 0 nc codes ends stk)) (d := 1) fr lo fa ki mo pe ch sty wset wfor law lent (fun _ => (-1)) (fun _ => (-1)) (fun _ => 0) (fun _ => 0) (fun _ => (-1)) firsts waits till (fun _ => (-1)) names 0 0 nc codes ends stk ?_ 7 0 (by omega) (by omega)
  · rw [mixF_0] at h0
    exact h0
  refine ww_arr 14 (tillS wset wfor) rfl (fun j hj => by simp [mixF, hj]) (w1 := wEv fr lo fa ki mo pe ch sty wset wfor law lent (fun _ => (-1)) (fun _ => (-1)) (fun _ => 0) (fun _ => 0) (fun _ => (-1)) firsts waits (tillS wset wfor) (fun _ => (-1)) names 0 0 nc codes ends stk) rfl ?_
  refine ww_vret 54 rfl rfl ?_
  exact ⟨rfl, rfl⟩
set_option maxHeartbeats 4000000 in
set_option maxRecDepth 100000 in
theorem l_X0_live_6 {Q : Option Value → List va_E → Prop} {d : Nat} (hd : 5 ≤ d) (fr lo fa ki mo : Nat → Int32) (sty wset wfor law lent : Int32) (nc : Nat) (codes ends : Nat → Int32) (P C : Nat) (hP : P ≤ 5) (hC : C ≤ 6) (e : Nat → Nat) (hL : LW nc ends e) (N : Nat) (hN : N ≤ 30) :
    ∀ (n i : Nat) (s : ES) (firsts waits names stk : Nat → Int32), i ≤ N → N + 1 ≤ i + n → onOK s.1 → (∀ (firsts waits names stk : Nat → Int32), Q none (wEv fr lo fa ki mo (nI P) (nI C) sty wset wfor law lent ((liveS P C fr lo fa ki mo (sayV codes e) lent sty (N - i) i s).1) ((liveS P C fr lo fa ki mo (sayV codes e) lent sty (N - i) i s).2.1) ((liveS P C fr lo fa ki mo (sayV codes e) lent sty (N - i) i s).2.2.1) ((liveS P C fr lo fa ki mo (sayV codes e) lent sty (N - i) i s).2.2.2.1) ((liveS P C fr lo fa ki mo (sayV codes e) lent sty (N - i) i s).2.2.2.2.1) firsts waits ((liveS P C fr lo fa ki mo (sayV codes e) lent sty (N - i) i s).2.2.2.2.2.1) ((liveS P C fr lo fa ki mo (sayV codes e) lent sty (N - i) i s).2.2.2.2.2.2.1) names ((liveS P C fr lo fa ki mo (sayV codes e) lent sty (N - i) i s).2.2.2.2.2.2.2.1) ((liveS P C fr lo fa ki mo (sayV codes e) lent sty (N - i) i s).2.2.2.2.2.2.2.2) nc codes ends stk)) → WW M_X0_live d Q xz 6 [(0, .ref 0), (1, .ref 17), (2, .int (nI N)), (3, .int (nI i))] [] (wEv fr lo fa ki mo (nI P) (nI C) sty wset wfor law lent s.1 s.2.1 s.2.2.1 s.2.2.2.1 s.2.2.2.2.1 firsts waits s.2.2.2.2.2.1 s.2.2.2.2.2.2.1 names s.2.2.2.2.2.2.2.1 s.2.2.2.2.2.2.2.2 nc codes ends stk) := by
  intro n
  induction n with
  | zero => intro i; intros; omega
  | succ n ih =>
    intro i s firsts waits names stk hi hn hon hQ
    refine ww_run 4 2 (pc' := 8) (lv' := [(0, .ref 0), (1, .ref 17), (2, .int (nI N)), (3, .int (nI i))]) (st' := [.int (nI N), .int (nI i)]) (w' := wEv fr lo fa ki mo (nI P) (nI C) sty wset wfor law lent s.1 s.2.1 s.2.2.1 s.2.2.2.1 s.2.2.2.2.1 firsts waits s.2.2.2.2.2.1 s.2.2.2.2.2.2.1 names s.2.2.2.2.2.2.2.1 s.2.2.2.2.2.2.2.2 nc codes ends stk) (Ps := []) rfl trivial ?_
    refine ww_icmp_ge 6 rfl (tgt := 162) rfl (fun c1 => ?_) (fun c1 => ?_)
    · have c1 : N ≤ i := (nI_leI (a := N) (b := i) (by omega) (by omega)).mp c1
      refine ww_vret 84 rfl rfl ?_
      obtain rfl : i = N := by omega
      rw [Nat.sub_self] at hQ
      exact hQ _ _ _ _
    · have c1 : ¬ N ≤ i := fun q => c1 ((nI_leI (a := N) (b := i) (by omega) (by omega)).mpr q)
      refine ww_run 7 5 (pc' := 22) (lv' := [(0, .ref 0), (1, .ref 17), (2, .int (nI N)), (3, .int (nI i))]) (st' := [.int (nI P), .int s.2.2.2.2.2.2.2.2]) (w' := wEv fr lo fa ki mo (nI P) (nI C) sty wset wfor law lent s.1 s.2.1 s.2.2.1 s.2.2.2.1 s.2.2.2.2.1 firsts waits s.2.2.2.2.2.1 s.2.2.2.2.2.2.1 names s.2.2.2.2.2.2.2.1 s.2.2.2.2.2.2.2.2 nc codes ends stk) (Ps := []) rfl trivial ?_
      refine ww_icmp_ge 12 rfl (tgt := 162) rfl (fun c2 => ?_) (fun c2 => ?_)
      · refine ww_vret 84 rfl rfl ?_
        rw [show N - i = (N - (i + 1)) + 1 by omega] at hQ
        simp only [liveS] at hQ
        rw [if_pos c2] at hQ
        exact hQ _ _ _ _
      · refine ww_run 13 2 (pc' := 28) (lv' := [(4, .int 0), (0, .ref 0), (1, .ref 17), (2, .int (nI N)), (3, .int (nI i))]) (st' := []) (w' := wEv fr lo fa ki mo (nI P) (nI C) sty wset wfor law lent s.1 s.2.1 s.2.2.1 s.2.2.2.1 s.2.2.2.2.1 firsts waits s.2.2.2.2.2.1 s.2.2.2.2.2.2.1 names s.2.2.2.2.2.2.2.1 s.2.2.2.2.2.2.2.2 nc codes ends stk) (Ps := []) rfl trivial ?_
        refine ww_lv [1, 2, 3, 4, 0] (lv' := [(0, .ref 0), (1, .ref 17), (2, .int (nI N)), (3, .int (nI i)), (4, .int 0)]) rfl ?_
        refine l_X0_live_28 (by omega) fr lo fa ki mo sty wset wfor law lent firsts waits nc codes ends P C hP hC e hL (nI N) (nI i) s (fun names1 stk1 => ?_) (P + 1) 0 s names stk (by omega) (by omega) rfl hon
        refine ww_run 42 3 (pc' := 87) (lv' := [(0, .ref 0), (1, .ref 17), (2, .int (nI N)), (3, .int (nI i)), (4, .int (nI P))]) (st' := [.int (nI i), .ref 17, .ref 0]) (w' := wEv fr lo fa ki mo (nI P) (nI C) sty wset wfor law lent ((riseTo ki mo fa lo (sayV codes e) (nI i) s P).1) ((riseTo ki mo fa lo (sayV codes e) (nI i) s P).2.1) ((riseTo ki mo fa lo (sayV codes e) (nI i) s P).2.2.1) ((riseTo ki mo fa lo (sayV codes e) (nI i) s P).2.2.2.1) ((riseTo ki mo fa lo (sayV codes e) (nI i) s P).2.2.2.2.1) firsts waits ((riseTo ki mo fa lo (sayV codes e) (nI i) s P).2.2.2.2.2.1) ((riseTo ki mo fa lo (sayV codes e) (nI i) s P).2.2.2.2.2.2.1) names1 ((riseTo ki mo fa lo (sayV codes e) (nI i) s P).2.2.2.2.2.2.2.1) ((riseTo ki mo fa lo (sayV codes e) (nI i) s P).2.2.2.2.2.2.2.2) nc codes ends stk1) (Ps := []) rfl trivial ?_
        refine ww_cV 45 ok_X0_sitDown (c_X0_sitDown fr lo fa ki mo sty wset wfor law lent ((riseTo ki mo fa lo (sayV codes e) (nI i) s P).1) ((riseTo ki mo fa lo (sayV codes e) (nI i) s P).2.1) ((riseTo ki mo fa lo (sayV codes e) (nI i) s P).2.2.1) ((riseTo ki mo fa lo (sayV codes e) (nI i) s P).2.2.2.1) ((riseTo ki mo fa lo (sayV codes e) (nI i) s P).2.2.2.2.1) firsts waits ((riseTo ki mo fa lo (sayV codes e) (nI i) s P).2.2.2.2.2.1) ((riseTo ki mo fa lo (sayV codes e) (nI i) s P).2.2.2.2.2.2.1) names1 ((riseTo ki mo fa lo (sayV codes e) (nI i) s P).2.2.2.2.2.2.2.1) ((riseTo ki mo fa lo (sayV codes e) (nI i) s P).2.2.2.2.2.2.2.2) nc codes ends stk1 P C hP hC (nI i) e hL) lk_X0_82 rfl (by omega) (rest := []) rfl (Nat.le_of_ble_eq_true rfl) rfl rfl rfl rfl (fun r w' hq => ?_)
        obtain ⟨rfl, waits2, firsts2, names2, stk2, hw, hf, rfl⟩ := hq
        obtain ⟨e1, e2, e3, e4⟩ := seatN_any (P := P) (C := C) (ki := ki) (mo := mo) (till := (riseTo ki mo fa lo (sayV codes e) (nI i) s P).2.2.2.2.2.1) (f1 := firsts2) (f2 := fun q => eFirst fa (riseTo ki mo fa lo (sayV codes e) (nI i) s P).2.2.1 (riseTo ki mo fa lo (sayV codes e) (nI i) s P).2.2.2.1 (sayV codes e) q (nI i)) (lent := lent) (sty := sty) (m := nI i) P ((riseTo ki mo fa lo (sayV codes e) (nI i) s P).1, (riseTo ki mo fa lo (sayV codes e) (nI i) s P).2.1, (riseTo ki mo fa lo (sayV codes e) (nI i) s P).2.2.2.2.2.2.1, (riseTo ki mo fa lo (sayV codes e) (nI i) s P).2.2.2.2.2.2.2.1, waits2) ((riseTo ki mo fa lo (sayV codes e) (nI i) s P).1, (riseTo ki mo fa lo (sayV codes e) (nI i) s P).2.1, (riseTo ki mo fa lo (sayV codes e) (nI i) s P).2.2.2.2.2.2.1, (riseTo ki mo fa lo (sayV codes e) (nI i) s P).2.2.2.2.2.2.2.1, fun q => b2i (eWants fr (riseTo ki mo fa lo (sayV codes e) (nI i) s P).1 (riseTo ki mo fa lo (sayV codes e) (nI i) s P).2.2.2.2.1 q (nI i))) rfl rfl rfl rfl (fun q hq => by show ¬ waits2 q = 0 ↔ _; rw [hw q hq]) (fun q hq hz => hf q hq (by have hz : ¬ waits2 q = 0 := hz; rw [hw q hq] at hz; exact b2i_ne0.mp hz))
        rw [e1, e2, e3, e4]
        generalize (seatN P C ki mo (riseTo ki mo fa lo (sayV codes e) (nI i) s P).2.2.2.2.2.1 firsts2 lent sty (nI i) P ((riseTo ki mo fa lo (sayV codes e) (nI i) s P).1, (riseTo ki mo fa lo (sayV codes e) (nI i) s P).2.1, (riseTo ki mo fa lo (sayV codes e) (nI i) s P).2.2.2.2.2.2.1, (riseTo ki mo fa lo (sayV codes e) (nI i) s P).2.2.2.2.2.2.2.1, waits2)).2.2.2.2 = waits3
        refine ww_run 46 2 (pc' := 93) (lv' := [(4, .int 0), (0, .ref 0), (1, .ref 17), (2, .int (nI N)), (3, .int (nI i))]) (st' := []) (w' := wEv fr lo fa ki mo (nI P) (nI C) sty wset wfor law lent ((sitS P C fr ki mo fa (sayV codes e) lent sty (nI i) (riseTo ki mo fa lo (sayV codes e) (nI i) s P)).1) ((sitS P C fr ki mo fa (sayV codes e) lent sty (nI i) (riseTo ki mo fa lo (sayV codes e) (nI i) s P)).2.1) ((sitS P C fr ki mo fa (sayV codes e) lent sty (nI i) (riseTo ki mo fa lo (sayV codes e) (nI i) s P)).2.2.1) ((sitS P C fr ki mo fa (sayV codes e) lent sty (nI i) (riseTo ki mo fa lo (sayV codes e) (nI i) s P)).2.2.2.1) ((sitS P C fr ki mo fa (sayV codes e) lent sty (nI i) (riseTo ki mo fa lo (sayV codes e) (nI i) s P)).2.2.2.2.1) firsts2 waits3 ((sitS P C fr ki mo fa (sayV codes e) lent sty (nI i) (riseTo ki mo fa lo (sayV codes e) (nI i) s P)).2.2.2.2.2.1) ((sitS P C fr ki mo fa (sayV codes e) lent sty (nI i) (riseTo ki mo fa lo (sayV codes e) (nI i) s P)).2.2.2.2.2.2.1) names2 ((sitS P C fr ki mo fa (sayV codes e) lent sty (nI i) (riseTo ki mo fa lo (sayV codes e) (nI i) s P)).2.2.2.2.2.2.2.1) ((sitS P C fr ki mo fa (sayV codes e) lent sty (nI i) (riseTo ki mo fa lo (sayV codes e) (nI i) s P)).2.2.2.2.2.2.2.2) nc codes ends stk2) (Ps := []) rfl trivial ?_
        refine ww_lv [1, 2, 3, 4, 0] (lv' := [(0, .ref 0), (1, .ref 17), (2, .int (nI N)), (3, .int (nI i)), (4, .int 0)]) rfl ?_
        refine l_X0_live_93 (by omega) fr lo fa ki mo sty wset wfor law lent firsts2 waits3 names2 nc codes ends stk2 P C hP hC e hL (nI N) (nI i) (sitS P C fr ki mo fa (sayV codes e) lent sty (nI i) (riseTo ki mo fa lo (sayV codes e) (nI i) s P)) ?_ (P + 1) 0 _ (by omega) (by omega) rfl
        refine ww_run 82 2 (pc' := 6) (lv' := [(3, .int ((nI i) + 1)), (0, .ref 0), (1, .ref 17), (2, .int (nI N)), (4, .int (nI P))]) (st' := []) (w' := wEv fr lo fa ki mo (nI P) (nI C) sty wset wfor law lent ((minuteS P C fr lo fa ki mo (sayV codes e) lent sty (nI i) s).1) ((minuteS P C fr lo fa ki mo (sayV codes e) lent sty (nI i) s).2.1) ((minuteS P C fr lo fa ki mo (sayV codes e) lent sty (nI i) s).2.2.1) ((minuteS P C fr lo fa ki mo (sayV codes e) lent sty (nI i) s).2.2.2.1) ((minuteS P C fr lo fa ki mo (sayV codes e) lent sty (nI i) s).2.2.2.2.1) firsts2 waits3 ((minuteS P C fr lo fa ki mo (sayV codes e) lent sty (nI i) s).2.2.2.2.2.1) ((minuteS P C fr lo fa ki mo (sayV codes e) lent sty (nI i) s).2.2.2.2.2.2.1) names2 ((minuteS P C fr lo fa ki mo (sayV codes e) lent sty (nI i) s).2.2.2.2.2.2.2.1) ((minuteS P C fr lo fa ki mo (sayV codes e) lent sty (nI i) s).2.2.2.2.2.2.2.2) nc codes ends stk2) (Ps := []) rfl trivial ?_
        rw [nI_1 i]
        refine ww_lv [1, 2, 3, 0] (lv' := [(0, .ref 0), (1, .ref 17), (2, .int (nI N)), (3, .int (nI (i + 1)))]) rfl ?_
        refine ih (i + 1) (minuteS P C fr lo fa ki mo (sayV codes e) lent sty (nI i) s) _ _ _ _ (by omega) (by omega) (minuteS_on hC hon) ?_
        rw [show N - i = (N - (i + 1)) + 1 by omega] at hQ
        simp only [liveS] at hQ
        rw [if_neg c2] at hQ
        exact hQ
set_option maxHeartbeats 4000000 in
set_option maxRecDepth 100000 in
theorem c_X0_live (fr lo fa ki mo : Nat → Int32) (sty wset wfor law lent : Int32) (on was sat stood rose firsts waits till sitter names : Nat → Int32) (satOn risen : Int32) (nc : Nat) (codes ends stk : Nat → Int32) (P C : Nat) (hP : P ≤ 5) (hC : C ≤ 6) (e : Nat → Nat) (hL : LW nc ends e) (N : Nat) (hN : N ≤ 30) : Co M_X0_live 5 0 0 [.ref 0, .ref 17, .int (nI N)] (wEv fr lo fa ki mo (nI P) (nI C) sty wset wfor law lent on was sat stood rose firsts waits till sitter names satOn risen nc codes ends stk) (fun r w' => r = none ∧ ∃ (firsts' waits' names' stk' : Nat → Int32), w' = wEv fr lo fa ki mo (nI P) (nI C) sty wset wfor law lent ((liveS P C fr lo fa ki mo (sayV codes e) lent sty N 0 (startS wset wfor)).1) ((liveS P C fr lo fa ki mo (sayV codes e) lent sty N 0 (startS wset wfor)).2.1) ((liveS P C fr lo fa ki mo (sayV codes e) lent sty N 0 (startS wset wfor)).2.2.1) ((liveS P C fr lo fa ki mo (sayV codes e) lent sty N 0 (startS wset wfor)).2.2.2.1) ((liveS P C fr lo fa ki mo (sayV codes e) lent sty N 0 (startS wset wfor)).2.2.2.2.1) firsts' waits' ((liveS P C fr lo fa ki mo (sayV codes e) lent sty N 0 (startS wset wfor)).2.2.2.2.2.1) ((liveS P C fr lo fa ki mo (sayV codes e) lent sty N 0 (startS wset wfor)).2.2.2.2.2.2.1) names' ((liveS P C fr lo fa ki mo (sayV codes e) lent sty N 0 (startS wset wfor)).2.2.2.2.2.2.2.1) ((liveS P C fr lo fa ki mo (sayV codes e) lent sty N 0 (startS wset wfor)).2.2.2.2.2.2.2.2) nc codes ends stk') := by
  refine Co.of ok_X0_live rfl ?_
  refine ww_run 0 1 (pc' := 1) (lv' := [(0, .ref 0), (1, .ref 17), (2, .int (nI N))]) (st' := [.ref 0]) (w' := wEv fr lo fa ki mo (nI P) (nI C) sty wset wfor law lent on was sat stood rose firsts waits till sitter names satOn risen nc codes ends stk) (Ps := []) rfl trivial ?_
  refine ww_cVv 1 ok_X0_start (c_X0_start fr lo fa ki mo (nI P) (nI C) sty wset wfor law lent on was sat stood rose firsts waits till sitter names satOn risen nc codes ends stk) lk_X0_69 rfl (by omega) (rest := []) rfl (Nat.le_of_ble_eq_true rfl) rfl rfl rfl rfl ?_
  refine ww_run 2 2 (pc' := 6) (lv' := [(3, .int 0), (0, .ref 0), (1, .ref 17), (2, .int (nI N))]) (st' := []) (w' := wEv fr lo fa ki mo (nI P) (nI C) sty wset wfor law lent (fun _ => (-1)) (fun _ => (-1)) (fun _ => 0) (fun _ => 0) (fun _ => (-1)) firsts waits (tillS wset wfor) (fun _ => (-1)) names 0 0 nc codes ends stk) (Ps := []) rfl trivial ?_
  refine ww_lv [1, 2, 3, 0] (lv' := [(0, .ref 0), (1, .ref 17), (2, .int (nI N)), (3, .int 0)]) rfl ?_
  refine l_X0_live_6 (by omega) fr lo fa ki mo sty wset wfor law lent nc codes ends P C hP hC e hL N hN (N + 1) 0 (startS wset wfor) firsts waits names stk (by omega) (by omega) (startS_on wset wfor) (fun f1 f2 f3 f4 => ?_)
  exact ⟨rfl, f1, f2, f3, f4, rfl⟩
