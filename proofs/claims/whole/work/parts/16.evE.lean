/-- who sits where: on, was, sitter, satOn, waits -/
abbrev SS : Type := (Nat → Int32) × (Nat → Int32) × (Nat → Int32) × Int32 × (Nat → Int32)
def seat1 (P C : Nat) (ki mo till firsts : Nat → Int32) (lent sty m : Int32) (s : SS) : Option (Nat × Nat) :=
  match bestOf (fun p => decide (¬ s.2.2.2.2 p = 0)) (fun p b => decide (firsts p < firsts b)) P, bestOf (fun c => decide (eFree ki mo till s.2.2.1 lent s.2.2.2.1 c m)) (fun c b => decide (eAhead sty till c b)) C with
  | some p, some c => some (p, c)
  | _, _ => none
def seatAt (s : SS) (p c : Nat) : SS := (upd s.1 p (nI c), upd s.2.1 p (nI c), upd s.2.2.1 c (nI p), s.2.2.2.1 ||| ((1 : Int32) <<< ((nI c) &&& 31)), upd s.2.2.2.2 p 0)
def seatN (P C : Nat) (ki mo till firsts : Nat → Int32) (lent sty m : Int32) : Nat → SS → SS
  | 0, s => s
  | n + 1, s => match seat1 P C ki mo till firsts lent sty m s with
    | none => s
    | some (p, c) => seatN P C ki mo till firsts lent sty m n (seatAt s p c)
theorem ext_upd {f g : Nat → Int32} {i : Nat} {v : Int32} (h : ∀ q, q < i → f q = g q) (hv : v = g i) : ∀ q, q < i + 1 → upd f i v q = g q := by
  intro q hq
  simp only [upd]
  split
  · next e => rw [e]; exact hv
  · exact h q (by omega)
theorem ext_upd2 {A : Nat → Prop} {f g : Nat → Int32} {i : Nat} {v : Int32} (h : ∀ q, q < i → A q → f q = g q) (hv : v = g i) : ∀ q, q < i + 1 → A q → upd f i v q = g q := by
  intro q hq ha
  simp only [upd]
  split
  · next e => rw [e]; exact hv
  · exact h q (by omega) ha
theorem ext_no {A : Nat → Prop} {f g : Nat → Int32} {i : Nat} (h : ∀ q, q < i → A q → f q = g q) (hv : ¬ A i) : ∀ q, q < i + 1 → A q → f q = g q := by
  intro q hq ha
  by_cases e : q = i
  · rw [e] at ha; exact absurd ha hv
  · exact h q (by omega) ha
set_option maxHeartbeats 4000000 in
set_option maxRecDepth 100000 in
theorem l_X0_sitDown_68 {Q : Option Value → List va_E → Prop} {d : Nat} (hd : 4 ≤ d) (fr lo fa ki mo : Nat → Int32) (sty wset wfor law lent : Int32) (sat stood rose firsts till names : Nat → Int32) (risen : Int32) (nc : Nat) (codes ends stk : Nat → Int32) (P C : Nat) (hP : P ≤ 5) (hC : C ≤ 6) (m : Int32) :
    ∀ (n i : Nat) (s : SS), i ≤ P → P + 1 ≤ i + n → Q none (wEv fr lo fa ki mo (nI P) (nI C) sty wset wfor law lent ((seatN P C ki mo till firsts lent sty m (P - i) s).1) ((seatN P C ki mo till firsts lent sty m (P - i) s).2.1) sat stood rose firsts ((seatN P C ki mo till firsts lent sty m (P - i) s).2.2.2.2) till ((seatN P C ki mo till firsts lent sty m (P - i) s).2.2.1) names ((seatN P C ki mo till firsts lent sty m (P - i) s).2.2.2.1) risen nc codes ends stk) → WW M_X0_sitDown d Q xz 68 [(0, .ref 0), (1, .ref 17), (2, .int m), (3, .int (nI i))] [] (wEv fr lo fa ki mo (nI P) (nI C) sty wset wfor law lent s.1 s.2.1 sat stood rose firsts s.2.2.2.2 till s.2.2.1 names s.2.2.2.1 risen nc codes ends stk) := by
  intro n
  induction n with
  | zero => intro i; intros; omega
  | succ n ih =>
    intro i s hi hn hQ
    refine ww_run 40 4 (pc' := 76) (lv' := [(0, .ref 0), (1, .ref 17), (2, .int m), (3, .int (nI i))]) (st' := [.int (nI P), .int (nI i)]) (w' := wEv fr lo fa ki mo (nI P) (nI C) sty wset wfor law lent s.1 s.2.1 sat stood rose firsts s.2.2.2.2 till s.2.2.1 names s.2.2.2.1 risen nc codes ends stk) (Ps := []) rfl trivial ?_
    refine ww_icmp_ge 44 rfl (tgt := 157) rfl (fun c1 => ?_) (fun c1 => ?_)
    · have c1 : P ≤ i := (nI_leI (a := P) (b := i) (by omega) (by omega)).mp c1
      refine ww_vret 87 rfl rfl ?_
      obtain rfl : i = P := by omega
      rw [Nat.sub_self] at hQ
      exact hQ
    · have c1 : ¬ P ≤ i := fun q => c1 ((nI_leI (a := P) (b := i) (by omega) (by omega)).mpr q)
      refine ww_run 45 1 (pc' := 80) (lv' := [(0, .ref 0), (1, .ref 17), (2, .int m), (3, .int (nI i))]) (st' := [.ref 0]) (w' := wEv fr lo fa ki mo (nI P) (nI C) sty wset wfor law lent s.1 s.2.1 sat stood rose firsts s.2.2.2.2 till s.2.2.1 names s.2.2.2.1 risen nc codes ends stk) (Ps := []) rfl trivial ?_
      refine ww_cVi 46 ok_X0_nextOne (c_X0_nextOne fr lo fa ki mo (nI C) sty wset wfor law lent s.1 s.2.1 sat stood rose firsts s.2.2.2.2 till s.2.2.1 names s.2.2.2.1 risen nc codes ends stk P hP) lk_X0_118 rfl (by omega) (rest := []) rfl (Nat.le_of_ble_eq_true rfl) rfl rfl rfl rfl ?_
      refine ww_run 47 3 (pc' := 87) (lv' := [(4, .int (o2i (bestOf (fun p => decide (¬ s.2.2.2.2 p = 0)) (fun p b => decide (firsts p < firsts b)) P))), (0, .ref 0), (1, .ref 17), (2, .int m), (3, .int (nI i))]) (st' := [.int m, .ref 0]) (w' := wEv fr lo fa ki mo (nI P) (nI C) sty wset wfor law lent s.1 s.2.1 sat stood rose firsts s.2.2.2.2 till s.2.2.1 names s.2.2.2.1 risen nc codes ends stk) (Ps := []) rfl trivial ?_
      refine ww_cVi 50 ok_X0_nextChair (c_X0_nextChair fr lo fa ki mo (nI P) sty wset wfor law lent s.1 s.2.1 sat stood rose firsts s.2.2.2.2 till s.2.2.1 names s.2.2.2.1 risen nc codes ends stk m C hC) lk_X0_122 rfl (by omega) (rest := []) rfl (Nat.le_of_ble_eq_true rfl) rfl rfl rfl rfl ?_
      refine ww_run 51 1 (pc' := 92) (lv' := [(5, .int (o2i (bestOf (fun c => decide (eFree ki mo till s.2.2.1 lent s.2.2.2.1 c m)) (fun c b => decide (eAhead sty till c b)) C))), (4, .int (o2i (bestOf (fun p => decide (¬ s.2.2.2.2 p = 0)) (fun p b => decide (firsts p < firsts b)) P))), (0, .ref 0), (1, .ref 17), (2, .int m), (3, .int (nI i))]) (st' := []) (w' := wEv fr lo fa ki mo (nI P) (nI C) sty wset wfor law lent s.1 s.2.1 sat stood rose firsts s.2.2.2.2 till s.2.2.1 names s.2.2.2.1 risen nc codes ends stk) (Ps := []) rfl trivial ?_
      rcases hb1 : bestOf (fun p => decide (¬ s.2.2.2.2 p = 0)) (fun p b => decide (firsts p < firsts b)) P with _ | p
      · have hs1 : seat1 P C ki mo till firsts lent sty m s = none := by simp only [seat1]; rw [hb1]
        refine ww_run 52 1 (pc' := 94) (lv' := [(5, .int (o2i (bestOf (fun c => decide (eFree ki mo till s.2.2.1 lent s.2.2.2.1 c m)) (fun c b => decide (eAhead sty till c b)) C))), (4, .int (-1)), (0, .ref 0), (1, .ref 17), (2, .int m), (3, .int (nI i))]) (st' := [.int (-1)]) (w' := wEv fr lo fa ki mo (nI P) (nI C) sty wset wfor law lent s.1 s.2.1 sat stood rose firsts s.2.2.2.2 till s.2.2.1 names s.2.2.2.1 risen nc codes ends stk) (Ps := []) rfl trivial ?_
        refine ww_if_lt 53 rfl (tgt := 102) rfl (fun c4 => ?_) (fun c4 => ?_)
        · refine ww_vret 56 rfl rfl ?_
          rw [show P - i = (P - i - 1) + 1 by omega] at hQ
          simp only [seatN, hs1] at hQ
          exact hQ
        · exact absurd c4 (by decide)
      · have hpl := bestOf_lt hb1
        rcases hb2 : bestOf (fun c => decide (eFree ki mo till s.2.2.1 lent s.2.2.2.1 c m)) (fun c b => decide (eAhead sty till c b)) C with _ | c
        · have hs1 : seat1 P C ki mo till firsts lent sty m s = none := by simp only [seat1]; rw [hb1, hb2]
          refine ww_run 52 1 (pc' := 94) (lv' := [(5, .int (-1)), (4, .int (nI p)), (0, .ref 0), (1, .ref 17), (2, .int m), (3, .int (nI i))]) (st' := [.int (nI p)]) (w' := wEv fr lo fa ki mo (nI P) (nI C) sty wset wfor law lent s.1 s.2.1 sat stood rose firsts s.2.2.2.2 till s.2.2.1 names s.2.2.2.1 risen nc codes ends stk) (Ps := []) rfl trivial ?_
          refine ww_if_lt 53 rfl (tgt := 102) rfl (fun c2 => ?_) (fun c2 => ?_)
          · exact absurd c2 (nI_pos (by omega))
          · have c2 : ¬ p < 0 := fun q => c2 ((nI_ltI (a := p) (b := 0) (by omega) (by omega)).mpr q)
            refine ww_run 54 1 (pc' := 99) (lv' := [(5, .int (-1)), (4, .int (nI p)), (0, .ref 0), (1, .ref 17), (2, .int m), (3, .int (nI i))]) (st' := [.int (-1)]) (w' := wEv fr lo fa ki mo (nI P) (nI C) sty wset wfor law lent s.1 s.2.1 sat stood rose firsts s.2.2.2.2 till s.2.2.1 names s.2.2.2.1 risen nc codes ends stk) (Ps := []) rfl trivial ?_
            refine ww_if_ge 55 rfl (tgt := 103) rfl (fun c3 => ?_) (fun c3 => ?_)
            · exact absurd c3 (by decide)
            · refine ww_vret 56 rfl rfl ?_
              rw [show P - i = (P - i - 1) + 1 by omega] at hQ
              simp only [seatN, hs1] at hQ
              exact hQ
        have hs1 : seat1 P C ki mo till firsts lent sty m s = some (p, c) := by simp only [seat1]; rw [hb1, hb2]
        have hcl := bestOf_lt hb2
        refine ww_run 52 1 (pc' := 94) (lv' := [(5, .int (nI c)), (4, .int (nI p)), (0, .ref 0), (1, .ref 17), (2, .int m), (3, .int (nI i))]) (st' := [.int (nI p)]) (w' := wEv fr lo fa ki mo (nI P) (nI C) sty wset wfor law lent s.1 s.2.1 sat stood rose firsts s.2.2.2.2 till s.2.2.1 names s.2.2.2.1 risen nc codes ends stk) (Ps := []) rfl trivial ?_
        refine ww_if_lt 53 rfl (tgt := 102) rfl (fun c5 => ?_) (fun c5 => ?_)
        · exact absurd c5 (nI_pos (by omega))
        · have c5 : ¬ p < 0 := fun q => c5 ((nI_ltI (a := p) (b := 0) (by omega) (by omega)).mpr q)
          refine ww_run 54 1 (pc' := 99) (lv' := [(5, .int (nI c)), (4, .int (nI p)), (0, .ref 0), (1, .ref 17), (2, .int m), (3, .int (nI i))]) (st' := [.int (nI c)]) (w' := wEv fr lo fa ki mo (nI P) (nI C) sty wset wfor law lent s.1 s.2.1 sat stood rose firsts s.2.2.2.2 till s.2.2.1 names s.2.2.2.1 risen nc codes ends stk) (Ps := []) rfl trivial ?_
          refine ww_if_ge 55 rfl (tgt := 103) rfl (fun c6 => ?_) (fun c6 => ?_)
          · have c6 : 0 ≤ c := (nI_leI (a := 0) (b := c) (by omega) (by omega)).mp c6
            refine ww_run 57 30 (pc' := 68) (lv' := [(3, .int ((nI i) + 1)), (5, .int (nI c)), (4, .int (nI p)), (0, .ref 0), (1, .ref 17), (2, .int m)]) (st' := []) (w' := wEv fr lo fa ki mo (nI P) (nI C) sty wset wfor law lent (upd s.1 ((nI p).toNatClampNeg) (nI c)) (upd s.2.1 ((nI p).toNatClampNeg) (nI c)) sat stood rose firsts (upd s.2.2.2.2 ((nI p).toNatClampNeg) 0) till (upd s.2.2.1 ((nI c).toNatClampNeg) (nI p)) names (s.2.2.2.1 ||| (1 <<< ((nI c) &&& 31))) risen nc codes ends stk) (Ps := [vp_in (nI p) 5, vp_in (nI p) 5, vp_in (nI p) 5, vp_in (nI c) 6]) rfl ⟨(vp_in_nI (by omega) (by omega)), (vp_in_nI (by omega) (by omega)), (vp_in_nI (by omega) (by omega)), (vp_in_nI (by omega) (by omega)), trivial⟩ ?_
            rw [nI_clamp (n := p) (by omega)]
            rw [nI_clamp (n := c) (by omega)]
            rw [nI_1 i]
            refine ww_lv [3, 4, 5, 0] (lv' := [(0, .ref 0), (1, .ref 17), (2, .int m), (3, .int (nI (i + 1)))]) rfl ?_
            refine ih (i + 1) (seatAt s p c) (by omega) (by omega) ?_
            rw [show P - i = (P - (i + 1)) + 1 by omega] at hQ
            simp only [seatN, hs1] at hQ
            exact hQ
          · exact absurd (nI_pos' (by omega)) c6
set_option maxHeartbeats 4000000 in
set_option maxRecDepth 100000 in
theorem l_X0_sitDown_2 {Q : Option Value → List va_E → Prop} {d : Nat} (hd : 4 ≤ d) (fr lo fa ki mo : Nat → Int32) (sty wset wfor law lent : Int32) (on was sat stood rose till sitter : Nat → Int32) (satOn risen : Int32) (nc : Nat) (codes ends : Nat → Int32) (P C : Nat) (hP : P ≤ 5) (m : Int32) (e : Nat → Nat) (hL : LW nc ends e) (K : ∀ (waits firsts names stk : Nat → Int32), (∀ q, q < P → waits q = b2i (eWants fr on rose q m)) → (∀ q, q < P → eWants fr on rose q m → firsts q = eFirst fa sat stood (sayV codes e) q m) → WW M_X0_sitDown d Q xz 66 [(0, .ref 0), (1, .ref 17), (2, .int m), (3, .int (nI P))] [] (wEv fr lo fa ki mo (nI P) (nI C) sty wset wfor law lent on was sat stood rose firsts waits till sitter names satOn risen nc codes ends stk)) :
    ∀ (n i : Nat) (waits firsts names stk : Nat → Int32), i ≤ P → P + 1 ≤ i + n → (∀ q, q < i → waits q = b2i (eWants fr on rose q m)) → (∀ q, q < i → eWants fr on rose q m → firsts q = eFirst fa sat stood (sayV codes e) q m) → WW M_X0_sitDown d Q xz 2 [(0, .ref 0), (1, .ref 17), (2, .int m), (3, .int (nI i))] [] (wEv fr lo fa ki mo (nI P) (nI C) sty wset wfor law lent on was sat stood rose firsts waits till sitter names satOn risen nc codes ends stk) := by
  intro n
  induction n with
  | zero => intro i; intros; omega
  | succ n ih =>
    intro i waits firsts names stk hi hn hw hf
    refine ww_run 2 4 (pc' := 10) (lv' := [(0, .ref 0), (1, .ref 17), (2, .int m), (3, .int (nI i))]) (st' := [.int (nI P), .int (nI i)]) (w' := wEv fr lo fa ki mo (nI P) (nI C) sty wset wfor law lent on was sat stood rose firsts waits till sitter names satOn risen nc codes ends stk) (Ps := []) rfl trivial ?_
    refine ww_icmp_ge 6 rfl (tgt := 66) rfl (fun c1 => ?_) (fun c1 => ?_)
    · have c1 : P ≤ i := (nI_leI (a := P) (b := i) (by omega) (by omega)).mp c1
      obtain rfl : i = P := by omega
      exact K _ _ _ _ hw hf
    · have c1 : ¬ P ≤ i := fun q => c1 ((nI_leI (a := P) (b := i) (by omega) (by omega)).mpr q)
      refine ww_run 7 6 (pc' := 21) (lv' := [(0, .ref 0), (1, .ref 17), (2, .int m), (3, .int (nI i))]) (st' := [.int m, .int (nI i), .ref 0, .int (nI i), .ref 13]) (w' := wEv fr lo fa ki mo (nI P) (nI C) sty wset wfor law lent on was sat stood rose firsts waits till sitter names satOn risen nc codes ends stk) (Ps := []) rfl trivial ?_
      refine ww_cVi 13 ok_X0_wants (c_X0_wants fr lo fa ki mo (nI P) (nI C) sty wset wfor law lent on was sat stood rose firsts waits till sitter names satOn risen nc codes ends stk i m (by omega)) lk_X0_86 rfl (by omega) (rest := [.int (nI i), .ref 13]) rfl (Nat.le_of_ble_eq_true rfl) rfl rfl rfl rfl ?_
      refine ww_run 14 5 (pc' := 31) (lv' := [(0, .ref 0), (1, .ref 17), (2, .int m), (3, .int (nI i))]) (st' := [.int ((upd waits ((nI i).toNatClampNeg) (vp_nar .boolean (b2i (eWants fr on rose i m)))) (nI i).toNatClampNeg)]) (w' := wEv fr lo fa ki mo (nI P) (nI C) sty wset wfor law lent on was sat stood rose firsts (upd waits ((nI i).toNatClampNeg) (vp_nar .boolean (b2i (eWants fr on rose i m)))) till sitter names satOn risen nc codes ends stk) (Ps := [vp_in (nI i) 5, vp_in (nI i) 5]) rfl ⟨(vp_in_nI (by omega) (by omega)), (vp_in_nI (by omega) (by omega)), trivial⟩ ?_
      rw [nI_clamp (n := i) (by omega)]
      rw [nar_b2i]
      rw [pk_us]
      refine ww_if_ne 19 rfl (tgt := 37) rfl (fun c2 => ?_) (fun c2 => ?_)
      · rw [b2i_ne0] at c2
        refine ww_run 21 5 (pc' := 42) (lv' := [(0, .ref 0), (1, .ref 17), (2, .int m), (3, .int (nI i))]) (st' := [.int (nI i), .int m, .int 0, .int (nI i), .ref 0]) (w' := wEv fr lo fa ki mo (nI P) (nI C) sty wset wfor law lent on was sat stood rose firsts (upd waits (i) (b2i (eWants fr on rose i m))) till sitter names satOn risen nc codes ends stk) (Ps := []) rfl trivial ?_
        refine ww_cVv 26 ok_X0_nameFor (c_X0_nameFor fr lo fa ki mo (nI P) (nI C) sty wset wfor law lent on was sat stood rose firsts (upd waits (i) (b2i (eWants fr on rose i m))) till sitter names satOn risen nc codes ends stk i 0 m (nI i) (by omega)) lk_X0_93 rfl (by omega) (rest := []) rfl (Nat.le_of_ble_eq_true rfl) rfl rfl rfl rfl ?_
        refine ww_run 27 7 (pc' := 56) (lv' := [(0, .ref 0), (1, .ref 17), (2, .int m), (3, .int (nI i))]) (st' := [.ref 16, .int 1, .ref 17, .int (nI i), .ref 12]) (w' := wEv fr lo fa ki mo (nI P) (nI C) sty wset wfor law lent on was sat stood rose firsts (upd waits (i) (b2i (eWants fr on rose i m))) till sitter (upd (upd (upd (upd (upd (upd names 0 (fa i)) 1 0) 2 (sat i)) 3 (stood i)) 4 m) 5 (nI i)) satOn risen nc codes ends stk) (Ps := []) rfl trivial ?_
        refine ww_cVi 34 (b := 17) (av := [.int 1, .ref 16]) (w1 := wEv fr lo fa ki mo (nI P) (nI C) sty wset wfor law lent on was sat stood rose firsts (upd waits (i) (b2i (eWants fr on rose i m))) till sitter (upd (upd (upd (upd (upd (upd names 0 (fa i)) 1 0) 2 (sat i)) 3 (stood i)) 4 m) 5 (nI i)) satOn risen nc codes ends ((sayC codes e 1 stk (upd (upd (upd (upd (upd (upd names 0 (fa i)) 1 0) 2 (sat i)) 3 (stood i)) 4 m) 5 (nI i))).1)) ok_X3_says (Co.fri [17, 18, 19, 20, 16] (c_X3_says nc codes ends stk (upd (upd (upd (upd (upd (upd names 0 (fa i)) 1 0) 2 (sat i)) 3 (stood i)) 4 m) 5 (nI i)) 1 e (by omega) hL.1 hL.2.1 hL.2.2.1 hL.2.2.2.1 hL.2.2.2.2) rfl rfl rfl) lk_X0_100 rfl (by omega) (rest := [.int (nI i), .ref 12]) rfl (Nat.le_of_ble_eq_true rfl) rfl rfl rfl rfl ?_
        rw [sayV_eq (ng := nm6 (fa i) 0 (sat i) (stood i) m (nI i)) nm6_eq]
        rw [show sayV codes e 1 (nm6 (fa i) 0 (sat i) (stood i) m (nI i)) = eFirst fa sat stood (sayV codes e) i m from rfl]
        refine ww_run 35 3 (pc' := 2) (lv' := [(3, .int ((nI i) + 1)), (0, .ref 0), (1, .ref 17), (2, .int m)]) (st' := []) (w' := wEv fr lo fa ki mo (nI P) (nI C) sty wset wfor law lent on was sat stood rose (upd firsts ((nI i).toNatClampNeg) (eFirst fa sat stood (sayV codes e) i m)) (upd waits (i) (b2i (eWants fr on rose i m))) till sitter (upd (upd (upd (upd (upd (upd names 0 (fa i)) 1 0) 2 (sat i)) 3 (stood i)) 4 m) 5 (nI i)) satOn risen nc codes ends ((sayC codes e 1 stk (upd (upd (upd (upd (upd (upd names 0 (fa i)) 1 0) 2 (sat i)) 3 (stood i)) 4 m) 5 (nI i))).1)) (Ps := [vp_in (nI i) 5]) rfl ⟨(vp_in_nI (by omega) (by omega)), trivial⟩ ?_
        rw [nI_clamp (n := i) (by omega)]
        rw [nI_1 i]
        refine ww_lv [1, 2, 3, 0] (lv' := [(0, .ref 0), (1, .ref 17), (2, .int m), (3, .int (nI (i + 1)))]) rfl ?_
        exact ih (i + 1) _ _ _ _ (by omega) (by omega) (ext_upd hw rfl) (ext_upd2 hf rfl)
      · rw [b2i_eq0] at c2
        refine ww_run 20 1 (pc' := 60) (lv' := [(0, .ref 0), (1, .ref 17), (2, .int m), (3, .int (nI i))]) (st' := []) (w' := wEv fr lo fa ki mo (nI P) (nI C) sty wset wfor law lent on was sat stood rose firsts (upd waits (i) (b2i (eWants fr on rose i m))) till sitter names satOn risen nc codes ends stk) (Ps := []) rfl trivial ?_
        refine ww_run 36 2 (pc' := 2) (lv' := [(3, .int ((nI i) + 1)), (0, .ref 0), (1, .ref 17), (2, .int m)]) (st' := []) (w' := wEv fr lo fa ki mo (nI P) (nI C) sty wset wfor law lent on was sat stood rose firsts (upd waits (i) (b2i (eWants fr on rose i m))) till sitter names satOn risen nc codes ends stk) (Ps := []) rfl trivial ?_
        rw [nI_1 i]
        refine ww_lv [1, 2, 3, 0] (lv' := [(0, .ref 0), (1, .ref 17), (2, .int m), (3, .int (nI (i + 1)))]) rfl ?_
        exact ih (i + 1) _ _ _ _ (by omega) (by omega) (ext_upd hw rfl) (ext_no hf c2)
set_option maxHeartbeats 4000000 in
set_option maxRecDepth 100000 in
theorem c_X0_sitDown (fr lo fa ki mo : Nat → Int32) (sty wset wfor law lent : Int32) (on was sat stood rose firsts waits till sitter names : Nat → Int32) (satOn risen : Int32) (nc : Nat) (codes ends stk : Nat → Int32) (P C : Nat) (hP : P ≤ 5) (hC : C ≤ 6) (m : Int32) (e : Nat → Nat) (hL : LW nc ends e) : Co M_X0_sitDown 4 0 0 [.ref 0, .ref 17, .int m] (wEv fr lo fa ki mo (nI P) (nI C) sty wset wfor law lent on was sat stood rose firsts waits till sitter names satOn risen nc codes ends stk) (fun r w' => r = none ∧ ∃ (waits0 firsts0 names' stk' : Nat → Int32), (∀ q, q < P → waits0 q = b2i (eWants fr on rose q m)) ∧ (∀ q, q < P → eWants fr on rose q m → firsts0 q = eFirst fa sat stood (sayV codes e) q m) ∧ w' = wEv fr lo fa ki mo (nI P) (nI C) sty wset wfor law lent ((seatN P C ki mo till firsts0 lent sty m P (on, was, sitter, satOn, waits0)).1) ((seatN P C ki mo till firsts0 lent sty m P (on, was, sitter, satOn, waits0)).2.1) sat stood rose firsts0 ((seatN P C ki mo till firsts0 lent sty m P (on, was, sitter, satOn, waits0)).2.2.2.2) till ((seatN P C ki mo till firsts0 lent sty m P (on, was, sitter, satOn, waits0)).2.2.1) names' ((seatN P C ki mo till firsts0 lent sty m P (on, was, sitter, satOn, waits0)).2.2.2.1) risen nc codes ends stk') := by
  refine Co.of ok_X0_sitDown rfl ?_
  refine ww_run 0 2 (pc' := 2) (lv' := [(3, .int 0), (0, .ref 0), (1, .ref 17), (2, .int m)]) (st' := []) (w' := wEv fr lo fa ki mo (nI P) (nI C) sty wset wfor law lent on was sat stood rose firsts waits till sitter names satOn risen nc codes ends stk) (Ps := []) rfl trivial ?_
  refine ww_lv [1, 2, 3, 0] (lv' := [(0, .ref 0), (1, .ref 17), (2, .int m), (3, .int 0)]) rfl ?_
  refine l_X0_sitDown_2 (by omega) fr lo fa ki mo sty wset wfor law lent on was sat stood rose till sitter satOn risen nc codes ends P C hP m e hL (fun waits1 firsts1 names1 stk1 hw hf => ?_) (P + 1) 0 waits firsts names stk (by omega) (by omega) (fun q hq => absurd hq (by omega)) (fun q hq => absurd hq (by omega))
  refine ww_run 38 2 (pc' := 68) (lv' := [(3, .int 0), (0, .ref 0), (1, .ref 17), (2, .int m)]) (st' := []) (w' := wEv fr lo fa ki mo (nI P) (nI C) sty wset wfor law lent on was sat stood rose firsts1 waits1 till sitter names1 satOn risen nc codes ends stk1) (Ps := []) rfl trivial ?_
  refine ww_lv [1, 2, 3, 0] (lv' := [(0, .ref 0), (1, .ref 17), (2, .int m), (3, .int 0)]) rfl ?_
  refine l_X0_sitDown_68 (by omega) fr lo fa ki mo sty wset wfor law lent sat stood rose firsts1 till names1 risen nc codes ends stk1 P C hP hC m (P + 1) 0 (on, was, sitter, satOn, waits1) (by omega) (by omega) ?_
  exact ⟨rfl, waits1, firsts1, names1, stk1, hw, hf, rfl⟩
