theorem bestOf_nn {may : Nat → Bool} {ahead : Nat → Nat → Bool} {n : Nat} (h : bestOf may ahead n = none) (h1 : may n = false) : bestOf may ahead (n + 1) = none := by simp [bestOf, h, h1]
theorem bestOf_nt {may : Nat → Bool} {ahead : Nat → Nat → Bool} {n : Nat} (h : bestOf may ahead n = none) (h1 : may n = true) : bestOf may ahead (n + 1) = some n := by simp [bestOf, h, h1]
theorem bestOf_sf {may : Nat → Bool} {ahead : Nat → Nat → Bool} {n b : Nat} (h : bestOf may ahead n = some b) (h1 : may n = false) : bestOf may ahead (n + 1) = some b := by simp [bestOf, h, h1]
theorem bestOf_sa {may : Nat → Bool} {ahead : Nat → Nat → Bool} {n b : Nat} (h : bestOf may ahead n = some b) (h1 : ahead n b = false) : bestOf may ahead (n + 1) = some b := by simp [bestOf, h, h1]
theorem bestOf_st {may : Nat → Bool} {ahead : Nat → Nat → Bool} {n b : Nat} (h : bestOf may ahead n = some b) (h1 : may n = true) (h2 : ahead n b = true) : bestOf may ahead (n + 1) = some n := by simp [bestOf, h, h1, h2]
/-- bits of the first n -/
def setOf (on : Nat → Bool) : Nat → Int32
  | 0 => 0
  | n + 1 => if on n then setOf on n ||| ((1 : Int32) <<< ((nI n) &&& 31)) else setOf on n
/-- the sum of the first n -/
def sumTo (f : Nat → Int32) : Nat → Int32
  | 0 => 0
  | n + 1 => sumTo f n + f n
set_option maxHeartbeats 4000000 in
set_option maxRecDepth 100000 in
theorem l_X0_nextChair_4 {Q : Option Value → List va_E → Prop} {d : Nat} (hd : 2 ≤ d) (fr lo fa ki mo : Nat → Int32) (pe sty wset wfor law lent : Int32) (on was sat stood rose firsts waits till sitter names : Nat → Int32) (satOn risen : Int32) (nc : Nat) (codes ends stk : Nat → Int32) (m : Int32) (C : Nat) (hC : C ≤ 6) (K : WW M_X0_nextChair d Q xz 45 [(0, .ref 0), (1, .int m), (2, .int (o2i (bestOf (fun c => decide (eFree ki mo till sitter lent satOn c m)) (fun c b => decide (eAhead sty till c b)) C))), (3, .int (nI C))] [] (wEv fr lo fa ki mo pe (nI C) sty wset wfor law lent on was sat stood rose firsts waits till sitter names satOn risen nc codes ends stk)) :
    ∀ (n i : Nat) , i ≤ C → C + 1 ≤ i + n → WW M_X0_nextChair d Q xz 4 [(0, .ref 0), (1, .int m), (2, .int (o2i (bestOf (fun c => decide (eFree ki mo till sitter lent satOn c m)) (fun c b => decide (eAhead sty till c b)) i))), (3, .int (nI i))] [] (wEv fr lo fa ki mo pe (nI C) sty wset wfor law lent on was sat stood rose firsts waits till sitter names satOn risen nc codes ends stk) := by
  intro n
  induction n with
  | zero => intro i; intros; omega
  | succ n ih =>
    intro i hi hn
    refine ww_run 4 4 (pc' := 12) (lv' := [(0, .ref 0), (1, .int m), (2, .int (o2i (bestOf (fun c => decide (eFree ki mo till sitter lent satOn c m)) (fun c b => decide (eAhead sty till c b)) i))), (3, .int (nI i))]) (st' := [.int (nI C), .int (nI i)]) (w' := wEv fr lo fa ki mo pe (nI C) sty wset wfor law lent on was sat stood rose firsts waits till sitter names satOn risen nc codes ends stk) (Ps := []) rfl trivial ?_
    refine ww_icmp_ge 8 rfl (tgt := 45) rfl (fun c1 => ?_) (fun c1 => ?_)
    · have c1 : C ≤ i := (nI_leI (a := C) (b := i) (by omega) (by omega)).mp c1
      obtain rfl : i = C := by omega
      exact K
    · have c1 : ¬ C ≤ i := fun q => c1 ((nI_leI (a := C) (b := i) (by omega) (by omega)).mpr q)
      rcases hb : bestOf (fun c => decide (eFree ki mo till sitter lent satOn c m)) (fun c b => decide (eAhead sty till c b)) i with _ | b
      · skip
        refine ww_run 9 3 (pc' := 18) (lv' := [(0, .ref 0), (1, .int m), (2, .int (-1)), (3, .int (nI i))]) (st' := [.int m, .int (nI i), .ref 0]) (w' := wEv fr lo fa ki mo pe (nI C) sty wset wfor law lent on was sat stood rose firsts waits till sitter names satOn risen nc codes ends stk) (Ps := []) rfl trivial ?_
        refine ww_cVi 12 ok_X0_isFree (c_X0_isFree fr lo fa ki mo pe (nI C) sty wset wfor law lent on was sat stood rose firsts waits till sitter names satOn risen nc codes ends stk i m (by omega)) lk_X0_135 rfl (by omega) (rest := []) rfl (Nat.le_of_ble_eq_true rfl) rfl rfl rfl rfl ?_
        refine ww_if_eq 13 rfl (tgt := 39) rfl (fun c2 => ?_) (fun c2 => ?_)
        · rw [b2i_eq0] at c2
          refine ww_run 23 2 (pc' := 4) (lv' := [(3, .int ((nI i) + 1)), (0, .ref 0), (1, .int m), (2, .int (-1))]) (st' := []) (w' := wEv fr lo fa ki mo pe (nI C) sty wset wfor law lent on was sat stood rose firsts waits till sitter names satOn risen nc codes ends stk) (Ps := []) rfl trivial ?_
          rw [nI_1 i]
          refine ww_lv [1, 2, 3, 0] (lv' := [(0, .ref 0), (1, .int m), (2, .int (-1)), (3, .int (nI (i + 1)))]) rfl ?_
          have e : bestOf (fun c => decide (eFree ki mo till sitter lent satOn c m)) (fun c b => decide (eAhead sty till c b)) (i + 1) = none := bestOf_nn hb (decide_eq_false (by first | exact c2 | grind))
          have h := ih (i + 1) (by omega) (by omega)
          rw [e] at h
          exact h
        · rw [b2i_ne0] at c2
          refine ww_run 14 1 (pc' := 25) (lv' := [(0, .ref 0), (1, .int m), (2, .int (-1)), (3, .int (nI i))]) (st' := [.int (-1)]) (w' := wEv fr lo fa ki mo pe (nI C) sty wset wfor law lent on was sat stood rose firsts waits till sitter names satOn risen nc codes ends stk) (Ps := []) rfl trivial ?_
          refine ww_if_lt 15 rfl (tgt := 37) rfl (fun c3 => ?_) (fun c3 => ?_)
          · refine ww_run 21 4 (pc' := 4) (lv' := [(3, .int ((nI i) + 1)), (2, .int (nI i)), (0, .ref 0), (1, .int m)]) (st' := []) (w' := wEv fr lo fa ki mo pe (nI C) sty wset wfor law lent on was sat stood rose firsts waits till sitter names satOn risen nc codes ends stk) (Ps := []) rfl trivial ?_
            rw [nI_1 i]
            refine ww_lv [2, 3, 1, 0] (lv' := [(0, .ref 0), (1, .int m), (2, .int (nI i)), (3, .int (nI (i + 1)))]) rfl ?_
            have e : bestOf (fun c => decide (eFree ki mo till sitter lent satOn c m)) (fun c b => decide (eAhead sty till c b)) (i + 1) = some i := bestOf_nt hb (decide_eq_true (by first | exact c2 | grind))
            have h := ih (i + 1) (by omega) (by omega)
            rw [e] at h
            exact h
          · exact absurd c3 (by decide)
      · have hbl := bestOf_lt hb
        refine ww_run 9 3 (pc' := 18) (lv' := [(0, .ref 0), (1, .int m), (2, .int (nI b)), (3, .int (nI i))]) (st' := [.int m, .int (nI i), .ref 0]) (w' := wEv fr lo fa ki mo pe (nI C) sty wset wfor law lent on was sat stood rose firsts waits till sitter names satOn risen nc codes ends stk) (Ps := []) rfl trivial ?_
        refine ww_cVi 12 ok_X0_isFree (c_X0_isFree fr lo fa ki mo pe (nI C) sty wset wfor law lent on was sat stood rose firsts waits till sitter names satOn risen nc codes ends stk i m (by omega)) lk_X0_135 rfl (by omega) (rest := []) rfl (Nat.le_of_ble_eq_true rfl) rfl rfl rfl rfl ?_
        refine ww_if_eq 13 rfl (tgt := 39) rfl (fun c4 => ?_) (fun c4 => ?_)
        · rw [b2i_eq0] at c4
          refine ww_run 23 2 (pc' := 4) (lv' := [(3, .int ((nI i) + 1)), (0, .ref 0), (1, .int m), (2, .int (nI b))]) (st' := []) (w' := wEv fr lo fa ki mo pe (nI C) sty wset wfor law lent on was sat stood rose firsts waits till sitter names satOn risen nc codes ends stk) (Ps := []) rfl trivial ?_
          rw [nI_1 i]
          refine ww_lv [1, 2, 3, 0] (lv' := [(0, .ref 0), (1, .int m), (2, .int (nI b)), (3, .int (nI (i + 1)))]) rfl ?_
          have e : bestOf (fun c => decide (eFree ki mo till sitter lent satOn c m)) (fun c b => decide (eAhead sty till c b)) (i + 1) = some b := bestOf_sf hb (decide_eq_false (by first | exact c4 | grind))
          have h := ih (i + 1) (by omega) (by omega)
          rw [e] at h
          exact h
        · rw [b2i_ne0] at c4
          refine ww_run 14 1 (pc' := 25) (lv' := [(0, .ref 0), (1, .int m), (2, .int (nI b)), (3, .int (nI i))]) (st' := [.int (nI b)]) (w' := wEv fr lo fa ki mo pe (nI C) sty wset wfor law lent on was sat stood rose firsts waits till sitter names satOn risen nc codes ends stk) (Ps := []) rfl trivial ?_
          refine ww_if_lt 15 rfl (tgt := 37) rfl (fun c5 => ?_) (fun c5 => ?_)
          · exact absurd c5 (nI_pos (by omega))
          · have c5 : ¬ b < 0 := fun q => c5 ((nI_ltI (a := b) (b := 0) (by omega) (by omega)).mpr q)
            refine ww_run 16 3 (pc' := 31) (lv' := [(0, .ref 0), (1, .int m), (2, .int (nI b)), (3, .int (nI i))]) (st' := [.int (nI b), .int (nI i), .ref 0]) (w' := wEv fr lo fa ki mo pe (nI C) sty wset wfor law lent on was sat stood rose firsts waits till sitter names satOn risen nc codes ends stk) (Ps := []) rfl trivial ?_
            refine ww_cVi 19 ok_X0_isTakenAhead (c_X0_isTakenAhead fr lo fa ki mo pe (nI C) sty wset wfor law lent on was sat stood rose firsts waits till sitter names satOn risen nc codes ends stk i b (by omega) (by omega)) lk_X0_138 rfl (by omega) (rest := []) rfl (Nat.le_of_ble_eq_true rfl) rfl rfl rfl rfl ?_
            refine ww_if_eq 20 rfl (tgt := 39) rfl (fun c6 => ?_) (fun c6 => ?_)
            · rw [b2i_eq0] at c6
              refine ww_run 23 2 (pc' := 4) (lv' := [(3, .int ((nI i) + 1)), (0, .ref 0), (1, .int m), (2, .int (nI b))]) (st' := []) (w' := wEv fr lo fa ki mo pe (nI C) sty wset wfor law lent on was sat stood rose firsts waits till sitter names satOn risen nc codes ends stk) (Ps := []) rfl trivial ?_
              rw [nI_1 i]
              refine ww_lv [1, 2, 3, 0] (lv' := [(0, .ref 0), (1, .int m), (2, .int (nI b)), (3, .int (nI (i + 1)))]) rfl ?_
              have e : bestOf (fun c => decide (eFree ki mo till sitter lent satOn c m)) (fun c b => decide (eAhead sty till c b)) (i + 1) = some b := bestOf_sa hb (decide_eq_false (by first | exact c6 | grind))
              have h := ih (i + 1) (by omega) (by omega)
              rw [e] at h
              exact h
            · rw [b2i_ne0] at c6
              refine ww_run 21 4 (pc' := 4) (lv' := [(3, .int ((nI i) + 1)), (2, .int (nI i)), (0, .ref 0), (1, .int m)]) (st' := []) (w' := wEv fr lo fa ki mo pe (nI C) sty wset wfor law lent on was sat stood rose firsts waits till sitter names satOn risen nc codes ends stk) (Ps := []) rfl trivial ?_
              rw [nI_1 i]
              refine ww_lv [2, 3, 1, 0] (lv' := [(0, .ref 0), (1, .int m), (2, .int (nI i)), (3, .int (nI (i + 1)))]) rfl ?_
              have e : bestOf (fun c => decide (eFree ki mo till sitter lent satOn c m)) (fun c b => decide (eAhead sty till c b)) (i + 1) = some i := bestOf_st hb (decide_eq_true (by first | exact c4 | grind)) (decide_eq_true (by first | exact c6 | grind))
              have h := ih (i + 1) (by omega) (by omega)
              rw [e] at h
              exact h
set_option maxHeartbeats 4000000 in
set_option maxRecDepth 100000 in
theorem c_X0_nextChair (fr lo fa ki mo : Nat → Int32) (pe sty wset wfor law lent : Int32) (on was sat stood rose firsts waits till sitter names : Nat → Int32) (satOn risen : Int32) (nc : Nat) (codes ends stk : Nat → Int32) (m : Int32) (C : Nat) (hC : C ≤ 6) : Co M_X0_nextChair 2 0 0 [.ref 0, .int m] (wEv fr lo fa ki mo pe (nI C) sty wset wfor law lent on was sat stood rose firsts waits till sitter names satOn risen nc codes ends stk) (Qi (o2i (bestOf (fun c => decide (eFree ki mo till sitter lent satOn c m)) (fun c b => decide (eAhead sty till c b)) C)) (wEv fr lo fa ki mo pe (nI C) sty wset wfor law lent on was sat stood rose firsts waits till sitter names satOn risen nc codes ends stk)) := by
  refine Co.of ok_X0_nextChair rfl ?_
  refine ww_run 0 4 (pc' := 4) (lv' := [(3, .int 0), (2, .int (-1)), (0, .ref 0), (1, .int m)]) (st' := []) (w' := wEv fr lo fa ki mo pe (nI C) sty wset wfor law lent on was sat stood rose firsts waits till sitter names satOn risen nc codes ends stk) (Ps := []) rfl trivial ?_
  refine ww_lv [2, 3, 1, 0] (lv' := [(0, .ref 0), (1, .int m), (2, .int (-1)), (3, .int 0)]) rfl ?_
  refine l_X0_nextChair_4 (by omega) fr lo fa ki mo pe sty wset wfor law lent on was sat stood rose firsts waits till sitter names satOn risen nc codes ends stk m C hC ?_ (C + 1) 0 (by omega) (by omega)
  refine ww_run 25 1 (pc' := 46) (lv' := [(0, .ref 0), (1, .int m), (2, .int (o2i (bestOf (fun c => decide (eFree ki mo till sitter lent satOn c m)) (fun c b => decide (eAhead sty till c b)) C))), (3, .int (nI C))]) (st' := [.int (o2i (bestOf (fun c => decide (eFree ki mo till sitter lent satOn c m)) (fun c b => decide (eAhead sty till c b)) C))]) (w' := wEv fr lo fa ki mo pe (nI C) sty wset wfor law lent on was sat stood rose firsts waits till sitter names satOn risen nc codes ends stk) (Ps := []) rfl trivial ?_
  refine ww_iret 26 rfl rfl ?_
  exact ⟨rfl, rfl⟩
set_option maxHeartbeats 4000000 in
set_option maxRecDepth 100000 in
theorem l_X0_nextOne_4 {Q : Option Value → List va_E → Prop} {d : Nat} (hd : 0 ≤ d) (fr lo fa ki mo : Nat → Int32) (ch sty wset wfor law lent : Int32) (on was sat stood rose firsts waits till sitter names : Nat → Int32) (satOn risen : Int32) (nc : Nat) (codes ends stk : Nat → Int32) (P : Nat) (hP : P ≤ 5) (K : WW M_X0_nextOne d Q xz 51 [(0, .ref 0), (1, .int (o2i (bestOf (fun p => decide (¬ waits p = 0)) (fun p b => decide (firsts p < firsts b)) P))), (2, .int (nI P))] [] (wEv fr lo fa ki mo (nI P) ch sty wset wfor law lent on was sat stood rose firsts waits till sitter names satOn risen nc codes ends stk)) :
    ∀ (n i : Nat) , i ≤ P → P + 1 ≤ i + n → WW M_X0_nextOne d Q xz 4 [(0, .ref 0), (1, .int (o2i (bestOf (fun p => decide (¬ waits p = 0)) (fun p b => decide (firsts p < firsts b)) i))), (2, .int (nI i))] [] (wEv fr lo fa ki mo (nI P) ch sty wset wfor law lent on was sat stood rose firsts waits till sitter names satOn risen nc codes ends stk) := by
  intro n
  induction n with
  | zero => intro i; intros; omega
  | succ n ih =>
    intro i hi hn
    refine ww_run 4 4 (pc' := 12) (lv' := [(0, .ref 0), (1, .int (o2i (bestOf (fun p => decide (¬ waits p = 0)) (fun p b => decide (firsts p < firsts b)) i))), (2, .int (nI i))]) (st' := [.int (nI P), .int (nI i)]) (w' := wEv fr lo fa ki mo (nI P) ch sty wset wfor law lent on was sat stood rose firsts waits till sitter names satOn risen nc codes ends stk) (Ps := []) rfl trivial ?_
    refine ww_icmp_ge 8 rfl (tgt := 51) rfl (fun c1 => ?_) (fun c1 => ?_)
    · have c1 : P ≤ i := (nI_leI (a := P) (b := i) (by omega) (by omega)).mp c1
      obtain rfl : i = P := by omega
      exact K
    · have c1 : ¬ P ≤ i := fun q => c1 ((nI_leI (a := P) (b := i) (by omega) (by omega)).mpr q)
      rcases hb : bestOf (fun p => decide (¬ waits p = 0)) (fun p b => decide (firsts p < firsts b)) i with _ | b
      · skip
        refine ww_run 9 4 (pc' := 21) (lv' := [(0, .ref 0), (1, .int (-1)), (2, .int (nI i))]) (st' := [.int (waits (nI i).toNatClampNeg)]) (w' := wEv fr lo fa ki mo (nI P) ch sty wset wfor law lent on was sat stood rose firsts waits till sitter names satOn risen nc codes ends stk) (Ps := [vp_in (nI i) 5]) rfl ⟨(vp_in_nI (by omega) (by omega)), trivial⟩ ?_
        rw [nI_clamp (n := i) (by omega)]
        refine ww_if_eq 13 rfl (tgt := 45) rfl (fun c2 => ?_) (fun c2 => ?_)
        · refine ww_run 27 2 (pc' := 4) (lv' := [(2, .int ((nI i) + 1)), (0, .ref 0), (1, .int (-1))]) (st' := []) (w' := wEv fr lo fa ki mo (nI P) ch sty wset wfor law lent on was sat stood rose firsts waits till sitter names satOn risen nc codes ends stk) (Ps := []) rfl trivial ?_
          rw [nI_1 i]
          refine ww_lv [1, 2, 0] (lv' := [(0, .ref 0), (1, .int (-1)), (2, .int (nI (i + 1)))]) rfl ?_
          have e : bestOf (fun p => decide (¬ waits p = 0)) (fun p b => decide (firsts p < firsts b)) (i + 1) = none := bestOf_nn hb (decide_eq_false (by first | exact c2 | grind))
          have h := ih (i + 1) (by omega) (by omega)
          rw [e] at h
          exact h
        · refine ww_run 14 1 (pc' := 25) (lv' := [(0, .ref 0), (1, .int (-1)), (2, .int (nI i))]) (st' := [.int (-1)]) (w' := wEv fr lo fa ki mo (nI P) ch sty wset wfor law lent on was sat stood rose firsts waits till sitter names satOn risen nc codes ends stk) (Ps := []) rfl trivial ?_
          refine ww_if_lt 15 rfl (tgt := 43) rfl (fun c3 => ?_) (fun c3 => ?_)
          · refine ww_run 25 4 (pc' := 4) (lv' := [(2, .int ((nI i) + 1)), (1, .int (nI i)), (0, .ref 0)]) (st' := []) (w' := wEv fr lo fa ki mo (nI P) ch sty wset wfor law lent on was sat stood rose firsts waits till sitter names satOn risen nc codes ends stk) (Ps := []) rfl trivial ?_
            rw [nI_1 i]
            refine ww_lv [2, 1, 0] (lv' := [(0, .ref 0), (1, .int (nI i)), (2, .int (nI (i + 1)))]) rfl ?_
            have e : bestOf (fun p => decide (¬ waits p = 0)) (fun p b => decide (firsts p < firsts b)) (i + 1) = some i := bestOf_nt hb (decide_eq_true (by first | exact c2 | grind))
            have h := ih (i + 1) (by omega) (by omega)
            rw [e] at h
            exact h
          · exact absurd c3 (by decide)
      · have hbl := bestOf_lt hb
        refine ww_run 9 4 (pc' := 21) (lv' := [(0, .ref 0), (1, .int (nI b)), (2, .int (nI i))]) (st' := [.int (waits (nI i).toNatClampNeg)]) (w' := wEv fr lo fa ki mo (nI P) ch sty wset wfor law lent on was sat stood rose firsts waits till sitter names satOn risen nc codes ends stk) (Ps := [vp_in (nI i) 5]) rfl ⟨(vp_in_nI (by omega) (by omega)), trivial⟩ ?_
        rw [nI_clamp (n := i) (by omega)]
        refine ww_if_eq 13 rfl (tgt := 45) rfl (fun c4 => ?_) (fun c4 => ?_)
        · refine ww_run 27 2 (pc' := 4) (lv' := [(2, .int ((nI i) + 1)), (0, .ref 0), (1, .int (nI b))]) (st' := []) (w' := wEv fr lo fa ki mo (nI P) ch sty wset wfor law lent on was sat stood rose firsts waits till sitter names satOn risen nc codes ends stk) (Ps := []) rfl trivial ?_
          rw [nI_1 i]
          refine ww_lv [1, 2, 0] (lv' := [(0, .ref 0), (1, .int (nI b)), (2, .int (nI (i + 1)))]) rfl ?_
          have e : bestOf (fun p => decide (¬ waits p = 0)) (fun p b => decide (firsts p < firsts b)) (i + 1) = some b := bestOf_sf hb (decide_eq_false (by first | exact c4 | grind))
          have h := ih (i + 1) (by omega) (by omega)
          rw [e] at h
          exact h
        · refine ww_run 14 1 (pc' := 25) (lv' := [(0, .ref 0), (1, .int (nI b)), (2, .int (nI i))]) (st' := [.int (nI b)]) (w' := wEv fr lo fa ki mo (nI P) ch sty wset wfor law lent on was sat stood rose firsts waits till sitter names satOn risen nc codes ends stk) (Ps := []) rfl trivial ?_
          refine ww_if_lt 15 rfl (tgt := 43) rfl (fun c5 => ?_) (fun c5 => ?_)
          · exact absurd c5 (nI_pos (by omega))
          · have c5 : ¬ b < 0 := fun q => c5 ((nI_ltI (a := b) (b := 0) (by omega) (by omega)).mpr q)
            refine ww_run 16 8 (pc' := 40) (lv' := [(0, .ref 0), (1, .int (nI b)), (2, .int (nI i))]) (st' := [.int (firsts (nI b).toNatClampNeg), .int (firsts (nI i).toNatClampNeg)]) (w' := wEv fr lo fa ki mo (nI P) ch sty wset wfor law lent on was sat stood rose firsts waits till sitter names satOn risen nc codes ends stk) (Ps := [vp_in (nI i) 5, vp_in (nI b) 5]) rfl ⟨(vp_in_nI (by omega) (by omega)), (vp_in_nI (by omega) (by omega)), trivial⟩ ?_
            rw [nI_clamp (n := b) (by omega)]
            rw [nI_clamp (n := i) (by omega)]
            refine ww_icmp_ge 24 rfl (tgt := 45) rfl (fun c6 => ?_) (fun c6 => ?_)
            · refine ww_run 27 2 (pc' := 4) (lv' := [(2, .int ((nI i) + 1)), (0, .ref 0), (1, .int (nI b))]) (st' := []) (w' := wEv fr lo fa ki mo (nI P) ch sty wset wfor law lent on was sat stood rose firsts waits till sitter names satOn risen nc codes ends stk) (Ps := []) rfl trivial ?_
              rw [nI_1 i]
              refine ww_lv [1, 2, 0] (lv' := [(0, .ref 0), (1, .int (nI b)), (2, .int (nI (i + 1)))]) rfl ?_
              have e : bestOf (fun p => decide (¬ waits p = 0)) (fun p b => decide (firsts p < firsts b)) (i + 1) = some b := bestOf_sa hb (decide_eq_false (by first | exact c6 | grind))
              have h := ih (i + 1) (by omega) (by omega)
              rw [e] at h
              exact h
            · refine ww_run 25 4 (pc' := 4) (lv' := [(2, .int ((nI i) + 1)), (1, .int (nI i)), (0, .ref 0)]) (st' := []) (w' := wEv fr lo fa ki mo (nI P) ch sty wset wfor law lent on was sat stood rose firsts waits till sitter names satOn risen nc codes ends stk) (Ps := []) rfl trivial ?_
              rw [nI_1 i]
              refine ww_lv [2, 1, 0] (lv' := [(0, .ref 0), (1, .int (nI i)), (2, .int (nI (i + 1)))]) rfl ?_
              have e : bestOf (fun p => decide (¬ waits p = 0)) (fun p b => decide (firsts p < firsts b)) (i + 1) = some i := bestOf_st hb (decide_eq_true (by first | exact c4 | grind)) (decide_eq_true (by first | exact c6 | grind))
              have h := ih (i + 1) (by omega) (by omega)
              rw [e] at h
              exact h
set_option maxHeartbeats 4000000 in
set_option maxRecDepth 100000 in
theorem c_X0_nextOne (fr lo fa ki mo : Nat → Int32) (ch sty wset wfor law lent : Int32) (on was sat stood rose firsts waits till sitter names : Nat → Int32) (satOn risen : Int32) (nc : Nat) (codes ends stk : Nat → Int32) (P : Nat) (hP : P ≤ 5) : Co M_X0_nextOne 0 0 0 [.ref 0] (wEv fr lo fa ki mo (nI P) ch sty wset wfor law lent on was sat stood rose firsts waits till sitter names satOn risen nc codes ends stk) (Qi (o2i (bestOf (fun p => decide (¬ waits p = 0)) (fun p b => decide (firsts p < firsts b)) P)) (wEv fr lo fa ki mo (nI P) ch sty wset wfor law lent on was sat stood rose firsts waits till sitter names satOn risen nc codes ends stk)) := by
  refine Co.of ok_X0_nextOne rfl ?_
  refine ww_run 0 4 (pc' := 4) (lv' := [(2, .int 0), (1, .int (-1)), (0, .ref 0)]) (st' := []) (w' := wEv fr lo fa ki mo (nI P) ch sty wset wfor law lent on was sat stood rose firsts waits till sitter names satOn risen nc codes ends stk) (Ps := []) rfl trivial ?_
  refine ww_lv [2, 1, 0] (lv' := [(0, .ref 0), (1, .int (-1)), (2, .int 0)]) rfl ?_
  refine l_X0_nextOne_4 (by omega) fr lo fa ki mo ch sty wset wfor law lent on was sat stood rose firsts waits till sitter names satOn risen nc codes ends stk P hP ?_ (P + 1) 0 (by omega) (by omega)
  refine ww_run 29 1 (pc' := 52) (lv' := [(0, .ref 0), (1, .int (o2i (bestOf (fun p => decide (¬ waits p = 0)) (fun p b => decide (firsts p < firsts b)) P))), (2, .int (nI P))]) (st' := [.int (o2i (bestOf (fun p => decide (¬ waits p = 0)) (fun p b => decide (firsts p < firsts b)) P))]) (w' := wEv fr lo fa ki mo (nI P) ch sty wset wfor law lent on was sat stood rose firsts waits till sitter names satOn risen nc codes ends stk) (Ps := []) rfl trivial ?_
  refine ww_iret 30 rfl rfl ?_
  exact ⟨rfl, rfl⟩
set_option maxHeartbeats 4000000 in
set_option maxRecDepth 100000 in
theorem l_X0_stoodLongest_4 {Q : Option Value → List va_E → Prop} {d : Nat} (hd : 0 ≤ d) (fr lo fa ki mo : Nat → Int32) (ch sty wset wfor law lent : Int32) (on was sat stood rose firsts waits till sitter names : Nat → Int32) (satOn risen : Int32) (nc : Nat) (codes ends stk : Nat → Int32) (P : Nat) (hP : P ≤ 5) (K : WW M_X0_stoodLongest d Q xz 42 [(0, .ref 0), (1, .int (o2i (bestOf (fun _ => true) (fun p b => decide (stood b < stood p)) P))), (2, .int (nI P))] [] (wEv fr lo fa ki mo (nI P) ch sty wset wfor law lent on was sat stood rose firsts waits till sitter names satOn risen nc codes ends stk)) :
    ∀ (n i : Nat) , i ≤ P → P + 1 ≤ i + n → WW M_X0_stoodLongest d Q xz 4 [(0, .ref 0), (1, .int (o2i (bestOf (fun _ => true) (fun p b => decide (stood b < stood p)) i))), (2, .int (nI i))] [] (wEv fr lo fa ki mo (nI P) ch sty wset wfor law lent on was sat stood rose firsts waits till sitter names satOn risen nc codes ends stk) := by
  intro n
  induction n with
  | zero => intro i; intros; omega
  | succ n ih =>
    intro i hi hn
    refine ww_run 4 4 (pc' := 12) (lv' := [(0, .ref 0), (1, .int (o2i (bestOf (fun _ => true) (fun p b => decide (stood b < stood p)) i))), (2, .int (nI i))]) (st' := [.int (nI P), .int (nI i)]) (w' := wEv fr lo fa ki mo (nI P) ch sty wset wfor law lent on was sat stood rose firsts waits till sitter names satOn risen nc codes ends stk) (Ps := []) rfl trivial ?_
    refine ww_icmp_ge 8 rfl (tgt := 42) rfl (fun c1 => ?_) (fun c1 => ?_)
    · have c1 : P ≤ i := (nI_leI (a := P) (b := i) (by omega) (by omega)).mp c1
      obtain rfl : i = P := by omega
      exact K
    · have c1 : ¬ P ≤ i := fun q => c1 ((nI_leI (a := P) (b := i) (by omega) (by omega)).mpr q)
      rcases hb : bestOf (fun _ => true) (fun p b => decide (stood b < stood p)) i with _ | b
      · skip
        refine ww_run 9 1 (pc' := 16) (lv' := [(0, .ref 0), (1, .int (-1)), (2, .int (nI i))]) (st' := [.int (-1)]) (w' := wEv fr lo fa ki mo (nI P) ch sty wset wfor law lent on was sat stood rose firsts waits till sitter names satOn risen nc codes ends stk) (Ps := []) rfl trivial ?_
        refine ww_if_lt 10 rfl (tgt := 34) rfl (fun c2 => ?_) (fun c2 => ?_)
        · refine ww_run 20 4 (pc' := 4) (lv' := [(2, .int ((nI i) + 1)), (1, .int (nI i)), (0, .ref 0)]) (st' := []) (w' := wEv fr lo fa ki mo (nI P) ch sty wset wfor law lent on was sat stood rose firsts waits till sitter names satOn risen nc codes ends stk) (Ps := []) rfl trivial ?_
          rw [nI_1 i]
          refine ww_lv [2, 1, 0] (lv' := [(0, .ref 0), (1, .int (nI i)), (2, .int (nI (i + 1)))]) rfl ?_
          have e : bestOf (fun _ => true) (fun p b => decide (stood b < stood p)) (i + 1) = some i := bestOf_nt hb rfl
          have h := ih (i + 1) (by omega) (by omega)
          rw [e] at h
          exact h
        · exact absurd c2 (by decide)
      · have hbl := bestOf_lt hb
        refine ww_run 9 1 (pc' := 16) (lv' := [(0, .ref 0), (1, .int (nI b)), (2, .int (nI i))]) (st' := [.int (nI b)]) (w' := wEv fr lo fa ki mo (nI P) ch sty wset wfor law lent on was sat stood rose firsts waits till sitter names satOn risen nc codes ends stk) (Ps := []) rfl trivial ?_
        refine ww_if_lt 10 rfl (tgt := 34) rfl (fun c3 => ?_) (fun c3 => ?_)
        · exact absurd c3 (nI_pos (by omega))
        · have c3 : ¬ b < 0 := fun q => c3 ((nI_ltI (a := b) (b := 0) (by omega) (by omega)).mpr q)
          refine ww_run 11 8 (pc' := 31) (lv' := [(0, .ref 0), (1, .int (nI b)), (2, .int (nI i))]) (st' := [.int (stood (nI b).toNatClampNeg), .int (stood (nI i).toNatClampNeg)]) (w' := wEv fr lo fa ki mo (nI P) ch sty wset wfor law lent on was sat stood rose firsts waits till sitter names satOn risen nc codes ends stk) (Ps := [vp_in (nI i) 5, vp_in (nI b) 5]) rfl ⟨(vp_in_nI (by omega) (by omega)), (vp_in_nI (by omega) (by omega)), trivial⟩ ?_
          rw [nI_clamp (n := b) (by omega)]
          rw [nI_clamp (n := i) (by omega)]
          refine ww_icmp_le 19 rfl (tgt := 36) rfl (fun c4 => ?_) (fun c4 => ?_)
          · refine ww_run 22 2 (pc' := 4) (lv' := [(2, .int ((nI i) + 1)), (0, .ref 0), (1, .int (nI b))]) (st' := []) (w' := wEv fr lo fa ki mo (nI P) ch sty wset wfor law lent on was sat stood rose firsts waits till sitter names satOn risen nc codes ends stk) (Ps := []) rfl trivial ?_
            rw [nI_1 i]
            refine ww_lv [1, 2, 0] (lv' := [(0, .ref 0), (1, .int (nI b)), (2, .int (nI (i + 1)))]) rfl ?_
            have e : bestOf (fun _ => true) (fun p b => decide (stood b < stood p)) (i + 1) = some b := bestOf_sa hb (decide_eq_false (by first | exact c4 | grind))
            have h := ih (i + 1) (by omega) (by omega)
            rw [e] at h
            exact h
          · refine ww_run 20 4 (pc' := 4) (lv' := [(2, .int ((nI i) + 1)), (1, .int (nI i)), (0, .ref 0)]) (st' := []) (w' := wEv fr lo fa ki mo (nI P) ch sty wset wfor law lent on was sat stood rose firsts waits till sitter names satOn risen nc codes ends stk) (Ps := []) rfl trivial ?_
            rw [nI_1 i]
            refine ww_lv [2, 1, 0] (lv' := [(0, .ref 0), (1, .int (nI i)), (2, .int (nI (i + 1)))]) rfl ?_
            have e : bestOf (fun _ => true) (fun p b => decide (stood b < stood p)) (i + 1) = some i := bestOf_st hb rfl (decide_eq_true (by first | exact c4 | grind))
            have h := ih (i + 1) (by omega) (by omega)
            rw [e] at h
            exact h
set_option maxHeartbeats 4000000 in
set_option maxRecDepth 100000 in
theorem c_X0_stoodLongest (fr lo fa ki mo : Nat → Int32) (ch sty wset wfor law lent : Int32) (on was sat stood rose firsts waits till sitter names : Nat → Int32) (satOn risen : Int32) (nc : Nat) (codes ends stk : Nat → Int32) (P : Nat) (hP : P ≤ 5) : Co M_X0_stoodLongest 0 0 0 [.ref 0] (wEv fr lo fa ki mo (nI P) ch sty wset wfor law lent on was sat stood rose firsts waits till sitter names satOn risen nc codes ends stk) (Qi (o2i (bestOf (fun _ => true) (fun p b => decide (stood b < stood p)) P)) (wEv fr lo fa ki mo (nI P) ch sty wset wfor law lent on was sat stood rose firsts waits till sitter names satOn risen nc codes ends stk)) := by
  refine Co.of ok_X0_stoodLongest rfl ?_
  refine ww_run 0 4 (pc' := 4) (lv' := [(2, .int 0), (1, .int (-1)), (0, .ref 0)]) (st' := []) (w' := wEv fr lo fa ki mo (nI P) ch sty wset wfor law lent on was sat stood rose firsts waits till sitter names satOn risen nc codes ends stk) (Ps := []) rfl trivial ?_
  refine ww_lv [2, 1, 0] (lv' := [(0, .ref 0), (1, .int (-1)), (2, .int 0)]) rfl ?_
  refine l_X0_stoodLongest_4 (by omega) fr lo fa ki mo ch sty wset wfor law lent on was sat stood rose firsts waits till sitter names satOn risen nc codes ends stk P hP ?_ (P + 1) 0 (by omega) (by omega)
  refine ww_run 24 1 (pc' := 43) (lv' := [(0, .ref 0), (1, .int (o2i (bestOf (fun _ => true) (fun p b => decide (stood b < stood p)) P))), (2, .int (nI P))]) (st' := [.int (o2i (bestOf (fun _ => true) (fun p b => decide (stood b < stood p)) P))]) (w' := wEv fr lo fa ki mo (nI P) ch sty wset wfor law lent on was sat stood rose firsts waits till sitter names satOn risen nc codes ends stk) (Ps := []) rfl trivial ?_
  refine ww_iret 25 rfl rfl ?_
  exact ⟨rfl, rfl⟩
set_option maxHeartbeats 4000000 in
set_option maxRecDepth 100000 in
theorem l_X0_stoodTogether_4 {Q : Option Value → List va_E → Prop} {d : Nat} (hd : 0 ≤ d) (fr lo fa ki mo : Nat → Int32) (ch sty wset wfor law lent : Int32) (on was sat stood rose firsts waits till sitter names : Nat → Int32) (satOn risen : Int32) (nc : Nat) (codes ends stk : Nat → Int32) (P : Nat) (hP : P ≤ 5) (K : WW M_X0_stoodTogether d Q xz 30 [(0, .ref 0), (1, .int (sumTo stood P)), (2, .int (nI P))] [] (wEv fr lo fa ki mo (nI P) ch sty wset wfor law lent on was sat stood rose firsts waits till sitter names satOn risen nc codes ends stk)) :
    ∀ (n i : Nat) , i ≤ P → P + 1 ≤ i + n → WW M_X0_stoodTogether d Q xz 4 [(0, .ref 0), (1, .int (sumTo stood i)), (2, .int (nI i))] [] (wEv fr lo fa ki mo (nI P) ch sty wset wfor law lent on was sat stood rose firsts waits till sitter names satOn risen nc codes ends stk) := by
  intro n
  induction n with
  | zero => intro i; intros; omega
  | succ n ih =>
    intro i hi hn
    refine ww_run 4 4 (pc' := 12) (lv' := [(0, .ref 0), (1, .int (sumTo stood i)), (2, .int (nI i))]) (st' := [.int (nI P), .int (nI i)]) (w' := wEv fr lo fa ki mo (nI P) ch sty wset wfor law lent on was sat stood rose firsts waits till sitter names satOn risen nc codes ends stk) (Ps := []) rfl trivial ?_
    refine ww_icmp_ge 8 rfl (tgt := 30) rfl (fun c1 => ?_) (fun c1 => ?_)
    · have c1 : P ≤ i := (nI_leI (a := P) (b := i) (by omega) (by omega)).mp c1
      obtain rfl : i = P := by omega
      exact K
    · have c1 : ¬ P ≤ i := fun q => c1 ((nI_leI (a := P) (b := i) (by omega) (by omega)).mpr q)
      refine ww_run 9 9 (pc' := 4) (lv' := [(2, .int ((nI i) + 1)), (1, .int ((sumTo stood i) + (stood (nI i).toNatClampNeg))), (0, .ref 0)]) (st' := []) (w' := wEv fr lo fa ki mo (nI P) ch sty wset wfor law lent on was sat stood rose firsts waits till sitter names satOn risen nc codes ends stk) (Ps := [vp_in (nI i) 5]) rfl ⟨(vp_in_nI (by omega) (by omega)), trivial⟩ ?_
      rw [nI_clamp (n := i) (by omega)]
      rw [nI_1 i]
      refine ww_lv [2, 1, 0] (lv' := [(0, .ref 0), (1, .int ((sumTo stood i) + (stood i))), (2, .int (nI (i + 1)))]) rfl ?_
      have e : sumTo stood (i + 1) = (sumTo stood i) + (stood i) := rfl
      have h := ih (i + 1) (by omega) (by omega)
      rw [e] at h
      exact h
set_option maxHeartbeats 4000000 in
set_option maxRecDepth 100000 in
theorem c_X0_stoodTogether (fr lo fa ki mo : Nat → Int32) (ch sty wset wfor law lent : Int32) (on was sat stood rose firsts waits till sitter names : Nat → Int32) (satOn risen : Int32) (nc : Nat) (codes ends stk : Nat → Int32) (P : Nat) (hP : P ≤ 5) : Co M_X0_stoodTogether 0 0 0 [.ref 0] (wEv fr lo fa ki mo (nI P) ch sty wset wfor law lent on was sat stood rose firsts waits till sitter names satOn risen nc codes ends stk) (Qi (sumTo stood P) (wEv fr lo fa ki mo (nI P) ch sty wset wfor law lent on was sat stood rose firsts waits till sitter names satOn risen nc codes ends stk)) := by
  refine Co.of ok_X0_stoodTogether rfl ?_
  refine ww_run 0 4 (pc' := 4) (lv' := [(2, .int 0), (1, .int 0), (0, .ref 0)]) (st' := []) (w' := wEv fr lo fa ki mo (nI P) ch sty wset wfor law lent on was sat stood rose firsts waits till sitter names satOn risen nc codes ends stk) (Ps := []) rfl trivial ?_
  refine ww_lv [2, 1, 0] (lv' := [(0, .ref 0), (1, .int 0), (2, .int 0)]) rfl ?_
  refine l_X0_stoodTogether_4 (by omega) fr lo fa ki mo ch sty wset wfor law lent on was sat stood rose firsts waits till sitter names satOn risen nc codes ends stk P hP ?_ (P + 1) 0 (by omega) (by omega)
  refine ww_run 18 1 (pc' := 31) (lv' := [(0, .ref 0), (1, .int (sumTo stood P)), (2, .int (nI P))]) (st' := [.int (sumTo stood P)]) (w' := wEv fr lo fa ki mo (nI P) ch sty wset wfor law lent on was sat stood rose firsts waits till sitter names satOn risen nc codes ends stk) (Ps := []) rfl trivial ?_
  refine ww_iret 19 rfl rfl ?_
  exact ⟨rfl, rfl⟩
set_option maxHeartbeats 4000000 in
set_option maxRecDepth 100000 in
theorem l_X0_warmSet_4 {Q : Option Value → List va_E → Prop} {d : Nat} (hd : 1 ≤ d) (fr lo fa ki mo : Nat → Int32) (pe sty wset wfor law lent : Int32) (on was sat stood rose firsts waits till sitter names : Nat → Int32) (satOn risen : Int32) (nc : Nat) (codes ends stk : Nat → Int32) (m : Int32) (C : Nat) (hC : C ≤ 6) (K : WW M_X0_warmSet d Q xz 36 [(0, .ref 0), (1, .int m), (2, .int (setOf (fun c => decide (eWarm ki till satOn c m)) C)), (3, .int (nI C))] [] (wEv fr lo fa ki mo pe (nI C) sty wset wfor law lent on was sat stood rose firsts waits till sitter names satOn risen nc codes ends stk)) :
    ∀ (n i : Nat) , i ≤ C → C + 1 ≤ i + n → WW M_X0_warmSet d Q xz 4 [(0, .ref 0), (1, .int m), (2, .int (setOf (fun c => decide (eWarm ki till satOn c m)) i)), (3, .int (nI i))] [] (wEv fr lo fa ki mo pe (nI C) sty wset wfor law lent on was sat stood rose firsts waits till sitter names satOn risen nc codes ends stk) := by
  intro n
  induction n with
  | zero => intro i; intros; omega
  | succ n ih =>
    intro i hi hn
    refine ww_run 4 4 (pc' := 12) (lv' := [(0, .ref 0), (1, .int m), (2, .int (setOf (fun c => decide (eWarm ki till satOn c m)) i)), (3, .int (nI i))]) (st' := [.int (nI C), .int (nI i)]) (w' := wEv fr lo fa ki mo pe (nI C) sty wset wfor law lent on was sat stood rose firsts waits till sitter names satOn risen nc codes ends stk) (Ps := []) rfl trivial ?_
    refine ww_icmp_ge 8 rfl (tgt := 36) rfl (fun c1 => ?_) (fun c1 => ?_)
    · have c1 : C ≤ i := (nI_leI (a := C) (b := i) (by omega) (by omega)).mp c1
      obtain rfl : i = C := by omega
      exact K
    · have c1 : ¬ C ≤ i := fun q => c1 ((nI_leI (a := C) (b := i) (by omega) (by omega)).mpr q)
      refine ww_run 9 3 (pc' := 18) (lv' := [(0, .ref 0), (1, .int m), (2, .int (setOf (fun c => decide (eWarm ki till satOn c m)) i)), (3, .int (nI i))]) (st' := [.int m, .int (nI i), .ref 0]) (w' := wEv fr lo fa ki mo pe (nI C) sty wset wfor law lent on was sat stood rose firsts waits till sitter names satOn risen nc codes ends stk) (Ps := []) rfl trivial ?_
      refine ww_cVi 12 ok_X0_isWarm (c_X0_isWarm fr lo fa ki mo pe (nI C) sty wset wfor law lent on was sat stood rose firsts waits till sitter names satOn risen nc codes ends stk i m (by omega)) lk_X0_147 rfl (by omega) (rest := []) rfl (Nat.le_of_ble_eq_true rfl) rfl rfl rfl rfl ?_
      refine ww_if_eq 13 rfl (tgt := 30) rfl (fun c2 => ?_) (fun c2 => ?_)
      · rw [b2i_eq0] at c2
        refine ww_run 20 2 (pc' := 4) (lv' := [(3, .int ((nI i) + 1)), (0, .ref 0), (1, .int m), (2, .int (setOf (fun c => decide (eWarm ki till satOn c m)) i))]) (st' := []) (w' := wEv fr lo fa ki mo pe (nI C) sty wset wfor law lent on was sat stood rose firsts waits till sitter names satOn risen nc codes ends stk) (Ps := []) rfl trivial ?_
        rw [nI_1 i]
        refine ww_lv [1, 2, 3, 0] (lv' := [(0, .ref 0), (1, .int m), (2, .int (setOf (fun c => decide (eWarm ki till satOn c m)) i)), (3, .int (nI (i + 1)))]) rfl ?_
        have e : setOf (fun c => decide (eWarm ki till satOn c m)) (i + 1) = setOf (fun c => decide (eWarm ki till satOn c m)) i := by simp only [setOf]; simp [*]
        have h := ih (i + 1) (by omega) (by omega)
        rw [e] at h
        exact h
      · rw [b2i_ne0] at c2
        refine ww_run 14 8 (pc' := 4) (lv' := [(3, .int ((nI i) + 1)), (2, .int ((setOf (fun c => decide (eWarm ki till satOn c m)) i) ||| (1 <<< ((nI i) &&& 31)))), (0, .ref 0), (1, .int m)]) (st' := []) (w' := wEv fr lo fa ki mo pe (nI C) sty wset wfor law lent on was sat stood rose firsts waits till sitter names satOn risen nc codes ends stk) (Ps := []) rfl trivial ?_
        rw [nI_1 i]
        refine ww_lv [2, 3, 1, 0] (lv' := [(0, .ref 0), (1, .int m), (2, .int ((setOf (fun c => decide (eWarm ki till satOn c m)) i) ||| (1 <<< ((nI i) &&& 31)))), (3, .int (nI (i + 1)))]) rfl ?_
        have e : setOf (fun c => decide (eWarm ki till satOn c m)) (i + 1) = (setOf (fun c => decide (eWarm ki till satOn c m)) i) ||| (1 <<< ((nI i) &&& 31)) := by simp only [setOf]; simp [*]
        have h := ih (i + 1) (by omega) (by omega)
        rw [e] at h
        exact h
set_option maxHeartbeats 4000000 in
set_option maxRecDepth 100000 in
theorem c_X0_warmSet (fr lo fa ki mo : Nat → Int32) (pe sty wset wfor law lent : Int32) (on was sat stood rose firsts waits till sitter names : Nat → Int32) (satOn risen : Int32) (nc : Nat) (codes ends stk : Nat → Int32) (m : Int32) (C : Nat) (hC : C ≤ 6) : Co M_X0_warmSet 1 0 0 [.ref 0, .int m] (wEv fr lo fa ki mo pe (nI C) sty wset wfor law lent on was sat stood rose firsts waits till sitter names satOn risen nc codes ends stk) (Qi (setOf (fun c => decide (eWarm ki till satOn c m)) C) (wEv fr lo fa ki mo pe (nI C) sty wset wfor law lent on was sat stood rose firsts waits till sitter names satOn risen nc codes ends stk)) := by
  refine Co.of ok_X0_warmSet rfl ?_
  refine ww_run 0 4 (pc' := 4) (lv' := [(3, .int 0), (2, .int 0), (0, .ref 0), (1, .int m)]) (st' := []) (w' := wEv fr lo fa ki mo pe (nI C) sty wset wfor law lent on was sat stood rose firsts waits till sitter names satOn risen nc codes ends stk) (Ps := []) rfl trivial ?_
  refine ww_lv [2, 3, 1, 0] (lv' := [(0, .ref 0), (1, .int m), (2, .int 0), (3, .int 0)]) rfl ?_
  refine l_X0_warmSet_4 (by omega) fr lo fa ki mo pe sty wset wfor law lent on was sat stood rose firsts waits till sitter names satOn risen nc codes ends stk m C hC ?_ (C + 1) 0 (by omega) (by omega)
  refine ww_run 22 1 (pc' := 37) (lv' := [(0, .ref 0), (1, .int m), (2, .int (setOf (fun c => decide (eWarm ki till satOn c m)) C)), (3, .int (nI C))]) (st' := [.int (setOf (fun c => decide (eWarm ki till satOn c m)) C)]) (w' := wEv fr lo fa ki mo pe (nI C) sty wset wfor law lent on was sat stood rose firsts waits till sitter names satOn risen nc codes ends stk) (Ps := []) rfl trivial ?_
  refine ww_iret 23 rfl rfl ?_
  exact ⟨rfl, rfl⟩
