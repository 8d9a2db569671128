/-- who has a turn, and when -/
def turnF (fr fa on sat stood rose : Nat → Int32) (say : Nat → (Nat → Int32) → Int32) (m : Int32) : Nat → Int32 := fun q => if mWants fr on rose q m then eFirst fa sat stood say q m else -1
set_option maxHeartbeats 4000000 in
set_option maxRecDepth 100000 in
theorem l_X7_sitsDown_2 {Q : Option Value → List va_E → Prop} {d : Nat} (hd : 5 ≤ d) (ki mo cd sr till sitter on was sat stood rose turn : Nat → Int32) (lent : Int32) (J : Nat → Int32) (K : Nat → Nat → Int32) (fr lo fa : Nat → Int32) (sty wset wfor : Int32) (P C k : Nat) (e : Nat → Nat) (hP : P ≤ 5) (hC : C ≤ 6) (hL : MLX cd sr k e) (m : Int32) (KK : ∀ (names stk : Nat → Int32), WW M_X7_sitsDown d Q xz 65 [(0, .ref 0), (1, .int m), (2, .int (nI P))] [] (wMv (wiF fr lo fa) ki mo (hoF sty wset wfor) cd sr stk names till sitter on was sat stood rose (mixF turn (turnF fr fa on sat stood rose (sayM cd k e) m) P) (nI P) (nI C) (nI k) lent J K)) :
    ∀ (n i : Nat) (names stk : Nat → Int32), i ≤ P → P + 1 ≤ i + n → WW M_X7_sitsDown d Q xz 2 [(0, .ref 0), (1, .int m), (2, .int (nI i))] [] (wMv (wiF fr lo fa) ki mo (hoF sty wset wfor) cd sr stk names till sitter on was sat stood rose (mixF turn (turnF fr fa on sat stood rose (sayM cd k e) m) i) (nI P) (nI C) (nI k) lent J K) := by
  intro n
  induction n with
  | zero => intro i; intros; omega
  | succ n ih =>
    intro i names stk hi hn
    refine ww_run 2 3 (pc' := 7) (lv' := [(0, .ref 0), (1, .int m), (2, .int (nI i))]) (st' := [.int (nI P), .int (nI i)]) (w' := wMv (wiF fr lo fa) ki mo (hoF sty wset wfor) cd sr stk names till sitter on was sat stood rose (mixF turn (turnF fr fa on sat stood rose (sayM cd k e) m) i) (nI P) (nI C) (nI k) lent J K) (Ps := []) rfl trivial ?_
    refine ww_icmp_ge 5 rfl (tgt := 65) rfl (fun c1 => ?_) (fun c1 => ?_)
    · have c1 : P ≤ i := (nI_leI (a := P) (b := i) (by omega) (by omega)).mp c1
      obtain rfl : i = P := by omega
      exact KK names stk
    · have c1 : ¬ P ≤ i := fun q => c1 ((nI_leI (a := P) (b := i) (by omega) (by omega)).mpr q)
      refine ww_run 6 6 (pc' := 18) (lv' := [(0, .ref 0), (1, .int m), (2, .int (nI i))]) (st' := [.int m, .int (nI i), .ref 0, .int (nI i), .ref 26]) (w' := wMv (wiF fr lo fa) ki mo (hoF sty wset wfor) cd sr stk names till sitter on was sat stood rose (mixF turn (turnF fr fa on sat stood rose (sayM cd k e) m) i) (nI P) (nI C) (nI k) lent J K) (Ps := []) rfl trivial ?_
      refine ww_cVi 12 ok_X7_wants (c_X7_wants ki mo (hoF sty wset wfor) cd sr stk names till sitter on was sat stood rose (mixF turn (turnF fr fa on sat stood rose (sayM cd k e) m) i) (nI P) (nI C) (nI k) lent J K fr lo fa i m (by omega)) lk_X7_217 rfl (by omega) (rest := [.int (nI i), .ref 26]) rfl (Nat.le_of_ble_eq_true rfl) rfl rfl rfl rfl ?_
      refine ww_if_eq 13 rfl (tgt := 57) rfl (fun c2 => ?_) (fun c2 => ?_)
      · rw [b2i_eq0] at c2
        refine ww_run 37 4 (pc' := 2) (lv' := [(2, .int ((nI i) + 1)), (0, .ref 0), (1, .int m)]) (st' := []) (w' := wMv (wiF fr lo fa) ki mo (hoF sty wset wfor) cd sr stk names till sitter on was sat stood rose (upd (mixF turn (turnF fr fa on sat stood rose (sayM cd k e) m) i) ((nI i).toNatClampNeg) (-1)) (nI P) (nI C) (nI k) lent J K) (Ps := [vp_in (nI i) 5]) rfl ⟨(vp_in_nI (by omega) (by omega)), trivial⟩ ?_
        rw [nI_clamp (n := i) (by omega)]
        rw [nI_1 i]
        refine ww_lv [1, 2, 0] (lv' := [(0, .ref 0), (1, .int m), (2, .int (nI (i + 1)))]) rfl ?_
        rw [mixF_s (g := turnF fr fa on sat stood rose (sayM cd k e) m) (by unfold turnF; rw [if_neg c2])]
        exact ih (i + 1) _ _ (by omega) (by omega)
      · rw [b2i_ne0] at c2
        refine ww_run 14 21 (pc' := 51) (lv' := [(0, .ref 0), (1, .int m), (2, .int (nI i))]) (st' := [.int (nI i), .int m, .int (stood (nI i).toNatClampNeg), .int (sat (nI i).toNatClampNeg), .int 0, .int ((wiF fr lo fa) ((3 * (nI i)) + 2).toNatClampNeg), .int 1, .ref 0, .int (nI i), .ref 26]) (w' := wMv (wiF fr lo fa) ki mo (hoF sty wset wfor) cd sr stk names till sitter on was sat stood rose (mixF turn (turnF fr fa on sat stood rose (sayM cd k e) m) i) (nI P) (nI C) (nI k) lent J K) (Ps := [vp_in ((3 * (nI i)) + 2) 15, vp_in (nI i) 5, vp_in (nI i) 5]) rfl ⟨(by rw [show (3 : Int32) * nI i = nI (3 * i) from pk_mul 3 i, show nI (3 * i) + (2 : Int32) = nI ((3 * i) + 2) from nI_add (3 * i) 2]; exact vp_in_nI (by omega) (by omega)), (vp_in_nI (by omega) (by omega)), (vp_in_nI (by omega) (by omega)), trivial⟩ ?_
        rw [nI_clamp (n := i) (by omega)]
        rw [show (3 : Int32) * nI i = nI (3 * i) from pk_mul 3 i]
        rw [show nI (3 * i) + (2 : Int32) = nI ((3 * i) + 2) from nI_add (3 * i) 2]
        rw [nI_clamp (n := (3 * i + 2)) (by omega)]
        rw [wi2]
        refine ww_cV 35 (b := 0) (av := [.int 1, .int (fa i), .int 0, .int (sat i), .int (stood i), .int m, .int (nI i)]) ok_X7_asksOf (c_X7_asksOf (wiF fr lo fa) ki mo (hoF sty wset wfor) cd sr stk names till sitter on was sat stood rose (mixF turn (turnF fr fa on sat stood rose (sayM cd k e) m) i) (nI P) (nI C) lent J K k 1 e (by omega) hL (fa i) 0 (sat i) (stood i) m (nI i)) lk_X7_194 rfl (by omega) (rest := [.int (nI i), .ref 26]) rfl (Nat.le_of_ble_eq_true rfl) rfl rfl rfl rfl (fun r w' hq => ?_)
        obtain ⟨rfl, names2, stk2, rfl⟩ := hq
        refine ww_run 36 1 (pc' := 58) (lv' := [(0, .ref 0), (1, .int m), (2, .int (nI i))]) (st' := [.int (sayM cd k e 1 (nm6 (fa i) 0 (sat i) (stood i) m (nI i))), .int (nI i), .ref 26]) (w' := wMv (wiF fr lo fa) ki mo (hoF sty wset wfor) cd sr stk2 names2 till sitter on was sat stood rose (mixF turn (turnF fr fa on sat stood rose (sayM cd k e) m) i) (nI P) (nI C) (nI k) lent J K) (Ps := []) rfl trivial ?_
        refine ww_run 38 3 (pc' := 2) (lv' := [(2, .int ((nI i) + 1)), (0, .ref 0), (1, .int m)]) (st' := []) (w' := wMv (wiF fr lo fa) ki mo (hoF sty wset wfor) cd sr stk2 names2 till sitter on was sat stood rose (upd (mixF turn (turnF fr fa on sat stood rose (sayM cd k e) m) i) ((nI i).toNatClampNeg) (sayM cd k e 1 (nm6 (fa i) 0 (sat i) (stood i) m (nI i)))) (nI P) (nI C) (nI k) lent J K) (Ps := [vp_in (nI i) 5]) rfl ⟨(vp_in_nI (by omega) (by omega)), trivial⟩ ?_
        rw [nI_clamp (n := i) (by omega)]
        rw [nI_1 i]
        refine ww_lv [1, 2, 0] (lv' := [(0, .ref 0), (1, .int m), (2, .int (nI (i + 1)))]) rfl ?_
        rw [mixF_s (g := turnF fr fa on sat stood rose (sayM cd k e) m) (by unfold turnF; rw [if_pos c2]; rfl)]
        exact ih (i + 1) _ _ (by omega) (by omega)
set_option maxHeartbeats 4000000 in
set_option maxRecDepth 100000 in
theorem c_X7_sitsDown (ki mo cd sr stk names till sitter on was sat stood rose turn : Nat → Int32) (lent : Int32) (J : Nat → Int32) (K : Nat → Nat → Int32) (fr lo fa : Nat → Int32) (sty wset wfor : Int32) (P C k : Nat) (e : Nat → Nat) (hP : P ≤ 5) (hC : C ≤ 6) (hL : MLX cd sr k e) (m : Int32) : Co M_X7_sitsDown 5 0 0 [.ref 0, .int m] (wMv (wiF fr lo fa) ki mo (hoF sty wset wfor) cd sr stk names till sitter on was sat stood rose turn (nI P) (nI C) (nI k) lent J K) (fun r w' => r = none ∧ ∃ names' stk', w' = wMv (wiF fr lo fa) ki mo (hoF sty wset wfor) cd sr stk' names' till ((mSeatN P C ki mo till lent sty m P (on, was, sitter, mixF turn (turnF fr fa on sat stood rose (sayM cd k e) m) P)).2.2.1) ((mSeatN P C ki mo till lent sty m P (on, was, sitter, mixF turn (turnF fr fa on sat stood rose (sayM cd k e) m) P)).1) ((mSeatN P C ki mo till lent sty m P (on, was, sitter, mixF turn (turnF fr fa on sat stood rose (sayM cd k e) m) P)).2.1) sat stood rose ((mSeatN P C ki mo till lent sty m P (on, was, sitter, mixF turn (turnF fr fa on sat stood rose (sayM cd k e) m) P)).2.2.2) (nI P) (nI C) (nI k) lent J K) := by
  generalize hQQ : (fun r w' => r = none ∧ ∃ names' stk', w' = wMv (wiF fr lo fa) ki mo (hoF sty wset wfor) cd sr stk' names' till ((mSeatN P C ki mo till lent sty m P (on, was, sitter, mixF turn (turnF fr fa on sat stood rose (sayM cd k e) m) P)).2.2.1) ((mSeatN P C ki mo till lent sty m P (on, was, sitter, mixF turn (turnF fr fa on sat stood rose (sayM cd k e) m) P)).1) ((mSeatN P C ki mo till lent sty m P (on, was, sitter, mixF turn (turnF fr fa on sat stood rose (sayM cd k e) m) P)).2.1) sat stood rose ((mSeatN P C ki mo till lent sty m P (on, was, sitter, mixF turn (turnF fr fa on sat stood rose (sayM cd k e) m) P)).2.2.2) (nI P) (nI C) (nI k) lent J K) = QQ
  refine Co.of ok_X7_sitsDown rfl ?_
  refine ww_run 0 2 (pc' := 2) (lv' := [(2, .int 0), (0, .ref 0), (1, .int m)]) (st' := []) (w' := wMv (wiF fr lo fa) ki mo (hoF sty wset wfor) cd sr stk names till sitter on was sat stood rose turn (nI P) (nI C) (nI k) lent J K) (Ps := []) rfl trivial ?_
  refine ww_lv [1, 2, 0] (lv' := [(0, .ref 0), (1, .int m), (2, .int 0)]) rfl ?_
  have h0 := l_X7_sitsDown_2 (Q := QQ) (d := 5) (by omega) ki mo cd sr till sitter on was sat stood rose turn lent J K fr lo fa sty wset wfor P C k e hP hC hL m (fun names1 stk1 => ?_) (P + 1) 0 names stk (by omega) (by omega)
  · rw [mixF_0] at h0
    exact h0
  refine ww_run 41 1 (pc' := 66) (lv' := [(0, .ref 0), (1, .int m), (2, .int (nI P))]) (st' := [.ref 0]) (w' := wMv (wiF fr lo fa) ki mo (hoF sty wset wfor) cd sr stk1 names1 till sitter on was sat stood rose (mixF turn (turnF fr fa on sat stood rose (sayM cd k e) m) P) (nI P) (nI C) (nI k) lent J K) (Ps := []) rfl trivial ?_
  refine ww_cVi 42 ok_X7_nextOne (c_X7_nextOne (wiF fr lo fa) ki mo (hoF sty wset wfor) cd sr stk1 names1 till sitter on was sat stood rose (mixF turn (turnF fr fa on sat stood rose (sayM cd k e) m) P) (nI C) (nI k) lent J K P hP) lk_X7_220 rfl (by omega) (rest := []) rfl (Nat.le_of_ble_eq_true rfl) rfl rfl rfl rfl ?_
  refine ww_run 43 1 (pc' := 70) (lv' := [(2, .int (o2i (mNext P (on, was, sitter, mixF turn (turnF fr fa on sat stood rose (sayM cd k e) m) P)))), (0, .ref 0), (1, .int m)]) (st' := []) (w' := wMv (wiF fr lo fa) ki mo (hoF sty wset wfor) cd sr stk1 names1 till sitter on was sat stood rose (mixF turn (turnF fr fa on sat stood rose (sayM cd k e) m) P) (nI P) (nI C) (nI k) lent J K) (Ps := []) rfl trivial ?_
  refine ww_lv [1, 2, 0] (lv' := [(0, .ref 0), (1, .int m), (2, .int (o2i (mNext P (on, was, sitter, mixF turn (turnF fr fa on sat stood rose (sayM cd k e) m) P))))]) rfl ?_
  refine l_X7_sitsDown_70 (by omega) (wiF fr lo fa) ki mo cd sr stk1 names1 till sat stood rose (nI k) lent J K sty wset wfor P C hP hC m P (on, was, sitter, mixF turn (turnF fr fa on sat stood rose (sayM cd k e) m) P) (turns_le _ P) ?_
  rw [← hQQ]
  exact ⟨rfl, names1, stk1, rfl⟩
