/-- the reference: who sits where: on, was, sitter, turn -/
abbrev MT : Type := (Nat → Int32) × (Nat → Int32) × (Nat → Int32) × (Nat → Int32)
def mNext (P : Nat) (s : MT) : Option Nat := bestOf (fun p => decide (¬ s.2.2.2 p = -1)) (fun p b => decide (s.2.2.2 p < s.2.2.2 b)) P
def mTake (C : Nat) (ki mo till : Nat → Int32) (lent sty m : Int32) (s : MT) : Option Nat := bestOf (fun c => decide (mFree C ki mo till s.2.2.1 lent c m)) (fun c b => decide (eAhead sty till c b)) C
def mSeat (s : MT) (p : Nat) (c : Option Nat) : MT := match c with
  | none => (s.1, s.2.1, s.2.2.1, upd s.2.2.2 p (-1))
  | some c => (upd s.1 p (nI c), upd s.2.1 p (nI c), upd s.2.2.1 c (nI p), upd s.2.2.2 p (-1))
def mSeatN (P C : Nat) (ki mo till : Nat → Int32) (lent sty m : Int32) : Nat → MT → MT
  | 0, s => s
  | n + 1, s => match mNext P s with
    | none => s
    | some p => mSeatN P C ki mo till lent sty m n (mSeat s p (mTake C ki mo till lent sty m s))
/-- how many of the first n have a turn -/
def turns (turn : Nat → Int32) : Nat → Nat
  | 0 => 0
  | n + 1 => turns turn n + (if turn n = -1 then 0 else 1)
theorem turns_le (turn : Nat → Int32) : ∀ n, turns turn n ≤ n
  | 0 => Nat.le_refl 0
  | n + 1 => by
    have := turns_le turn n
    unfold turns
    split <;> omega
theorem turns_upd (turn : Nat → Int32) (p : Nat) : ∀ n, turns (upd turn p (-1)) n ≤ turns turn n ∧ (p < n → ¬ turn p = -1 → turns (upd turn p (-1)) n + 1 ≤ turns turn n)
  | 0 => ⟨Nat.le_refl 0, fun h => absurd h (Nat.not_lt_zero p)⟩
  | n + 1 => by
    have ih := turns_upd turn p n
    simp only [turns, upd]
    by_cases hp : n = p
    · subst hp
      simp only [if_true]
      refine ⟨by split <;> omega, fun _ h => ?_⟩
      rw [if_neg h]
      omega
    · simp only [if_neg hp]
      refine ⟨by omega, fun h1 h2 => ?_⟩
      have := ih.2 (by omega) h2
      omega
theorem bestOf_may {may : Nat → Bool} {ahead : Nat → Nat → Bool} {n b : Nat} (h : bestOf may ahead n = some b) : may b = true :=
  (bestOf_congr (m1 := may) (m2 := may) (a1 := ahead) (a2 := ahead) (fun _ _ => rfl) (fun _ _ _ _ _ _ => rfl)).2 b h
theorem bestOf_none {may : Nat → Bool} {ahead : Nat → Nat → Bool} : ∀ {n : Nat}, (∀ q, q < n → may q = false) → bestOf may ahead n = none
  | 0, _ => rfl
  | n + 1, h => bestOf_nn (bestOf_none (fun q hq => h q (by omega))) (h n (by omega))
theorem turns_0 {turn : Nat → Int32} : ∀ {n : Nat}, turns turn n = 0 → ∀ q, q < n → turn q = -1
  | 0, _, q, hq => absurd hq (Nat.not_lt_zero q)
  | n + 1, h, q, hq => by
    unfold turns at h
    split at h
    · next h1 =>
      by_cases e : q = n
      · rw [e]; exact h1
      · exact turns_0 (n := n) (by omega) q (by omega)
    · omega
set_option maxHeartbeats 4000000 in
set_option maxRecDepth 100000 in
theorem l_X7_sitsDown_70 {Q : Option Value → List va_E → Prop} {d : Nat} (hd : 5 ≤ d) (wi ki mo cd sr stk names till sat stood rose : Nat → Int32) (ru lent : Int32) (J : Nat → Int32) (K : Nat → Nat → Int32) (sty wset wfor : Int32) (P C : Nat) (hP : P ≤ 5) (hC : C ≤ 6) (m : Int32) :
    ∀ (n : Nat) (s : MT), turns s.2.2.2 P ≤ n → Q none (wMv wi ki mo (hoF sty wset wfor) cd sr stk names till ((mSeatN P C ki mo till lent sty m n s).2.2.1) ((mSeatN P C ki mo till lent sty m n s).1) ((mSeatN P C ki mo till lent sty m n s).2.1) sat stood rose ((mSeatN P C ki mo till lent sty m n s).2.2.2) (nI P) (nI C) ru lent J K) → WW M_X7_sitsDown d Q xz 70 [(0, .ref 0), (1, .int m), (2, .int (o2i (mNext P s)))] [] (wMv wi ki mo (hoF sty wset wfor) cd sr stk names till s.2.2.1 s.1 s.2.1 sat stood rose s.2.2.2 (nI P) (nI C) ru lent J K) := by
  intro n
  induction n using Nat.strongRecOn with
  | ind n ih =>
    intro s hn hQ
    rcases hb : mNext P s with _ | p
    · skip
      refine ww_run 44 2 (pc' := 72) (lv' := [(0, .ref 0), (1, .int m), (2, .int (-1))]) (st' := [.int (-1), .int (-1)]) (w' := wMv wi ki mo (hoF sty wset wfor) cd sr stk names till s.2.2.1 s.1 s.2.1 sat stood rose s.2.2.2 (nI P) (nI C) ru lent J K) (Ps := []) rfl trivial ?_
      refine ww_icmp_eq 46 rfl (tgt := 122) rfl (fun c1 => ?_) (fun c1 => ?_)
      · refine ww_vret 78 rfl rfl ?_
        have e1 : mSeatN P C ki mo till lent sty m n s = s := by
          cases n with
          | zero => rfl
          | succ n => simp only [mSeatN, hb]
        rw [e1] at hQ
        exact hQ
      · exact absurd c1 (by decide)
    · have hpl : p < P := bestOf_lt hb
      have hpt : ¬ s.2.2.2 p = -1 := of_decide_eq_true (bestOf_may hb)
      refine ww_run 44 2 (pc' := 72) (lv' := [(0, .ref 0), (1, .int m), (2, .int (nI p))]) (st' := [.int (-1), .int (nI p)]) (w' := wMv wi ki mo (hoF sty wset wfor) cd sr stk names till s.2.2.1 s.1 s.2.1 sat stood rose s.2.2.2 (nI P) (nI C) ru lent J K) (Ps := []) rfl trivial ?_
      refine ww_icmp_eq 46 rfl (tgt := 122) rfl (fun c2 => ?_) (fun c2 => ?_)
      · exact absurd c2 (nI_ne_m1 (by omega))
      · refine ww_run 47 2 (pc' := 77) (lv' := [(0, .ref 0), (1, .int m), (2, .int (nI p))]) (st' := [.int m, .ref 0]) (w' := wMv wi ki mo (hoF sty wset wfor) cd sr stk names till s.2.2.1 s.1 s.2.1 sat stood rose s.2.2.2 (nI P) (nI C) ru lent J K) (Ps := []) rfl trivial ?_
        refine ww_cVi 49 ok_X7_takes (c_X7_takes wi ki mo cd sr stk names till s.2.2.1 s.1 s.2.1 sat stood rose s.2.2.2 (nI P) ru lent J K sty wset wfor m C hC) lk_X7_223 rfl (by omega) (rest := []) rfl (Nat.le_of_ble_eq_true rfl) rfl rfl rfl rfl ?_
        refine ww_run 50 1 (pc' := 81) (lv' := [(3, .int (o2i (mTake C ki mo till lent sty m s))), (0, .ref 0), (1, .int m), (2, .int (nI p))]) (st' := []) (w' := wMv wi ki mo (hoF sty wset wfor) cd sr stk names till s.2.2.1 s.1 s.2.1 sat stood rose s.2.2.2 (nI P) (nI C) ru lent J K) (Ps := []) rfl trivial ?_
        rcases hb2 : mTake C ki mo till lent sty m s with _ | c
        · skip
          refine ww_run 51 2 (pc' := 83) (lv' := [(3, .int (-1)), (0, .ref 0), (1, .int m), (2, .int (nI p))]) (st' := [.int (-1), .int (-1)]) (w' := wMv wi ki mo (hoF sty wset wfor) cd sr stk names till s.2.2.1 s.1 s.2.1 sat stood rose s.2.2.2 (nI P) (nI C) ru lent J K) (Ps := []) rfl trivial ?_
          refine ww_icmp_eq 53 rfl (tgt := 107) rfl (fun c3 => ?_) (fun c3 => ?_)
          · refine ww_run 69 6 (pc' := 115) (lv' := [(3, .int (-1)), (0, .ref 0), (1, .int m), (2, .int (nI p))]) (st' := [.ref 0]) (w' := wMv wi ki mo (hoF sty wset wfor) cd sr stk names till s.2.2.1 s.1 s.2.1 sat stood rose (upd s.2.2.2 ((nI p).toNatClampNeg) (-1)) (nI P) (nI C) ru lent J K) (Ps := [vp_in (nI p) 5]) rfl ⟨(vp_in_nI (by omega) (by omega)), trivial⟩ ?_
            rw [nI_clamp (n := p) (by omega)]
            refine ww_cVi 75 ok_X7_nextOne (c_X7_nextOne wi ki mo (hoF sty wset wfor) cd sr stk names till s.2.2.1 s.1 s.2.1 sat stood rose (upd s.2.2.2 (p) (-1)) (nI C) ru lent J K P hP) lk_X7_220 rfl (by omega) (rest := []) rfl (Nat.le_of_ble_eq_true rfl) rfl rfl rfl rfl ?_
            refine ww_run 76 2 (pc' := 70) (lv' := [(2, .int (o2i (mNext P (mSeat s p none)))), (3, .int (-1)), (0, .ref 0), (1, .int m)]) (st' := []) (w' := wMv wi ki mo (hoF sty wset wfor) cd sr stk names till s.2.2.1 s.1 s.2.1 sat stood rose (upd s.2.2.2 (p) (-1)) (nI P) (nI C) ru lent J K) (Ps := []) rfl trivial ?_
            refine ww_lv [2, 3, 0] (lv' := [(0, .ref 0), (1, .int m), (2, .int (o2i (mNext P (mSeat s p none))))]) rfl ?_
            cases n with
            | zero =>
              exact absurd (turns_0 (n := P) (by omega) p hpl) hpt
            | succ n =>
              refine ih n (Nat.lt_succ_self n) (mSeat s p none) ?_ ?_
              · have := (turns_upd s.2.2.2 p P).2 hpl hpt
                show turns (upd s.2.2.2 p (-1)) P ≤ n
                omega
              · simp only [mSeatN, hb, hb2] at hQ
                exact hQ
          · exact absurd c3 (by decide)
        · have hcl : c < C := bestOf_lt hb2
          refine ww_run 51 2 (pc' := 83) (lv' := [(3, .int (nI c)), (0, .ref 0), (1, .int m), (2, .int (nI p))]) (st' := [.int (-1), .int (nI c)]) (w' := wMv wi ki mo (hoF sty wset wfor) cd sr stk names till s.2.2.1 s.1 s.2.1 sat stood rose s.2.2.2 (nI P) (nI C) ru lent J K) (Ps := []) rfl trivial ?_
          refine ww_icmp_eq 53 rfl (tgt := 107) rfl (fun c4 => ?_) (fun c4 => ?_)
          · exact absurd c4 (nI_ne_m1 (by omega))
          · refine ww_run 54 21 (pc' := 115) (lv' := [(3, .int (nI c)), (0, .ref 0), (1, .int m), (2, .int (nI p))]) (st' := [.ref 0]) (w' := wMv wi ki mo (hoF sty wset wfor) cd sr stk names till (upd s.2.2.1 ((nI c).toNatClampNeg) (nI p)) (upd s.1 ((nI p).toNatClampNeg) (nI c)) (upd s.2.1 ((nI p).toNatClampNeg) (nI c)) sat stood rose (upd s.2.2.2 ((nI p).toNatClampNeg) (-1)) (nI P) (nI C) ru lent J K) (Ps := [vp_in (nI c) 6, vp_in (nI p) 5, vp_in (nI p) 5, vp_in (nI p) 5]) rfl ⟨(vp_in_nI (by omega) (by omega)), (vp_in_nI (by omega) (by omega)), (vp_in_nI (by omega) (by omega)), (vp_in_nI (by omega) (by omega)), trivial⟩ ?_
            rw [nI_clamp (n := c) (by omega)]
            rw [nI_clamp (n := p) (by omega)]
            refine ww_cVi 75 ok_X7_nextOne (c_X7_nextOne wi ki mo (hoF sty wset wfor) cd sr stk names till (upd s.2.2.1 (c) (nI p)) (upd s.1 (p) (nI c)) (upd s.2.1 (p) (nI c)) sat stood rose (upd s.2.2.2 (p) (-1)) (nI C) ru lent J K P hP) lk_X7_220 rfl (by omega) (rest := []) rfl (Nat.le_of_ble_eq_true rfl) rfl rfl rfl rfl ?_
            refine ww_run 76 2 (pc' := 70) (lv' := [(2, .int (o2i (mNext P (mSeat s p (some c))))), (3, .int (nI c)), (0, .ref 0), (1, .int m)]) (st' := []) (w' := wMv wi ki mo (hoF sty wset wfor) cd sr stk names till (upd s.2.2.1 (c) (nI p)) (upd s.1 (p) (nI c)) (upd s.2.1 (p) (nI c)) sat stood rose (upd s.2.2.2 (p) (-1)) (nI P) (nI C) ru lent J K) (Ps := []) rfl trivial ?_
            refine ww_lv [2, 3, 0] (lv' := [(0, .ref 0), (1, .int m), (2, .int (o2i (mNext P (mSeat s p (some c)))))]) rfl ?_
            cases n with
            | zero =>
              exact absurd (turns_0 (n := P) (by omega) p hpl) hpt
            | succ n =>
              refine ih n (Nat.lt_succ_self n) (mSeat s p (some c)) ?_ ?_
              · have := (turns_upd s.2.2.2 p P).2 hpl hpt
                show turns (upd s.2.2.2 p (-1)) P ≤ n
                omega
              · simp only [mSeatN, hb, hb2] at hQ
                exact hQ
