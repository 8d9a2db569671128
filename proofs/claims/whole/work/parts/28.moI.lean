theorem mNext_any {P : Nat} {s t : MT} (h : ∀ q, q < P → s.2.2.2 q = t.2.2.2 q) : mNext P s = mNext P t := by
  unfold mNext
  exact (bestOf_congr (fun q hq => by simp only [h q hq]) (fun p q hp hq _ _ => by simp only [h p hp, h q hq])).1
theorem mSeatN_any {P C : Nat} {ki mo till : Nat → Int32} {lent sty m : Int32} : ∀ (n : Nat) (s t : MT), s.1 = t.1 → s.2.1 = t.2.1 → s.2.2.1 = t.2.2.1 → (∀ q, q < P → s.2.2.2 q = t.2.2.2 q) →
    (mSeatN P C ki mo till lent sty m n s).1 = (mSeatN P C ki mo till lent sty m n t).1 ∧ (mSeatN P C ki mo till lent sty m n s).2.1 = (mSeatN P C ki mo till lent sty m n t).2.1 ∧ (mSeatN P C ki mo till lent sty m n s).2.2.1 = (mSeatN P C ki mo till lent sty m n t).2.2.1
  | 0, s, t, h1, h2, h3, _ => ⟨h1, h2, h3⟩
  | n + 1, s, t, h1, h2, h3, h4 => by
    have e1 := mNext_any h4
    have e2 : mTake C ki mo till lent sty m s = mTake C ki mo till lent sty m t := by unfold mTake; rw [h3]
    cases hb : mNext P s with
    | none =>
      rw [hb] at e1
      simp only [mSeatN, hb, ← e1]
      exact ⟨h1, h2, h3⟩
    | some p =>
      rw [hb] at e1
      simp only [mSeatN, hb, ← e1, e2]
      refine mSeatN_any n _ _ ?_ ?_ ?_ ?_
      · unfold mSeat; split <;> simp only [h1]
      · unfold mSeat; split <;> simp only [h2]
      · unfold mSeat; split <;> simp only [h3]
      · intro q hq
        unfold mSeat
        split
        · simp only [upd]; split
          · rfl
          · exact h4 q hq
        · simp only [upd]; split
          · rfl
          · exact h4 q hq
def mSitS (P C : Nat) (fr ki mo fa : Nat → Int32) (say : Nat → (Nat → Int32) → Int32) (lent sty m : Int32) (s : MS) : MS :=
  let q := mSeatN P C ki mo s.2.2.2.2.2.1 lent sty m P (s.1, s.2.1, s.2.2.2.2.2.2, turnF fr fa s.1 s.2.2.1 s.2.2.2.1 s.2.2.2.2.1 say m)
  (q.1, q.2.1, s.2.2.1, s.2.2.2.1, s.2.2.2.2.1, s.2.2.2.2.2.1, q.2.2.1)
def mTickTo (fr : Nat → Int32) (m : Int32) (s : MS) : Nat → MS
  | 0 => s
  | i + 1 => ((mTickTo fr m s i).1, (mTickTo fr m s i).2.1, upd (mTickTo fr m s i).2.2.1 i ((mTickTo fr m s i).2.2.1 i + (if (mTickTo fr m s i).1 i = -1 then 0 else 1)), upd (mTickTo fr m s i).2.2.2.1 i ((mTickTo fr m s i).2.2.2.1 i + (if mWants fr (mTickTo fr m s i).1 (mTickTo fr m s i).2.2.2.2.1 i m then 1 else 0)), (mTickTo fr m s i).2.2.2.2)
def mMinute (P C : Nat) (fr lo fa ki mo : Nat → Int32) (say : Nat → (Nat → Int32) → Int32) (lent sty m : Int32) (s : MS) : MS :=
  mTickTo fr m (mSitS P C fr ki mo fa say lent sty m (mRiseTo ki mo fa lo say m s P)) P
def mLive (P C : Nat) (fr lo fa ki mo : Nat → Int32) (say : Nat → (Nat → Int32) → Int32) (lent sty : Int32) : Nat → Nat → MS → MS
  | 0, _, s => s
  | k + 1, i, s => mLive P C fr lo fa ki mo say lent sty k (i + 1) (mMinute P C fr lo fa ki mo say lent sty (nI i) s)
theorem mTickTo_on {fr : Nat → Int32} {m : Int32} {s : MS} : ∀ i, (mTickTo fr m s i).1 = s.1
  | 0 => rfl
  | i + 1 => mTickTo_on i
theorem mSeatN_on {P C : Nat} (hC : C ≤ 6) {ki mo till : Nat → Int32} {lent sty m : Int32} : ∀ (n : Nat) (s : MT), onP P s.1 → onP P (mSeatN P C ki mo till lent sty m n s).1
  | 0, s, h => h
  | n + 1, s, h => by
    unfold mSeatN
    split
    · exact h
    · next p hs =>
      refine mSeatN_on hC n _ ?_
      unfold mSeat
      split
      · exact h
      · next c hc =>
        have : c < C := bestOf_lt hc
        exact onP_up h p (Or.inr ⟨c, by omega, rfl⟩)
theorem mMinute_on {P C : Nat} (hC : C ≤ 6) {fr lo fa ki mo : Nat → Int32} {say : Nat → (Nat → Int32) → Int32} {lent sty m : Int32} {s : MS} (h : onP P s.1) : onP P (mMinute P C fr lo fa ki mo say lent sty m s).1 := by
  unfold mMinute
  rw [mTickTo_on]
  exact mSeatN_on hC _ _ (mRiseTo_on h P)
def mStart (P C : Nat) (wset wfor : Int32) (s : MS) : MS := (mixF s.1 (fun _ => -1) P, mixF s.2.1 (fun _ => -1) P, mixF s.2.2.1 (fun _ => 0) P, mixF s.2.2.2.1 (fun _ => 0) P, mixF s.2.2.2.2.1 (fun _ => -1) P, mixF s.2.2.2.2.2.1 (tillS wset wfor) C, mixF s.2.2.2.2.2.2 (fun _ => -1) C)
theorem mStart_on (P C : Nat) (wset wfor : Int32) (s : MS) : onP P (mStart P C wset wfor s).1 := fun q hq => Or.inl (by simp [mStart, mixF, hq])
set_option maxHeartbeats 4000000 in
set_option maxRecDepth 100000 in
theorem l_X7_lives_23 {Q : Option Value → List va_E → Prop} {d : Nat} (hd : 6 ≤ d) (ki mo cd sr stk names turn : Nat → Int32) (lent : Int32) (J : Nat → Int32) (K : Nat → Nat → Int32) (fr lo fa : Nat → Int32) (sty wset wfor : Int32) (P C k : Nat) (e : Nat → Nat) (hP : P ≤ 5) (hC : C ≤ 6) (hL : MLX cd sr k e) (nn m : Int32) (s : MS) (KK : WW M_X7_lives d Q xz 84 [(0, .ref 0), (1, .int nn), (2, .int m), (3, .int (nI P))] [] (wMv (wiF fr lo fa) ki mo (hoF sty wset wfor) cd sr stk names ((mTickTo fr m s P).2.2.2.2.2.1) ((mTickTo fr m s P).2.2.2.2.2.2) ((mTickTo fr m s P).1) ((mTickTo fr m s P).2.1) ((mTickTo fr m s P).2.2.1) ((mTickTo fr m s P).2.2.2.1) ((mTickTo fr m s P).2.2.2.2.1) turn (nI P) (nI C) (nI k) lent J K)) :
    ∀ (n i : Nat) (t : MS), i ≤ P → P + 1 ≤ i + n → t = mTickTo fr m s i → WW M_X7_lives d Q xz 23 [(0, .ref 0), (1, .int nn), (2, .int m), (3, .int (nI i))] [] (wMv (wiF fr lo fa) ki mo (hoF sty wset wfor) cd sr stk names t.2.2.2.2.2.1 t.2.2.2.2.2.2 t.1 t.2.1 t.2.2.1 t.2.2.2.1 t.2.2.2.2.1 turn (nI P) (nI C) (nI k) lent J K) := by
  intro n
  induction n with
  | zero => intro i; intros; omega
  | succ n ih =>
    intro i t hi hn ht
    refine ww_run 15 3 (pc' := 28) (lv' := [(0, .ref 0), (1, .int nn), (2, .int m), (3, .int (nI i))]) (st' := [.int (nI P), .int (nI i)]) (w' := wMv (wiF fr lo fa) ki mo (hoF sty wset wfor) cd sr stk names t.2.2.2.2.2.1 t.2.2.2.2.2.2 t.1 t.2.1 t.2.2.1 t.2.2.2.1 t.2.2.2.2.1 turn (nI P) (nI C) (nI k) lent J K) (Ps := []) rfl trivial ?_
    refine ww_icmp_ge 18 rfl (tgt := 84) rfl (fun c1 => ?_) (fun c1 => ?_)
    · have c1 : P ≤ i := (nI_leI (a := P) (b := i) (by omega) (by omega)).mp c1
      obtain rfl : i = P := by omega
      subst ht
      exact KK
    · have c1 : ¬ P ≤ i := fun q => c1 ((nI_leI (a := P) (b := i) (by omega) (by omega)).mpr q)
      refine ww_run 19 10 (pc' := 45) (lv' := [(0, .ref 0), (1, .int nn), (2, .int m), (3, .int (nI i))]) (st' := [.int (-1), .int (t.1 (nI i).toNatClampNeg), .int (t.2.2.1 (nI i).toNatClampNeg), .int (nI i), .ref 23]) (w' := wMv (wiF fr lo fa) ki mo (hoF sty wset wfor) cd sr stk names t.2.2.2.2.2.1 t.2.2.2.2.2.2 t.1 t.2.1 t.2.2.1 t.2.2.2.1 t.2.2.2.2.1 turn (nI P) (nI C) (nI k) lent J K) (Ps := [vp_in (nI i) 5, vp_in (nI i) 5]) rfl ⟨(vp_in_nI (by omega) (by omega)), (vp_in_nI (by omega) (by omega)), trivial⟩ ?_
      rw [nI_clamp (n := i) (by omega)]
      refine ww_icmp_eq 29 rfl (tgt := 52) rfl (fun c2 => ?_) (fun c2 => ?_)
      · refine ww_run 32 11 (pc' := 65) (lv' := [(0, .ref 0), (1, .int nn), (2, .int m), (3, .int (nI i))]) (st' := [.int m, .int (nI i), .ref 0, .int (t.2.2.2.1 (nI i).toNatClampNeg), .int (nI i), .ref 24]) (w' := wMv (wiF fr lo fa) ki mo (hoF sty wset wfor) cd sr stk names t.2.2.2.2.2.1 t.2.2.2.2.2.2 t.1 t.2.1 (upd t.2.2.1 ((nI i).toNatClampNeg) ((t.2.2.1 i) + 0)) t.2.2.2.1 t.2.2.2.2.1 turn (nI P) (nI C) (nI k) lent J K) (Ps := [vp_in (nI i) 5, vp_in (nI i) 5]) rfl ⟨(vp_in_nI (by omega) (by omega)), (vp_in_nI (by omega) (by omega)), trivial⟩ ?_
        rw [nI_clamp (n := i) (by omega)]
        refine ww_cVi 43 ok_X7_wants (c_X7_wants ki mo (hoF sty wset wfor) cd sr stk names t.2.2.2.2.2.1 t.2.2.2.2.2.2 t.1 t.2.1 (upd t.2.2.1 (i) ((t.2.2.1 i) + 0)) t.2.2.2.1 t.2.2.2.2.1 turn (nI P) (nI C) (nI k) lent J K fr lo fa i m (by omega)) lk_X7_217 rfl (by omega) (rest := [.int (t.2.2.2.1 i), .int (nI i), .ref 24]) rfl (Nat.le_of_ble_eq_true rfl) rfl rfl rfl rfl ?_
        refine ww_if_eq 44 rfl (tgt := 75) rfl (fun c3 => ?_) (fun c3 => ?_)
        · rw [b2i_eq0] at c3
          refine ww_run 47 5 (pc' := 23) (lv' := [(3, .int ((nI i) + 1)), (0, .ref 0), (1, .int nn), (2, .int m)]) (st' := []) (w' := wMv (wiF fr lo fa) ki mo (hoF sty wset wfor) cd sr stk names t.2.2.2.2.2.1 t.2.2.2.2.2.2 t.1 t.2.1 (upd t.2.2.1 (i) ((t.2.2.1 i) + 0)) (upd t.2.2.2.1 ((nI i).toNatClampNeg) ((t.2.2.2.1 i) + 0)) t.2.2.2.2.1 turn (nI P) (nI C) (nI k) lent J K) (Ps := [vp_in (nI i) 5]) rfl ⟨(vp_in_nI (by omega) (by omega)), trivial⟩ ?_
          rw [nI_clamp (n := i) (by omega)]
          rw [nI_1 i]
          refine ww_lv [1, 2, 3, 0] (lv' := [(0, .ref 0), (1, .int nn), (2, .int m), (3, .int (nI (i + 1)))]) rfl ?_
          refine ih (i + 1) (t.1, t.2.1, upd t.2.2.1 i (t.2.2.1 i + 0), upd t.2.2.2.1 i (t.2.2.2.1 i + 0), t.2.2.2.2) (by omega) (by omega) ?_
          simp only [mTickTo]
          rw [← ht, if_pos c2, if_neg c3]
        · rw [b2i_ne0] at c3
          refine ww_run 45 2 (pc' := 76) (lv' := [(0, .ref 0), (1, .int nn), (2, .int m), (3, .int (nI i))]) (st' := [.int 1, .int (t.2.2.2.1 i), .int (nI i), .ref 24]) (w' := wMv (wiF fr lo fa) ki mo (hoF sty wset wfor) cd sr stk names t.2.2.2.2.2.1 t.2.2.2.2.2.2 t.1 t.2.1 (upd t.2.2.1 (i) ((t.2.2.1 i) + 0)) t.2.2.2.1 t.2.2.2.2.1 turn (nI P) (nI C) (nI k) lent J K) (Ps := []) rfl trivial ?_
          refine ww_run 48 4 (pc' := 23) (lv' := [(3, .int ((nI i) + 1)), (0, .ref 0), (1, .int nn), (2, .int m)]) (st' := []) (w' := wMv (wiF fr lo fa) ki mo (hoF sty wset wfor) cd sr stk names t.2.2.2.2.2.1 t.2.2.2.2.2.2 t.1 t.2.1 (upd t.2.2.1 (i) ((t.2.2.1 i) + 0)) (upd t.2.2.2.1 ((nI i).toNatClampNeg) ((t.2.2.2.1 i) + 1)) t.2.2.2.2.1 turn (nI P) (nI C) (nI k) lent J K) (Ps := [vp_in (nI i) 5]) rfl ⟨(vp_in_nI (by omega) (by omega)), trivial⟩ ?_
          rw [nI_clamp (n := i) (by omega)]
          rw [nI_1 i]
          refine ww_lv [1, 2, 3, 0] (lv' := [(0, .ref 0), (1, .int nn), (2, .int m), (3, .int (nI (i + 1)))]) rfl ?_
          refine ih (i + 1) (t.1, t.2.1, upd t.2.2.1 i (t.2.2.1 i + 0), upd t.2.2.2.1 i (t.2.2.2.1 i + 1), t.2.2.2.2) (by omega) (by omega) ?_
          simp only [mTickTo]
          rw [← ht, if_pos c2, if_pos c3]
      · refine ww_run 30 2 (pc' := 53) (lv' := [(0, .ref 0), (1, .int nn), (2, .int m), (3, .int (nI i))]) (st' := [.int 1, .int (t.2.2.1 i), .int (nI i), .ref 23]) (w' := wMv (wiF fr lo fa) ki mo (hoF sty wset wfor) cd sr stk names t.2.2.2.2.2.1 t.2.2.2.2.2.2 t.1 t.2.1 t.2.2.1 t.2.2.2.1 t.2.2.2.2.1 turn (nI P) (nI C) (nI k) lent J K) (Ps := []) rfl trivial ?_
        refine ww_run 33 10 (pc' := 65) (lv' := [(0, .ref 0), (1, .int nn), (2, .int m), (3, .int (nI i))]) (st' := [.int m, .int (nI i), .ref 0, .int (t.2.2.2.1 (nI i).toNatClampNeg), .int (nI i), .ref 24]) (w' := wMv (wiF fr lo fa) ki mo (hoF sty wset wfor) cd sr stk names t.2.2.2.2.2.1 t.2.2.2.2.2.2 t.1 t.2.1 (upd t.2.2.1 ((nI i).toNatClampNeg) ((t.2.2.1 i) + 1)) t.2.2.2.1 t.2.2.2.2.1 turn (nI P) (nI C) (nI k) lent J K) (Ps := [vp_in (nI i) 5, vp_in (nI i) 5]) rfl ⟨(vp_in_nI (by omega) (by omega)), (vp_in_nI (by omega) (by omega)), trivial⟩ ?_
        rw [nI_clamp (n := i) (by omega)]
        refine ww_cVi 43 ok_X7_wants (c_X7_wants ki mo (hoF sty wset wfor) cd sr stk names t.2.2.2.2.2.1 t.2.2.2.2.2.2 t.1 t.2.1 (upd t.2.2.1 (i) ((t.2.2.1 i) + 1)) t.2.2.2.1 t.2.2.2.2.1 turn (nI P) (nI C) (nI k) lent J K fr lo fa i m (by omega)) lk_X7_217 rfl (by omega) (rest := [.int (t.2.2.2.1 i), .int (nI i), .ref 24]) rfl (Nat.le_of_ble_eq_true rfl) rfl rfl rfl rfl ?_
        refine ww_if_eq 44 rfl (tgt := 75) rfl (fun c4 => ?_) (fun c4 => ?_)
        · rw [b2i_eq0] at c4
          refine ww_run 47 5 (pc' := 23) (lv' := [(3, .int ((nI i) + 1)), (0, .ref 0), (1, .int nn), (2, .int m)]) (st' := []) (w' := wMv (wiF fr lo fa) ki mo (hoF sty wset wfor) cd sr stk names t.2.2.2.2.2.1 t.2.2.2.2.2.2 t.1 t.2.1 (upd t.2.2.1 (i) ((t.2.2.1 i) + 1)) (upd t.2.2.2.1 ((nI i).toNatClampNeg) ((t.2.2.2.1 i) + 0)) t.2.2.2.2.1 turn (nI P) (nI C) (nI k) lent J K) (Ps := [vp_in (nI i) 5]) rfl ⟨(vp_in_nI (by omega) (by omega)), trivial⟩ ?_
          rw [nI_clamp (n := i) (by omega)]
          rw [nI_1 i]
          refine ww_lv [1, 2, 3, 0] (lv' := [(0, .ref 0), (1, .int nn), (2, .int m), (3, .int (nI (i + 1)))]) rfl ?_
          refine ih (i + 1) (t.1, t.2.1, upd t.2.2.1 i (t.2.2.1 i + 1), upd t.2.2.2.1 i (t.2.2.2.1 i + 0), t.2.2.2.2) (by omega) (by omega) ?_
          simp only [mTickTo]
          rw [← ht, if_neg c2, if_neg c4]
        · rw [b2i_ne0] at c4
          refine ww_run 45 2 (pc' := 76) (lv' := [(0, .ref 0), (1, .int nn), (2, .int m), (3, .int (nI i))]) (st' := [.int 1, .int (t.2.2.2.1 i), .int (nI i), .ref 24]) (w' := wMv (wiF fr lo fa) ki mo (hoF sty wset wfor) cd sr stk names t.2.2.2.2.2.1 t.2.2.2.2.2.2 t.1 t.2.1 (upd t.2.2.1 (i) ((t.2.2.1 i) + 1)) t.2.2.2.1 t.2.2.2.2.1 turn (nI P) (nI C) (nI k) lent J K) (Ps := []) rfl trivial ?_
          refine ww_run 48 4 (pc' := 23) (lv' := [(3, .int ((nI i) + 1)), (0, .ref 0), (1, .int nn), (2, .int m)]) (st' := []) (w' := wMv (wiF fr lo fa) ki mo (hoF sty wset wfor) cd sr stk names t.2.2.2.2.2.1 t.2.2.2.2.2.2 t.1 t.2.1 (upd t.2.2.1 (i) ((t.2.2.1 i) + 1)) (upd t.2.2.2.1 ((nI i).toNatClampNeg) ((t.2.2.2.1 i) + 1)) t.2.2.2.2.1 turn (nI P) (nI C) (nI k) lent J K) (Ps := [vp_in (nI i) 5]) rfl ⟨(vp_in_nI (by omega) (by omega)), trivial⟩ ?_
          rw [nI_clamp (n := i) (by omega)]
          rw [nI_1 i]
          refine ww_lv [1, 2, 3, 0] (lv' := [(0, .ref 0), (1, .int nn), (2, .int m), (3, .int (nI (i + 1)))]) rfl ?_
          refine ih (i + 1) (t.1, t.2.1, upd t.2.2.1 i (t.2.2.1 i + 1), upd t.2.2.2.1 i (t.2.2.2.1 i + 1), t.2.2.2.2) (by omega) (by omega) ?_
          simp only [mTickTo]
          rw [← ht, if_neg c2, if_pos c4]
set_option maxHeartbeats 4000000 in
set_option maxRecDepth 100000 in
theorem l_X7_lives_6 {Q : Option Value → List va_E → Prop} {d : Nat} (hd : 6 ≤ d) (ki mo cd sr : Nat → Int32) (lent : Int32) (J : Nat → Int32) (K : Nat → Nat → Int32) (fr lo fa : Nat → Int32) (sty wset wfor : Int32) (P C k : Nat) (e : Nat → Nat) (hP : P ≤ 5) (hC : C ≤ 6) (hL : MLX cd sr k e) (N : Nat) (hN : N ≤ 30) :
    ∀ (n i : Nat) (s : MS) (names stk turn : Nat → Int32), i ≤ N → N + 1 ≤ i + n → onP P s.1 → (∀ (names stk turn : Nat → Int32), Q none (wMv (wiF fr lo fa) ki mo (hoF sty wset wfor) cd sr stk names ((mLive P C fr lo fa ki mo (sayM cd k e) lent sty (N - i) i s).2.2.2.2.2.1) ((mLive P C fr lo fa ki mo (sayM cd k e) lent sty (N - i) i s).2.2.2.2.2.2) ((mLive P C fr lo fa ki mo (sayM cd k e) lent sty (N - i) i s).1) ((mLive P C fr lo fa ki mo (sayM cd k e) lent sty (N - i) i s).2.1) ((mLive P C fr lo fa ki mo (sayM cd k e) lent sty (N - i) i s).2.2.1) ((mLive P C fr lo fa ki mo (sayM cd k e) lent sty (N - i) i s).2.2.2.1) ((mLive P C fr lo fa ki mo (sayM cd k e) lent sty (N - i) i s).2.2.2.2.1) turn (nI P) (nI C) (nI k) lent J K)) → WW M_X7_lives d Q xz 6 [(0, .ref 0), (1, .int (nI N)), (2, .int (nI i))] [] (wMv (wiF fr lo fa) ki mo (hoF sty wset wfor) cd sr stk names s.2.2.2.2.2.1 s.2.2.2.2.2.2 s.1 s.2.1 s.2.2.1 s.2.2.2.1 s.2.2.2.2.1 turn (nI P) (nI C) (nI k) lent J K) := by
  intro n
  induction n with
  | zero => intro i; intros; omega
  | succ n ih =>
    intro i s names stk turn hi hn hon hQ
    refine ww_run 4 2 (pc' := 8) (lv' := [(0, .ref 0), (1, .int (nI N)), (2, .int (nI i))]) (st' := [.int (nI N), .int (nI i)]) (w' := wMv (wiF fr lo fa) ki mo (hoF sty wset wfor) cd sr stk names s.2.2.2.2.2.1 s.2.2.2.2.2.2 s.1 s.2.1 s.2.2.1 s.2.2.2.1 s.2.2.2.2.1 turn (nI P) (nI C) (nI k) lent J K) (Ps := []) rfl trivial ?_
    refine ww_icmp_ge 6 rfl (tgt := 90) rfl (fun c1 => ?_) (fun c1 => ?_)
    · have c1 : N ≤ i := (nI_leI (a := N) (b := i) (by omega) (by omega)).mp c1
      refine ww_vret 54 rfl rfl ?_
      obtain rfl : i = N := by omega
      rw [Nat.sub_self] at hQ
      exact hQ _ _ _
    · have c1 : ¬ N ≤ i := fun q => c1 ((nI_leI (a := N) (b := i) (by omega) (by omega)).mpr q)
      refine ww_run 7 2 (pc' := 13) (lv' := [(0, .ref 0), (1, .int (nI N)), (2, .int (nI i))]) (st' := [.int (nI i), .ref 0]) (w' := wMv (wiF fr lo fa) ki mo (hoF sty wset wfor) cd sr stk names s.2.2.2.2.2.1 s.2.2.2.2.2.2 s.1 s.2.1 s.2.2.1 s.2.2.2.1 s.2.2.2.2.1 turn (nI P) (nI C) (nI k) lent J K) (Ps := []) rfl trivial ?_
      refine ww_cV 9 ok_X7_rises (c_X7_rises ki mo cd sr stk names turn lent J K fr lo fa sty wset wfor P C k e hP hC hL (nI i) s hon) lk_X7_229 rfl (by omega) (rest := []) rfl (Nat.le_of_ble_eq_true rfl) rfl rfl rfl rfl (fun r w' hq => ?_)
      obtain ⟨rfl, names1, stk1, rfl⟩ := hq
      refine ww_run 10 2 (pc' := 18) (lv' := [(0, .ref 0), (1, .int (nI N)), (2, .int (nI i))]) (st' := [.int (nI i), .ref 0]) (w' := wMv (wiF fr lo fa) ki mo (hoF sty wset wfor) cd sr stk1 names1 ((mRiseTo ki mo fa lo (sayM cd k e) (nI i) s P).2.2.2.2.2.1) ((mRiseTo ki mo fa lo (sayM cd k e) (nI i) s P).2.2.2.2.2.2) ((mRiseTo ki mo fa lo (sayM cd k e) (nI i) s P).1) ((mRiseTo ki mo fa lo (sayM cd k e) (nI i) s P).2.1) ((mRiseTo ki mo fa lo (sayM cd k e) (nI i) s P).2.2.1) ((mRiseTo ki mo fa lo (sayM cd k e) (nI i) s P).2.2.2.1) ((mRiseTo ki mo fa lo (sayM cd k e) (nI i) s P).2.2.2.2.1) turn (nI P) (nI C) (nI k) lent J K) (Ps := []) rfl trivial ?_
      refine ww_cV 12 ok_X7_sitsDown (c_X7_sitsDown ki mo cd sr stk1 names1 ((mRiseTo ki mo fa lo (sayM cd k e) (nI i) s P).2.2.2.2.2.1) ((mRiseTo ki mo fa lo (sayM cd k e) (nI i) s P).2.2.2.2.2.2) ((mRiseTo ki mo fa lo (sayM cd k e) (nI i) s P).1) ((mRiseTo ki mo fa lo (sayM cd k e) (nI i) s P).2.1) ((mRiseTo ki mo fa lo (sayM cd k e) (nI i) s P).2.2.1) ((mRiseTo ki mo fa lo (sayM cd k e) (nI i) s P).2.2.2.1) ((mRiseTo ki mo fa lo (sayM cd k e) (nI i) s P).2.2.2.2.1) turn lent J K fr lo fa sty wset wfor P C k e hP hC hL (nI i)) lk_X7_232 rfl (by omega) (rest := []) rfl (Nat.le_of_ble_eq_true rfl) rfl rfl rfl rfl (fun r w' hq => ?_)
      obtain ⟨rfl, names2, stk2, rfl⟩ := hq
      obtain ⟨e1, e2, e3⟩ := mSeatN_any (P := P) (C := C) (ki := ki) (mo := mo) (till := (mRiseTo ki mo fa lo (sayM cd k e) (nI i) s P).2.2.2.2.2.1) (lent := lent) (sty := sty) (m := nI i) P ((mRiseTo ki mo fa lo (sayM cd k e) (nI i) s P).1, (mRiseTo ki mo fa lo (sayM cd k e) (nI i) s P).2.1, (mRiseTo ki mo fa lo (sayM cd k e) (nI i) s P).2.2.2.2.2.2, mixF turn (turnF fr fa (mRiseTo ki mo fa lo (sayM cd k e) (nI i) s P).1 (mRiseTo ki mo fa lo (sayM cd k e) (nI i) s P).2.2.1 (mRiseTo ki mo fa lo (sayM cd k e) (nI i) s P).2.2.2.1 (mRiseTo ki mo fa lo (sayM cd k e) (nI i) s P).2.2.2.2.1 (sayM cd k e) (nI i)) P) ((mRiseTo ki mo fa lo (sayM cd k e) (nI i) s P).1, (mRiseTo ki mo fa lo (sayM cd k e) (nI i) s P).2.1, (mRiseTo ki mo fa lo (sayM cd k e) (nI i) s P).2.2.2.2.2.2, turnF fr fa (mRiseTo ki mo fa lo (sayM cd k e) (nI i) s P).1 (mRiseTo ki mo fa lo (sayM cd k e) (nI i) s P).2.2.1 (mRiseTo ki mo fa lo (sayM cd k e) (nI i) s P).2.2.2.1 (mRiseTo ki mo fa lo (sayM cd k e) (nI i) s P).2.2.2.2.1 (sayM cd k e) (nI i)) rfl rfl rfl (fun q hq => by simp [mixF, hq])
      rw [e1, e2, e3]
      generalize (mSeatN P C ki mo (mRiseTo ki mo fa lo (sayM cd k e) (nI i) s P).2.2.2.2.2.1 lent sty (nI i) P ((mRiseTo ki mo fa lo (sayM cd k e) (nI i) s P).1, (mRiseTo ki mo fa lo (sayM cd k e) (nI i) s P).2.1, (mRiseTo ki mo fa lo (sayM cd k e) (nI i) s P).2.2.2.2.2.2, mixF turn (turnF fr fa (mRiseTo ki mo fa lo (sayM cd k e) (nI i) s P).1 (mRiseTo ki mo fa lo (sayM cd k e) (nI i) s P).2.2.1 (mRiseTo ki mo fa lo (sayM cd k e) (nI i) s P).2.2.2.1 (mRiseTo ki mo fa lo (sayM cd k e) (nI i) s P).2.2.2.2.1 (sayM cd k e) (nI i)) P)).2.2.2 = turn2
      refine ww_run 13 2 (pc' := 23) (lv' := [(3, .int 0), (0, .ref 0), (1, .int (nI N)), (2, .int (nI i))]) (st' := []) (w' := wMv (wiF fr lo fa) ki mo (hoF sty wset wfor) cd sr stk2 names2 ((mSitS P C fr ki mo fa (sayM cd k e) lent sty (nI i) (mRiseTo ki mo fa lo (sayM cd k e) (nI i) s P)).2.2.2.2.2.1) ((mSitS P C fr ki mo fa (sayM cd k e) lent sty (nI i) (mRiseTo ki mo fa lo (sayM cd k e) (nI i) s P)).2.2.2.2.2.2) ((mSitS P C fr ki mo fa (sayM cd k e) lent sty (nI i) (mRiseTo ki mo fa lo (sayM cd k e) (nI i) s P)).1) ((mSitS P C fr ki mo fa (sayM cd k e) lent sty (nI i) (mRiseTo ki mo fa lo (sayM cd k e) (nI i) s P)).2.1) ((mSitS P C fr ki mo fa (sayM cd k e) lent sty (nI i) (mRiseTo ki mo fa lo (sayM cd k e) (nI i) s P)).2.2.1) ((mSitS P C fr ki mo fa (sayM cd k e) lent sty (nI i) (mRiseTo ki mo fa lo (sayM cd k e) (nI i) s P)).2.2.2.1) ((mSitS P C fr ki mo fa (sayM cd k e) lent sty (nI i) (mRiseTo ki mo fa lo (sayM cd k e) (nI i) s P)).2.2.2.2.1) turn2 (nI P) (nI C) (nI k) lent J K) (Ps := []) rfl trivial ?_
      refine ww_lv [1, 2, 3, 0] (lv' := [(0, .ref 0), (1, .int (nI N)), (2, .int (nI i)), (3, .int 0)]) rfl ?_
      refine l_X7_lives_23 (by omega) ki mo cd sr stk2 names2 turn2 lent J K fr lo fa sty wset wfor P C k e hP hC hL (nI N) (nI i) (mSitS P C fr ki mo fa (sayM cd k e) lent sty (nI i) (mRiseTo ki mo fa lo (sayM cd k e) (nI i) s P)) ?_ (P + 1) 0 _ (by omega) (by omega) rfl
      refine ww_run 52 2 (pc' := 6) (lv' := [(2, .int ((nI i) + 1)), (0, .ref 0), (1, .int (nI N)), (3, .int (nI P))]) (st' := []) (w' := wMv (wiF fr lo fa) ki mo (hoF sty wset wfor) cd sr stk2 names2 ((mMinute P C fr lo fa ki mo (sayM cd k e) lent sty (nI i) s).2.2.2.2.2.1) ((mMinute P C fr lo fa ki mo (sayM cd k e) lent sty (nI i) s).2.2.2.2.2.2) ((mMinute P C fr lo fa ki mo (sayM cd k e) lent sty (nI i) s).1) ((mMinute P C fr lo fa ki mo (sayM cd k e) lent sty (nI i) s).2.1) ((mMinute P C fr lo fa ki mo (sayM cd k e) lent sty (nI i) s).2.2.1) ((mMinute P C fr lo fa ki mo (sayM cd k e) lent sty (nI i) s).2.2.2.1) ((mMinute P C fr lo fa ki mo (sayM cd k e) lent sty (nI i) s).2.2.2.2.1) turn2 (nI P) (nI C) (nI k) lent J K) (Ps := []) rfl trivial ?_
      rw [nI_1 i]
      refine ww_lv [1, 2, 0] (lv' := [(0, .ref 0), (1, .int (nI N)), (2, .int (nI (i + 1)))]) rfl ?_
      refine ih (i + 1) (mMinute P C fr lo fa ki mo (sayM cd k e) lent sty (nI i) s) _ _ _ (by omega) (by omega) (mMinute_on hC hon) ?_
      rw [show N - i = (N - (i + 1)) + 1 by omega] at hQ
      simp only [mLive] at hQ
      exact hQ
set_option maxHeartbeats 4000000 in
set_option maxRecDepth 100000 in
theorem c_X7_lives (ki mo cd sr stk names till sitter on was sat stood rose turn : Nat → Int32) (lent : Int32) (J : Nat → Int32) (K : Nat → Nat → Int32) (fr lo fa : Nat → Int32) (sty wset wfor : Int32) (P C k : Nat) (e : Nat → Nat) (hP : P ≤ 5) (hC : C ≤ 6) (hL : MLX cd sr k e) (N : Nat) (hN : N ≤ 30) : Co M_X7_lives 6 0 0 [.ref 0, .int (nI N)] (wMv (wiF fr lo fa) ki mo (hoF sty wset wfor) cd sr stk names till sitter on was sat stood rose turn (nI P) (nI C) (nI k) lent J K) (fun r w' => r = none ∧ ∃ (names' stk' turn' : Nat → Int32), w' = wMv (wiF fr lo fa) ki mo (hoF sty wset wfor) cd sr stk' names' ((mLive P C fr lo fa ki mo (sayM cd k e) lent sty N 0 (mStart P C wset wfor (on, was, sat, stood, rose, till, sitter))).2.2.2.2.2.1) ((mLive P C fr lo fa ki mo (sayM cd k e) lent sty N 0 (mStart P C wset wfor (on, was, sat, stood, rose, till, sitter))).2.2.2.2.2.2) ((mLive P C fr lo fa ki mo (sayM cd k e) lent sty N 0 (mStart P C wset wfor (on, was, sat, stood, rose, till, sitter))).1) ((mLive P C fr lo fa ki mo (sayM cd k e) lent sty N 0 (mStart P C wset wfor (on, was, sat, stood, rose, till, sitter))).2.1) ((mLive P C fr lo fa ki mo (sayM cd k e) lent sty N 0 (mStart P C wset wfor (on, was, sat, stood, rose, till, sitter))).2.2.1) ((mLive P C fr lo fa ki mo (sayM cd k e) lent sty N 0 (mStart P C wset wfor (on, was, sat, stood, rose, till, sitter))).2.2.2.1) ((mLive P C fr lo fa ki mo (sayM cd k e) lent sty N 0 (mStart P C wset wfor (on, was, sat, stood, rose, till, sitter))).2.2.2.2.1) turn' (nI P) (nI C) (nI k) lent J K) := by
  refine Co.of ok_X7_lives rfl ?_
  refine ww_run 0 1 (pc' := 1) (lv' := [(0, .ref 0), (1, .int (nI N))]) (st' := [.ref 0]) (w' := wMv (wiF fr lo fa) ki mo (hoF sty wset wfor) cd sr stk names till sitter on was sat stood rose turn (nI P) (nI C) (nI k) lent J K) (Ps := []) rfl trivial ?_
  refine ww_cVv 1 ok_X7_begins (c_X7_begins (wiF fr lo fa) ki mo cd sr stk names till sitter on was sat stood rose turn (nI k) lent J K sty wset wfor P C hP hC) lk_X7_226 rfl (by omega) (rest := []) rfl (Nat.le_of_ble_eq_true rfl) rfl rfl rfl rfl ?_
  refine ww_run 2 2 (pc' := 6) (lv' := [(2, .int 0), (0, .ref 0), (1, .int (nI N))]) (st' := []) (w' := wMv (wiF fr lo fa) ki mo (hoF sty wset wfor) cd sr stk names ((mStart P C wset wfor (on, was, sat, stood, rose, till, sitter)).2.2.2.2.2.1) ((mStart P C wset wfor (on, was, sat, stood, rose, till, sitter)).2.2.2.2.2.2) ((mStart P C wset wfor (on, was, sat, stood, rose, till, sitter)).1) ((mStart P C wset wfor (on, was, sat, stood, rose, till, sitter)).2.1) ((mStart P C wset wfor (on, was, sat, stood, rose, till, sitter)).2.2.1) ((mStart P C wset wfor (on, was, sat, stood, rose, till, sitter)).2.2.2.1) ((mStart P C wset wfor (on, was, sat, stood, rose, till, sitter)).2.2.2.2.1) turn (nI P) (nI C) (nI k) lent J K) (Ps := []) rfl trivial ?_
  refine ww_lv [1, 2, 0] (lv' := [(0, .ref 0), (1, .int (nI N)), (2, .int 0)]) rfl ?_
  refine l_X7_lives_6 (by omega) ki mo cd sr lent J K fr lo fa sty wset wfor P C k e hP hC hL N hN (N + 1) 0 (mStart P C wset wfor (on, was, sat, stood, rose, till, sitter)) names stk turn (by omega) (by omega) (mStart_on P C wset wfor _) (fun f1 f2 f3 => ?_)
  exact ⟨rfl, f1, f2, f3, rfl⟩
