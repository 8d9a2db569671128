/-! the evening that both live (pure), and what is seen of it -/
abbrev SY : Type := Nat → Nat → (Nat → Int32) → Int32
def evS (sy : SY) (P C : Nat) (fr lo fa ki mo : Nat → Int32) (k : Nat) (sty wset wfor lent : Int32) (N : Nat) : ES := liveS P C fr lo fa ki mo (sy k) lent sty N 0 (startS wset wfor)
/-- the reference's laws, as what they say -/
def SY99 (sy : SY) : Prop := ∀ t q f, 0 ≤ sy t q f ∧ sy t q f ≤ 99
def ML (cd sr : Nat → Int32) (T : Nat) (sy : SY) : Prop := T ≤ 6 ∧ SY99 sy ∧ ∀ t, t < T → ∃ e, MLX cd sr t e ∧ ∀ part, part < 3 → ∀ f, sayM cd t e part f = sy t part f
def HMO (C : Nat) (mo : Nat → Int32) : Prop := ∀ c, c < C → 0 ≤ mo c ∧ mo c ≤ 9
section
variable {P C : Nat} {fr lo fa ki mo : Nat → Int32} {s1 s2 : Nat → (Nat → Int32) → Int32} {lent sty : Int32}
theorem mRiseTo_say (h0 : s1 0 = s2 0) {m : Int32} {s : MS} : ∀ i, mRiseTo ki mo fa lo s1 m s i = mRiseTo ki mo fa lo s2 m s i
  | 0 => rfl
  | i + 1 => by
    simp only [mRiseTo, mRise1, eKeep]
    rw [mRiseTo_say h0 i, h0]
theorem mMinute_say (h0 : s1 0 = s2 0) (h1 : s1 1 = s2 1) {m : Int32} {s : MS} : mMinute P C fr lo fa ki mo s1 lent sty m s = mMinute P C fr lo fa ki mo s2 lent sty m s := by
  unfold mMinute mSitS turnF eFirst
  rw [mRiseTo_say h0, h1]
theorem mLive_say (h0 : s1 0 = s2 0) (h1 : s1 1 = s2 1) : ∀ (k i : Nat) (s : MS), mLive P C fr lo fa ki mo s1 lent sty k i s = mLive P C fr lo fa ki mo s2 lent sty k i s
  | 0, _, _ => rfl
  | k + 1, i, s => by
    simp only [mLive]
    rw [mMinute_say h0 h1, mLive_say h0 h1 k (i + 1)]
end
/-- what is small -/
def sm (b : Nat) (x : Int32) : Prop := ∃ a : Nat, a ≤ b ∧ x = nI a
theorem sm_up {b c : Nat} {x : Int32} (h : sm b x) (hbc : b ≤ c) : sm c x := by
  obtain ⟨a, h1, h2⟩ := h
  exact ⟨a, by omega, h2⟩
theorem sm_1 {b : Nat} {x : Int32} (h : sm b x) : sm (b + 1) (x + 1) := by
  obtain ⟨a, h1, rfl⟩ := h
  exact ⟨a + 1, by omega, nI_1 a⟩
theorem sm_add {b c : Nat} {x y : Int32} (h : sm b x) (h2 : sm c y) : sm (b + c) (x + y) := by
  obtain ⟨a, h1, rfl⟩ := h
  obtain ⟨d, h3, rfl⟩ := h2
  exact ⟨a + d, by omega, nI_add a d⟩
theorem sm_0 (b : Nat) : sm b 0 := ⟨0, by omega, nI_0.symm⟩
theorem sm_of {x : Int32} {b : Nat} {B : Int32} (hB : B.toInt = b) (h0 : 0 ≤ x) (h1 : x ≤ B) : sm b x := by
  obtain ⟨j, h2, h3⟩ := nI_of2 hB (Int32.not_lt.mpr h0) h1
  exact ⟨j, h2, h3⟩
/-- numbers of an evening behind i minutes -/
def NUM (i : Nat) (s : ES) : Prop := (∀ q, sm i (s.2.2.1 q)) ∧ (∀ q, sm i (s.2.2.2.1 q)) ∧ ∀ c, sm (i + 200) (s.2.2.2.2.2.1 c)
theorem upd_all {p : Int32 → Prop} {f : Nat → Int32} {k : Nat} {x : Int32} (h : ∀ q, p (f q)) (hx : p x) : ∀ q, p (upd f k x q) := by
  intro q
  simp only [upd]
  split
  · exact hx
  · exact h q
theorem kKeeps_le {k more w sat : Int32} (hm : sm 9 more) (hw : sm 99 w) : sm 110 (kKeeps k more w sat) := by
  have hd : sm 49 (w / 2) := by
    obtain ⟨a, h1, rfl⟩ := hw
    exact ⟨a / 2, by omega, show nI a / nI 2 = nI (a / 2) from pk_div (by omega) (by omega) (by omega)⟩
  unfold kKeeps
  split
  · exact sm_up (sm_add hw hm) (by omega)
  · split
    · exact sm_up hd (by omega)
    · split
      · split
        · exact sm_0 _
        · obtain ⟨a, h1, h2⟩ := hd
          rw [h2]
          exact ⟨a * 2, by omega, pk_mul a 2⟩
      · exact sm_up hw (by omega)
section
variable {P C : Nat} {fr lo fa ki mo : Nat → Int32} {say : Nat → (Nat → Int32) → Int32} {lent sty : Int32}
theorem riseTo_num (hmo : ∀ c, c < 6 → sm 9 (mo c)) (hs : ∀ q f, sm 99 (say q f)) {i : Nat} (hi : i ≤ 100) {s : ES} (hN : NUM i s) (hon : onOK s.1) (hP : P ≤ 5) : ∀ j, j ≤ P → NUM i (riseTo ki mo fa lo say (nI i) s j) ∧ onOK (riseTo ki mo fa lo say (nI i) s j).1
  | 0, _ => ⟨hN, hon⟩
  | j + 1, hj => by
    obtain ⟨h1, h2⟩ := riseTo_num hmo hs hi hN hon hP j (by omega)
    simp only [riseTo]
    split
    · next hc =>
      refine ⟨⟨h1.1, h1.2.1, ?_⟩, onOK_up h2 j (Or.inl rfl)⟩
      refine upd_all h1.2.2 ?_
      rcases h2 j (by omega) with h | ⟨c, hc6, h⟩
      · rw [h] at hc
        exact absurd hc.1 (by decide)
      · have hk : sm 110 (eKeep ki mo fa (riseTo ki mo fa lo say (nI i) s j).2.2.1 (riseTo ki mo fa lo say (nI i) s j).2.2.2.1 say j ((riseTo ki mo fa lo say (nI i) s j).1 j).toNatClampNeg (nI i)) := by
          unfold eKeep
          refine kKeeps_le ?_ (hs _ _)
          rw [h, nI_clamp (by omega)]
          exact hmo c hc6
        refine sm_up (sm_add (b := i) (c := 110) ⟨i, by omega, rfl⟩ ?_) (by omega)
        split
        · exact hk
        · exact sm_0 _
    · exact ⟨h1, h2⟩
theorem tickTo_num {i : Nat} {s : ES} {m : Int32} (h1 : ∀ q, sm i (s.2.2.1 q)) (h2 : ∀ q, sm i (s.2.2.2.1 q)) : ∀ j, (∀ q, sm (if q < j then i + 1 else i) ((tickTo fr m s j).2.2.1 q)) ∧ (∀ q, sm (if q < j then i + 1 else i) ((tickTo fr m s j).2.2.2.1 q)) ∧ (tickTo fr m s j).2.2.2.2.2.1 = s.2.2.2.2.2.1 ∧ (tickTo fr m s j).1 = s.1
  | 0 => ⟨fun q => by rw [if_neg (by omega)]; exact h1 q, fun q => by rw [if_neg (by omega)]; exact h2 q, rfl, rfl⟩
  | j + 1 => by
    obtain ⟨a1, a2, a3, a4⟩ := tickTo_num (m := m) h1 h2 j
    have up : ∀ (g : Nat → Int32), (∀ q, sm (if q < j then i + 1 else i) (g q)) → ∀ q, sm (if q < j + 1 then i + 1 else i) (g q) := fun g hg q => sm_up (hg q) (by split <;> split <;> omega)
    have up2 : ∀ (g : Nat → Int32), (∀ q, sm (if q < j then i + 1 else i) (g q)) → ∀ q, sm (if q < j + 1 then i + 1 else i) (upd g j (g j + 1) q) := fun g hg q => by
      by_cases hq : q = j
      · subst hq
        have := hg q
        rw [if_neg (by omega)] at this
        rw [if_pos (by omega), upd_s]
        exact sm_1 this
      · rw [upd_n hq]
        exact up g hg q
    simp only [tickTo]
    split
    · exact ⟨up2 _ a1, up _ a2, a3, a4⟩
    · split
      · exact ⟨up _ a1, up2 _ a2, a3, a4⟩
      · exact ⟨up _ a1, up _ a2, a3, a4⟩
theorem minuteS_num (hmo : ∀ c, c < 6 → sm 9 (mo c)) (hs : ∀ q f, sm 99 (say q f)) (hP : P ≤ 5) {i : Nat} (hi : i ≤ 100) {s : ES} (hN : NUM i s) (hon : onOK s.1) : NUM (i + 1) (minuteS P C fr lo fa ki mo say lent sty (nI i) s) := by
  obtain ⟨h1, h2⟩ := riseTo_num (lo := lo) (ki := ki) (fa := fa) hmo hs hi hN hon hP P (Nat.le_refl P)
  unfold minuteS
  obtain ⟨a1, a2, a3, -⟩ := tickTo_num (fr := fr) (m := nI i) (s := sitS P C fr ki mo fa say lent sty (nI i) (riseTo ki mo fa lo say (nI i) s P)) h1.1 h1.2.1 P
  refine ⟨fun q => sm_up (a1 q) (by split <;> omega), fun q => sm_up (a2 q) (by split <;> omega), fun c => ?_⟩
  rw [a3]
  exact sm_up (h1.2.2 c) (by omega)
theorem liveS_num (hmo : ∀ c, c < 6 → sm 9 (mo c)) (hs : ∀ q f, sm 99 (say q f)) (hP : P ≤ 5) (hC : C ≤ 6) : ∀ (k i : Nat) (s : ES), i + k ≤ 100 → NUM i s → onOK s.1 → NUM (i + k) (liveS P C fr lo fa ki mo say lent sty k i s)
  | 0, i, s, _, h, _ => h
  | k + 1, i, s, hk, h, hon => by
    simp only [liveS]
    split
    · exact ⟨fun q => sm_up (h.1 q) (by omega), fun q => sm_up (h.2.1 q) (by omega), fun q => sm_up (h.2.2 q) (by omega)⟩
    · have := liveS_num hmo hs hP hC k (i + 1) _ (by omega) (minuteS_num (C := C) (fr := fr) (lo := lo) (ki := ki) (fa := fa) (lent := lent) (sty := sty) hmo hs hP (by omega) h hon) (minuteS_on hC hon)
      rw [show i + (k + 1) = i + 1 + k by omega]
      exact this
end
theorem start_num {wset wfor : Int32} (hw : sm 30 wfor) : NUM 0 (startS wset wfor) := by
  refine ⟨fun _ => sm_0 0, fun _ => sm_0 0, fun c => ?_⟩
  show sm 200 (tillS wset wfor c)
  unfold tillS
  split
  · exact sm_0 _
  · exact sm_up hw (by omega)
/-- all chairs' more, there or not -/
def MO6 (mo : Nat → Int32) : Prop := ∀ c, c < 6 → sm 9 (mo c)
theorem MO6.h {C : Nat} {mo : Nat → Int32} (h : MO6 mo) (hC : C ≤ 6) : HMO C mo := fun c hc => by
  obtain ⟨a, h1, h2⟩ := h c (by omega)
  rw [h2]
  exact ⟨nI_pos' (by omega), nI_le (b := 9) h1 (by decide)⟩
theorem SY99.s {sy : SY} (h : SY99 sy) (t q : Nat) (f : Nat → Int32) : sm 99 (sy t q f) := sm_of (B := 99) rfl (h t q f).1 (h t q f).2
section
variable {sy : SY} {P C : Nat} {fr lo fa ki mo : Nat → Int32} {k : Nat} {sty wset wfor lent : Int32} {N : Nat}
theorem evS_num (hsy : SY99 sy) (hP : P ≤ 5) (hC : C ≤ 6) (hmo : MO6 mo) (hw : sm 30 wfor) (hN : N ≤ 30) : NUM N (evS sy P C fr lo fa ki mo k sty wset wfor lent N) := by
  have := liveS_num (fr := fr) (lo := lo) (fa := fa) (ki := ki) (lent := lent) (sty := sty) hmo (fun q f => hsy.s k q f) hP hC N 0 (startS wset wfor) (by omega) (start_num hw) (startS_on wset wfor)
  rw [Nat.zero_add] at this
  exact this
theorem evS_inv (hsy : SY99 sy) (hP : P ≤ 5) (hC : C ≤ 6) (hmo : MO6 mo) (hN : N ≤ 30) : INV P C (evS sy P C fr lo fa ki mo k sty wset wfor lent N) :=
  (evening hC hP (hmo.h hC) (fun q f => hsy k q f) wset wfor (fun _ => 0, fun _ => 0, fun _ => 0, fun _ => 0, fun _ => 0, fun _ => 0, fun _ => 0) N hN).2
end
theorem sumTo_congr {f g : Nat → Int32} : ∀ {n : Nat}, (∀ q, q < n → f q = g q) → sumTo f n = sumTo g n
  | 0, _ => rfl
  | n + 1, h => by
    simp only [sumTo]
    rw [sumTo_congr (fun q hq => h q (by omega)), h n (by omega)]
theorem sumTo_cnt {f : Nat → Int32} : ∀ n, sumTo (fun q => if f q = -1 then 0 else 1) n = nI (cntR f n)
  | 0 => nI_0.symm
  | n + 1 => by
    simp only [sumTo, cntR]
    rw [sumTo_cnt n]
    split
    · simp
    · exact nI_1 _
theorem sumTo_sm {f : Nat → Int32} {b : Nat} (h : ∀ q, sm b (f q)) : ∀ n, sm (b * n) (sumTo f n)
  | 0 => sm_0 _
  | n + 1 => by
    simp only [sumTo]
    rw [Nat.mul_succ]
    exact sm_add (sumTo_sm h n) (h n)
section
variable {P C : Nat} {s : ES} {x : MS}
theorem ob_risen (hR : REL P C s x) (hI : INV P C s) : sumTo (fun q => if x.2.2.2.2.1 q = -1 then 0 else 1) P = s.2.2.2.2.2.2.2.2 := by
  rw [hI.2.2.2.2.1, sumTo_cnt, cntR_congr (fun q hq => (hR.1 q hq).2.2.2.2)]
theorem ob_stood (hR : REL P C s x) : sumTo x.2.2.2.1 P = sumTo s.2.2.2.1 P := sumTo_congr (fun q hq => (hR.1 q hq).2.2.2.1.symm)
theorem ob_longest (hR : REL P C s x) : bestOf (fun _ => true) (fun p b => decide (x.2.2.2.1 b < x.2.2.2.1 p)) P = bestOf (fun _ => true) (fun p b => decide (s.2.2.2.1 b < s.2.2.2.1 p)) P :=
  (bestOf_congr (fun _ _ => rfl) (fun p q hp hq _ _ => by rw [(hR.1 p hp).2.2.2.1, (hR.1 q hq).2.2.2.1])).1
theorem ob_satOn (hC : C ≤ 6) (hR : REL P C s x) (hI : INV P C s) : setOf (fun c => decide (¬ x.2.2.2.2.2.2 c = -1)) C = s.2.2.2.2.2.2.2.1 := by
  rw [hI.2.2.2.1]
  have h1 : ∀ (n : Nat), C ≤ n → setOf (fun c => decide (c < C ∧ ¬ s.2.2.2.2.2.2.1 c = -1)) n = setOf (fun c => decide (¬ x.2.2.2.2.2.2 c = -1)) C := by
    intro n hn
    induction n with
    | zero =>
      obtain rfl : C = 0 := by omega
      rfl
    | succ n ih =>
      by_cases hc : C = n + 1
      · subst hc
        exact setOf_congr (fun j hj => by rw [(hR.2 j hj).2]; simp [hj])
      · simp only [setOf]
        rw [ih (by omega)]
        simp only [show ¬ n < C by omega, false_and, decide_false, Bool.false_eq_true, if_false]
  exact (h1 6 hC).symm
theorem mWarm_congr {ki : Nat → Int32} {t1 t2 u1 u2 : Nat → Int32} {c : Nat} {m : Int32} (hC : C ≤ 6) (hc : c < C) (ht : ∀ d, d < C → t1 d = t2 d) (hs : ∀ d, d < C → u1 d = u2 d) : mWarm C ki t1 u1 c m ↔ mWarm C ki t2 u2 c m := by
  rw [← warm_iff (ki := ki) (till := t1) (sitter := u1) (m := m) hC hc, ← warm_iff (ki := ki) (till := t2) (sitter := u2) (m := m) hC hc]
  rw [setOf_congr (f := fun j => decide (j < C ∧ ¬ u1 j = -1)) (g := fun j => decide (j < C ∧ ¬ u2 j = -1)) (fun j _ => by
    by_cases hj : j < C
    · rw [hs j hj]
    · simp [hj])]
  simp only [eWarm, ht c hc]
theorem ob_warm {ki : Nat → Int32} {c : Nat} {m : Int32} (hC : C ≤ 6) (hc : c < C) (hR : REL P C s x) (hI : INV P C s) : mWarm C ki x.2.2.2.2.2.1 x.2.2.2.2.2.2 c m ↔ eWarm ki s.2.2.2.2.2.1 s.2.2.2.2.2.2.2.1 c m := by
  rw [hI.2.2.2.1, warm_iff hC hc]
  exact mWarm_congr hC hc (fun d hd => (hR.2 d hd).1.symm) (fun d hd => (hR.2 d hd).2.symm)
theorem ob_warmIn {ki : Nat → Int32} {m : Int32} (hC : C ≤ 6) (hR : REL P C s x) (hI : INV P C s) : setOf (fun c => decide (mWarm C ki x.2.2.2.2.2.1 x.2.2.2.2.2.2 c m)) C = setOf (fun c => decide (eWarm ki s.2.2.2.2.2.1 s.2.2.2.2.2.2.2.1 c m)) C :=
  setOf_congr (fun c hc => by rw [decide_eq_decide]; exact ob_warm hC hc hR hI)
theorem ob_free {ki mo : Nat → Int32} {lent : Int32} {c : Nat} {m : Int32} (hC : C ≤ 6) (hc : c < C) (hR : REL P C s x) (hI : INV P C s) : mFree C ki mo x.2.2.2.2.2.1 x.2.2.2.2.2.2 lent c m ↔ eFree ki mo s.2.2.2.2.2.1 s.2.2.2.2.2.2.1 lent s.2.2.2.2.2.2.2.1 c m := by
  rw [hI.2.2.2.1, free_iff hC hc (hI.2.2.1 c hc)]
  exact mFree_congr hC hc (fun d hd => (hR.2 d hd).1.symm) (fun d hd => (hR.2 d hd).2.symm)
end
