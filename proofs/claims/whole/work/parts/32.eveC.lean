theorem mFree_congr {C c : Nat} {ki mo t1 t2 s1 s2 : Nat → Int32} {lent m : Int32} (hC : C ≤ 6) (hc : c < C) (ht : ∀ d, d < C → t1 d = t2 d) (hs : ∀ d, d < C → s1 d = s2 d) : mFree C ki mo t1 s1 lent c m ↔ mFree C ki mo t2 s2 lent c m := by
  unfold mFree mWarm
  rw [mSat_m1 hC (by omega), mSat_m1 hC (by omega), mSat_nI hC (by omega), mSat_nI hC (by omega), ht c hc, hs c hc]
  have h1 : (1 ≤ c ∧ c - 1 < C ∧ ¬ s1 (c - 1) = -1) ↔ (1 ≤ c ∧ c - 1 < C ∧ ¬ s2 (c - 1) = -1) := by
    rw [hs (c - 1) (by omega)]
  have h2 : (c + 1 < C ∧ ¬ s1 (c + 1) = -1) ↔ (c + 1 < C ∧ ¬ s2 (c + 1) = -1) := by
    constructor
    · rintro ⟨a, b⟩; exact ⟨a, by rw [← hs _ a]; exact b⟩
    · rintro ⟨a, b⟩; exact ⟨a, by rw [hs _ a]; exact b⟩
  rw [h1, h2]
/-- who sits where, in the one and in the other -/
def SRL (P C : Nat) (rose : Nat → Int32) (s : SS) (t : MT) : Prop :=
  (∀ q, q < P → s.1 q = t.1 q ∧ s.2.1 q = t.2.1 q ∧ (s.1 q = -1 ∨ ∃ c, c < C ∧ s.1 q = nI c) ∧ (¬ rose q = -1 → s.1 q = -1)) ∧ (∀ c, c < C → s.2.2.1 c = t.2.2.1 c ∧ (s.2.2.1 c = -1 ∨ 0 ≤ s.2.2.1 c)) ∧ s.2.2.2.1 = setOf (fun c => decide (c < C ∧ ¬ s.2.2.1 c = -1)) 6
def WTL (P : Nat) (rose firsts : Nat → Int32) (s : SS) (t : MT) : Prop :=
  ∀ q, q < P → (¬ s.2.2.2.2 q = 0 ↔ ¬ t.2.2.2 q = -1) ∧ (¬ s.2.2.2.2 q = 0 → firsts q = t.2.2.2 q ∧ rose q = -1)
section
variable {P C : Nat} {ki mo till till2 firsts rose : Nat → Int32} {m lent sty : Int32}
theorem next_eq {s : SS} {t : MT} (hW : WTL P rose firsts s t) : bestOf (fun p => decide (¬ s.2.2.2.2 p = 0)) (fun p b => decide (firsts p < firsts b)) P = mNext P t := by
  unfold mNext
  refine (bestOf_congr (fun q hq => ?_) (fun p q hp hq h1 h2 => ?_)).1
  · simp only [(hW q hq).1]
  · have e1 := ((hW p hp).2 (of_decide_eq_true h1)).1
    have e2 := ((hW q hq).2 (of_decide_eq_true h2)).1
    simp only [e1, e2]
theorem take_eq {s : SS} {t : MT} (hC : C ≤ 6) (hT : ∀ c, c < C → till c = till2 c) (hR : SRL P C rose s t) : bestOf (fun c => decide (eFree ki mo till s.2.2.1 lent s.2.2.2.1 c m)) (fun c b => decide (eAhead sty till c b)) C = mTake C ki mo till2 lent sty m t := by
  unfold mTake
  refine (bestOf_congr (fun q hq => ?_) (fun p q hp hq _ _ => ?_)).1
  · have h1 := free_iff (ki := ki) (mo := mo) (till := till) (lent := lent) (m := m) hC hq (hR.2.1 q hq).2
    have h2 := mFree_congr (ki := ki) (mo := mo) (lent := lent) (m := m) (s1 := s.2.2.1) (s2 := t.2.2.1) hC hq hT (fun d hd => (hR.2.1 d hd).1)
    rw [hR.2.2]
    simp only [h1, h2]
  · have h : eAhead sty till p q ↔ eAhead sty till2 p q := by unfold eAhead; rw [hT p hp, hT q hq]
    exact decide_eq_decide.mpr h
theorem mSeatN_none {t : MT} : ∀ (n : Nat) (t : MT), mTake C ki mo till2 lent sty m t = none → (mSeatN P C ki mo till2 lent sty m n t).1 = t.1 ∧ (mSeatN P C ki mo till2 lent sty m n t).2.1 = t.2.1 ∧ (mSeatN P C ki mo till2 lent sty m n t).2.2.1 = t.2.2.1
  | 0, t, _ => ⟨rfl, rfl, rfl⟩
  | n + 1, t, h => by
    unfold mSeatN
    split
    · exact ⟨rfl, rfl, rfl⟩
    · next p hp =>
      rw [h]
      exact mSeatN_none (t := t) n (mSeat t p none) h
theorem seatN_rel (hC : C ≤ 6) (hP : P ≤ 5) (hT : ∀ c, c < C → till c = till2 c) : ∀ (n : Nat) (s : SS) (t : MT), SRL P C rose s t → WTL P rose firsts s t → SRL P C rose (seatN P C ki mo till firsts lent sty m n s) (mSeatN P C ki mo till2 lent sty m n t)
  | 0, s, t, hR, _ => hR
  | n + 1, s, t, hR, hW => by
    have e1 := next_eq hW
    have e2 := take_eq (ki := ki) (mo := mo) (m := m) (lent := lent) (sty := sty) hC hT hR
    simp only [seatN, mSeatN, seat1, e1, e2]
    cases hb : mNext P t with
    | none => exact hR
    | some p =>
      have hpl : p < P := bestOf_lt hb
      have hpt : ¬ t.2.2.2 p = -1 := of_decide_eq_true (bestOf_may hb)
      have hps : ¬ s.2.2.2.2 p = 0 := (hW p hpl).1.mpr hpt
      cases hb2 : mTake C ki mo till2 lent sty m t with
      | none =>
        simp only
        obtain ⟨h1, h2, h3⟩ := mSeatN_none (P := P) (C := C) (ki := ki) (mo := mo) (till2 := till2) (lent := lent) (sty := sty) (m := m) (t := t) n (mSeat t p none) hb2
        refine ⟨fun q hq => ?_, fun c hc => ?_, hR.2.2⟩
        · obtain ⟨a1, a2, a3, a4⟩ := hR.1 q hq
          exact ⟨by rw [h1]; exact a1, by rw [h2]; exact a2, a3, a4⟩
        · obtain ⟨a1, a2⟩ := hR.2.1 c hc
          exact ⟨by rw [h3]; exact a1, a2⟩
      | some c =>
        have hcl : c < C := bestOf_lt hb2
        simp only
        refine seatN_rel hC hP hT n _ _ ⟨fun q hq => ?_, fun d hd => ?_, ?_⟩ (fun q hq => ?_)
        · obtain ⟨a1, a2, a3, a4⟩ := hR.1 q hq
          refine ⟨upd_c a1 rfl, upd_c a2 rfl, ?_, fun hn => ?_⟩
          · show upd s.1 p (nI c) q = -1 ∨ ∃ c', c' < C ∧ upd s.1 p (nI c) q = nI c'
            by_cases h : q = p
            · subst h; rw [upd_s]; exact Or.inr ⟨c, hcl, rfl⟩
            · rw [upd_n h]; exact a3
          · show upd s.1 p (nI c) q = -1
            by_cases h : q = p
            · subst h; exact absurd ((hW q hq).2 hps).2 hn
            · rw [upd_n h]; exact a4 hn
        · obtain ⟨a1, a2⟩ := hR.2.1 d hd
          refine ⟨upd_c a1 rfl, ?_⟩
          show upd s.2.2.1 c (nI p) d = -1 ∨ 0 ≤ upd s.2.2.1 c (nI p) d
          by_cases h : d = c
          · subst h; rw [upd_s]; exact Or.inr (nI_pos' (by omega))
          · rw [upd_n h]; exact a2
        · show s.2.2.2.1 ||| ((1 : Int32) <<< ((nI c) &&& 31)) = setOf (fun d => decide (d < C ∧ ¬ upd s.2.2.1 c (nI p) d = -1)) 6
          rw [hR.2.2, setOf_set _ (by omega)]
          apply setOf_congr
          intro j hj
          by_cases h : j = c
          · subst h; simp [upd_s, hcl, m1_nI (n := p) (by omega)]
          · rw [upd_n h]; simp [Ne.symm h]
        · obtain ⟨a1, a2⟩ := hW q hq
          show (¬ upd s.2.2.2.2 p 0 q = 0 ↔ ¬ upd t.2.2.2 p (-1) q = -1) ∧ (¬ upd s.2.2.2.2 p 0 q = 0 → firsts q = upd t.2.2.2 p (-1) q ∧ rose q = -1)
          by_cases h : q = p
          · subst h; rw [upd_s, upd_s]; simp
          · rw [upd_n h, upd_n h]; exact ⟨a1, a2⟩
theorem sitS_rel {fr fa : Nat → Int32} {say : Nat → (Nat → Int32) → Int32} {s : ES} {t : MS} (hC : C ≤ 6) (hP : P ≤ 5) (hs : ∀ q f, 0 ≤ say q f ∧ say q f ≤ 99) (hR : REL P C s t) (hI : INV P C s) : REL P C (sitS P C fr ki mo fa say lent sty m s) (mSitS P C fr ki mo fa say lent sty m t) ∧ INV P C (sitS P C fr ki mo fa say lent sty m s) := by
  have hpos : ∀ q f, ¬ say q f = -1 := fun q f e => absurd (hs q f).1 (by rw [e]; decide)
  have h := seatN_rel (ki := ki) (mo := mo) (till := s.2.2.2.2.2.1) (till2 := t.2.2.2.2.2.1) (firsts := fun q => eFirst fa s.2.2.1 s.2.2.2.1 say q m) (rose := s.2.2.2.2.1) (m := m) (lent := lent) (sty := sty) hC hP (fun c hc => (hR.2 c hc).1) P
    (s.1, s.2.1, s.2.2.2.2.2.2.1, s.2.2.2.2.2.2.2.1, fun q => b2i (eWants fr s.1 s.2.2.2.2.1 q m)) (t.1, t.2.1, t.2.2.2.2.2.2, turnF fr fa t.1 t.2.2.1 t.2.2.2.1 t.2.2.2.2.1 say m)
    ⟨fun q hq => ⟨(hR.1 q hq).1, (hR.1 q hq).2.1, hI.1 q hq, hI.2.2.2.2.2 q hq⟩, fun c hc => ⟨(hR.2 c hc).2, hI.2.2.1 c hc⟩, hI.2.2.2.1⟩
    (fun q hq => by
      obtain ⟨a1, a2, a3, a4, a5⟩ := hR.1 q hq
      have hw := wants_iff (fr := fr) (m := m) hR hI hq hC
      show (¬ b2i (eWants fr s.1 s.2.2.2.2.1 q m) = 0 ↔ ¬ turnF fr fa t.1 t.2.2.1 t.2.2.2.1 t.2.2.2.2.1 say m q = -1) ∧ (¬ b2i (eWants fr s.1 s.2.2.2.2.1 q m) = 0 → eFirst fa s.2.2.1 s.2.2.2.1 say q m = turnF fr fa t.1 t.2.2.1 t.2.2.2.1 t.2.2.2.2.1 say m q ∧ s.2.2.2.2.1 q = -1)
      rw [b2i_ne0, hw]
      unfold turnF
      by_cases hv : mWants fr t.1 t.2.2.2.2.1 q m
      · rw [if_pos hv]
        refine ⟨⟨fun _ => hpos _ _, fun _ => hv⟩, fun _ => ⟨eFirst_congr a3 a4, by rw [a5]; exact hv.2.2⟩⟩
      · rw [if_neg hv]
        exact ⟨⟨fun h => absurd h hv, fun h => absurd rfl h⟩, fun h => absurd h hv⟩)
  obtain ⟨h1, h2, h3⟩ := h
  refine ⟨⟨fun q hq => ?_, fun c hc => ?_⟩, fun q hq => ?_, hI.2.1, fun c hc => ?_, h3, hI.2.2.2.2.1, fun q hq hn => ?_⟩
  · obtain ⟨-, -, a3, a4, a5⟩ := hR.1 q hq
    exact ⟨(h1 q hq).1, (h1 q hq).2.1, a3, a4, a5⟩
  · exact ⟨(hR.2 c hc).1, (h2 c hc).1⟩
  · exact (h1 q hq).2.2.1
  · exact (h2 c hc).2
  · exact (h1 q hq).2.2.2 hn
end
