theorem bestOf_congr {m1 m2 : Nat → Bool} {a1 a2 : Nat → Nat → Bool} : ∀ {n : Nat}, (∀ q, q < n → m1 q = m2 q) → (∀ p q, p < n → q < n → m1 p = true → m1 q = true → a1 p q = a2 p q) → bestOf m1 a1 n = bestOf m2 a2 n ∧ ∀ b, bestOf m1 a1 n = some b → m1 b = true
  | 0, _, _ => ⟨rfl, fun b h => by cases h⟩
  | n + 1, hm, ha => by
    obtain ⟨h1, h2⟩ := bestOf_congr (n := n) (fun q hq => hm q (by omega)) (fun p q hp hq => ha p q (by omega) (by omega))
    have hmn := hm n (by omega)
    cases hb : bestOf m1 a1 n with
    | none =>
      have hb2 : bestOf m2 a2 n = none := h1.symm.trans hb
      cases hq : m1 n with
      | true => exact ⟨by rw [bestOf_nt hb hq, bestOf_nt hb2 (hmn.symm.trans hq)], fun b h => by rw [bestOf_nt hb hq] at h; cases h; exact hq⟩
      | false => exact ⟨by rw [bestOf_nn hb hq, bestOf_nn hb2 (hmn.symm.trans hq)], fun b h => by rw [bestOf_nn hb hq] at h; cases h⟩
    | some c =>
      have hb2 : bestOf m2 a2 n = some c := h1.symm.trans hb
      have hc := h2 c hb
      have hcl := bestOf_lt hb
      cases hq : m1 n with
      | false => exact ⟨by rw [bestOf_sf hb hq, bestOf_sf hb2 (hmn.symm.trans hq)], fun b h => by rw [bestOf_sf hb hq] at h; cases h; exact hc⟩
      | true =>
        have hae := ha n c (by omega) (by omega) hq hc
        cases hr : a1 n c with
        | true => exact ⟨by rw [bestOf_st hb hq hr, bestOf_st hb2 (hmn.symm.trans hq) (hae.symm.trans hr)], fun b h => by rw [bestOf_st hb hq hr] at h; cases h; exact hq⟩
        | false => exact ⟨by rw [bestOf_sa hb hr, bestOf_sa hb2 (hae.symm.trans hr)], fun b h => by rw [bestOf_sa hb hr] at h; cases h; exact hc⟩
/-- who is next doesn't depend on what doesn't count -/
theorem seat1_any {P C : Nat} {ki mo till f1 f2 : Nat → Int32} {lent sty m : Int32} {s t : SS} (h1 : s.1 = t.1) (h2 : s.2.1 = t.2.1) (h3 : s.2.2.1 = t.2.2.1) (h4 : s.2.2.2.1 = t.2.2.2.1) (hw : ∀ q, q < P → (¬ s.2.2.2.2 q = 0 ↔ ¬ t.2.2.2.2 q = 0)) (hf : ∀ q, q < P → ¬ s.2.2.2.2 q = 0 → f1 q = f2 q) : seat1 P C ki mo till f1 lent sty m s = seat1 P C ki mo till f2 lent sty m t := by
  have h := (bestOf_congr (n := P) (m1 := fun p => decide (¬ s.2.2.2.2 p = 0)) (m2 := fun p => decide (¬ t.2.2.2.2 p = 0)) (a1 := fun p b => decide (f1 p < f1 b)) (a2 := fun p b => decide (f2 p < f2 b)) (fun q hq => by simp only [hw q hq]) (fun p q hp hq hp1 hq1 => by
    have e1 := hf p hp (of_decide_eq_true hp1)
    have e2 := hf q hq (of_decide_eq_true hq1)
    simp only [e1, e2])).1
  unfold seat1
  rw [h, h3, h4]
theorem seatN_any {P C : Nat} {ki mo till f1 f2 : Nat → Int32} {lent sty m : Int32} : ∀ (n : Nat) (s t : SS), s.1 = t.1 → s.2.1 = t.2.1 → s.2.2.1 = t.2.2.1 → s.2.2.2.1 = t.2.2.2.1 → (∀ q, q < P → (¬ s.2.2.2.2 q = 0 ↔ ¬ t.2.2.2.2 q = 0)) → (∀ q, q < P → ¬ s.2.2.2.2 q = 0 → f1 q = f2 q) →
    (seatN P C ki mo till f1 lent sty m n s).1 = (seatN P C ki mo till f2 lent sty m n t).1 ∧ (seatN P C ki mo till f1 lent sty m n s).2.1 = (seatN P C ki mo till f2 lent sty m n t).2.1 ∧ (seatN P C ki mo till f1 lent sty m n s).2.2.1 = (seatN P C ki mo till f2 lent sty m n t).2.2.1 ∧ (seatN P C ki mo till f1 lent sty m n s).2.2.2.1 = (seatN P C ki mo till f2 lent sty m n t).2.2.2.1
  | 0, s, t, h1, h2, h3, h4, _, _ => ⟨h1, h2, h3, h4⟩
  | n + 1, s, t, h1, h2, h3, h4, hw, hf => by
    have h := seat1_any (C := C) (ki := ki) (mo := mo) (till := till) (lent := lent) (sty := sty) (m := m) h1 h2 h3 h4 hw hf
    cases hs : seat1 P C ki mo till f1 lent sty m s with
    | none =>
      rw [hs] at h
      simp only [seatN, hs, ← h]
      exact ⟨h1, h2, h3, h4⟩
    | some q =>
      obtain ⟨p, c⟩ := q
      rw [hs] at h
      simp only [seatN, hs, ← h]
      refine seatN_any n _ _ ?_ ?_ ?_ ?_ ?_ ?_
      · simp only [seatAt, h1]
      · simp only [seatAt, h2]
      · simp only [seatAt, h3]
      · simp only [seatAt, h4]
      · intro q hq
        simp only [seatAt, upd]
        split
        · simp
        · exact hw q hq
      · intro q hq hz
        simp only [seatAt, upd] at hz
        split at hz
        · simp at hz
        · exact hf q hq hz
/-- an evening: on, was, sat, stood, rose, till, sitter, satOn, risen -/
abbrev ES : Type := (Nat → Int32) × (Nat → Int32) × (Nat → Int32) × (Nat → Int32) × (Nat → Int32) × (Nat → Int32) × (Nat → Int32) × Int32 × Int32
def rise1 (ki mo fa : Nat → Int32) (say : Nat → (Nat → Int32) → Int32) (m : Int32) (s : ES) (p c : Nat) : ES :=
  (upd s.1 p (-1), s.2.1, s.2.2.1, s.2.2.2.1, upd s.2.2.2.2.1 p m, upd s.2.2.2.2.2.1 c (m + (if (0 : Int32) < eKeep ki mo fa s.2.2.1 s.2.2.2.1 say p c m then eKeep ki mo fa s.2.2.1 s.2.2.2.1 say p c m else 0)), upd s.2.2.2.2.2.2.1 c (-1), s.2.2.2.2.2.2.2.1 &&& (((1 : Int32) <<< ((nI c) &&& 31)) ^^^ (-1)), s.2.2.2.2.2.2.2.2 + 1)
def riseTo (ki mo fa lo : Nat → Int32) (say : Nat → (Nat → Int32) → Int32) (m : Int32) (s : ES) : Nat → ES
  | 0 => s
  | i + 1 => if 0 ≤ (riseTo ki mo fa lo say m s i).1 i ∧ lo i ≤ (riseTo ki mo fa lo say m s i).2.2.1 i then rise1 ki mo fa say m (riseTo ki mo fa lo say m s i) i ((riseTo ki mo fa lo say m s i).1 i).toNatClampNeg else riseTo ki mo fa lo say m s i
def sitS (P C : Nat) (fr ki mo fa : Nat → Int32) (say : Nat → (Nat → Int32) → Int32) (lent sty m : Int32) (s : ES) : ES :=
  let q := seatN P C ki mo s.2.2.2.2.2.1 (fun q => eFirst fa s.2.2.1 s.2.2.2.1 say q m) lent sty m P (s.1, s.2.1, s.2.2.2.2.2.2.1, s.2.2.2.2.2.2.2.1, fun q => b2i (eWants fr s.1 s.2.2.2.2.1 q m))
  (q.1, q.2.1, s.2.2.1, s.2.2.2.1, s.2.2.2.2.1, s.2.2.2.2.2.1, q.2.2.1, q.2.2.2.1, s.2.2.2.2.2.2.2.2)
def tickTo (fr : Nat → Int32) (m : Int32) (s : ES) : Nat → ES
  | 0 => s
  | i + 1 => if 0 ≤ (tickTo fr m s i).1 i then ((tickTo fr m s i).1, (tickTo fr m s i).2.1, upd (tickTo fr m s i).2.2.1 i ((tickTo fr m s i).2.2.1 i + 1), (tickTo fr m s i).2.2.2)
    else if eWants fr (tickTo fr m s i).1 (tickTo fr m s i).2.2.2.2.1 i m then ((tickTo fr m s i).1, (tickTo fr m s i).2.1, (tickTo fr m s i).2.2.1, upd (tickTo fr m s i).2.2.2.1 i ((tickTo fr m s i).2.2.2.1 i + 1), (tickTo fr m s i).2.2.2.2)
    else tickTo fr m s i
def minuteS (P C : Nat) (fr lo fa ki mo : Nat → Int32) (say : Nat → (Nat → Int32) → Int32) (lent sty m : Int32) (s : ES) : ES :=
  tickTo fr m (sitS P C fr ki mo fa say lent sty m (riseTo ki mo fa lo say m s P)) P
/-- so many minutes from minute i on, while not all have risen -/
def liveS (P C : Nat) (fr lo fa ki mo : Nat → Int32) (say : Nat → (Nat → Int32) → Int32) (lent sty : Int32) : Nat → Nat → ES → ES
  | 0, _, s => s
  | k + 1, i, s => if nI P ≤ s.2.2.2.2.2.2.2.2 then s else liveS P C fr lo fa ki mo say lent sty k (i + 1) (minuteS P C fr lo fa ki mo say lent sty (nI i) s)
def onOK (on : Nat → Int32) : Prop := ∀ q, q < 5 → on q = -1 ∨ ∃ c, c < 6 ∧ on q = nI c
theorem onOK_up {on : Nat → Int32} (h : onOK on) (p : Nat) {v : Int32} (hv : v = -1 ∨ ∃ c, c < 6 ∧ v = nI c) : onOK (upd on p v) := by
  intro q hq
  simp only [upd]
  split
  · exact hv
  · exact h q hq
theorem riseTo_on {ki mo fa lo : Nat → Int32} {say : Nat → (Nat → Int32) → Int32} {m : Int32} {s : ES} (h : onOK s.1) : ∀ i, onOK (riseTo ki mo fa lo say m s i).1
  | 0 => h
  | i + 1 => by
    unfold riseTo
    split
    · exact onOK_up (riseTo_on h i) i (Or.inl rfl)
    · exact riseTo_on h i
theorem tickTo_on {fr : Nat → Int32} {m : Int32} {s : ES} : ∀ i, (tickTo fr m s i).1 = s.1
  | 0 => rfl
  | i + 1 => by
    unfold tickTo
    split
    · exact tickTo_on i
    · split
      · exact tickTo_on i
      · exact tickTo_on i
theorem seatN_on {P C : Nat} (hC : C ≤ 6) {ki mo till f : Nat → Int32} {lent sty m : Int32} : ∀ (n : Nat) (s : SS), onOK s.1 → onOK (seatN P C ki mo till f lent sty m n s).1
  | 0, s, h => h
  | n + 1, s, h => by
    unfold seatN
    split
    · exact h
    · next p c hs =>
      refine seatN_on hC n _ (onOK_up h p (Or.inr ⟨c, ?_, rfl⟩))
      unfold seat1 at hs
      split at hs
      · next hb2 =>
        cases hs
        have := bestOf_lt hb2
        omega
      · cases hs
theorem minuteS_on {P C : Nat} (hC : C ≤ 6) {fr lo fa ki mo : Nat → Int32} {say : Nat → (Nat → Int32) → Int32} {lent sty m : Int32} {s : ES} (h : onOK s.1) : onOK (minuteS P C fr lo fa ki mo say lent sty m s).1 := by
  unfold minuteS
  rw [tickTo_on]
  exact seatN_on hC _ _ (riseTo_on h P)
