theorem cntR_m1 : ∀ n, cntR (fun _ => -1) n = 0
  | 0 => rfl
  | n + 1 => by simp [cntR, cntR_m1 n]
theorem upd_self {f : Nat → Int32} {i : Nat} {x : Int32} (h : x = f i) : upd f i x = f := by
  funext j
  simp only [upd]
  split
  · next e => rw [e, h]
  · rfl
section
variable {P C : Nat} {fr lo fa ki mo : Nat → Int32} {say : Nat → (Nat → Int32) → Int32} {lent sty : Int32}
theorem minute_rel {m : Int32} {s : ES} {t : MS} (hC : C ≤ 6) (hP : P ≤ 5) (hm : 0 ≤ m) (hmo : ∀ c, c < C → 0 ≤ mo c ∧ mo c ≤ 9) (hs : ∀ q f, 0 ≤ say q f ∧ say q f ≤ 99) (hR : REL P C s t) (hI : INV P C s) : REL P C (minuteS P C fr lo fa ki mo say lent sty m s) (mMinute P C fr lo fa ki mo say lent sty m t) ∧ INV P C (minuteS P C fr lo fa ki mo say lent sty m s) := by
  obtain ⟨h1, h2⟩ := riseTo_rel (ki := ki) (fa := fa) (lo := lo) hC hP hm hmo hs hR hI P (Nat.le_refl P)
  obtain ⟨h3, h4⟩ := sitS_rel (fr := fr) (fa := fa) (ki := ki) (mo := mo) (lent := lent) (sty := sty) (m := m) hC hP hs h1 h2
  exact tickTo_rel hC h3 h4 P (Nat.le_refl P)
theorem mRiseTo_idle {m : Int32} {t : MS} (h : ∀ q, q < P → t.1 q = -1) : ∀ i, i ≤ P → mRiseTo ki mo fa lo say m t i = t
  | 0, _ => rfl
  | i + 1, hi => by
    simp only [mRiseTo]
    rw [mRiseTo_idle h i (by omega), if_neg (fun q => q.1 (h i (by omega)))]
theorem mTickTo_idle {m : Int32} {t : MS} (h : ∀ q, q < P → t.1 q = -1 ∧ ¬ t.2.2.2.2.1 q = -1) : ∀ i, i ≤ P → mTickTo fr m t i = t
  | 0, _ => rfl
  | i + 1, hi => by
    simp only [mTickTo]
    rw [mTickTo_idle h i (by omega), if_pos (h i (by omega)).1, if_neg (fun q => (h i (by omega)).2 q.2.2), upd_self (by simp), upd_self (by simp)]
theorem mMinute_idle {m : Int32} {t : MS} (h : ∀ q, q < P → t.1 q = -1 ∧ ¬ t.2.2.2.2.1 q = -1) : mMinute P C fr lo fa ki mo say lent sty m t = t := by
  unfold mMinute
  rw [mRiseTo_idle (fun q hq => (h q hq).1) P (Nat.le_refl P)]
  have hn : ∀ q, q < P → turnF fr fa t.1 t.2.2.1 t.2.2.2.1 t.2.2.2.2.1 say m q = -1 := fun q hq => by
    unfold turnF
    rw [if_neg (fun z => (h q hq).2 z.2.2)]
  have hx : mNext P (t.1, t.2.1, t.2.2.2.2.2.2, turnF fr fa t.1 t.2.2.1 t.2.2.2.1 t.2.2.2.2.1 say m) = none := bestOf_none (fun q hq => decide_eq_false (fun z => z (hn q hq)))
  have e : mSitS P C fr ki mo fa say lent sty m t = t := by
    unfold mSitS
    cases hP : P with
    | zero => rfl
    | succ n =>
      rw [hP] at hx
      simp only [mSeatN, hx]
  rw [e]
  exact mTickTo_idle h P (Nat.le_refl P)
theorem mLive_idle {t : MS} (h : ∀ q, q < P → t.1 q = -1 ∧ ¬ t.2.2.2.2.1 q = -1) : ∀ (k i : Nat), mLive P C fr lo fa ki mo say lent sty k i t = t
  | 0, _ => rfl
  | k + 1, i => by
    simp only [mLive]
    rw [mMinute_idle h]
    exact mLive_idle h k (i + 1)
/-- THE EVENING OF THE ONE IS THE EVENING OF THE OTHER -/
theorem live_rel (hC : C ≤ 6) (hP : P ≤ 5) (hmo : ∀ c, c < C → 0 ≤ mo c ∧ mo c ≤ 9) (hs : ∀ q f, 0 ≤ say q f ∧ say q f ≤ 99) : ∀ (k i : Nat) (s : ES) (t : MS), i + k ≤ 1000 → REL P C s t → INV P C s → REL P C (liveS P C fr lo fa ki mo say lent sty k i s) (mLive P C fr lo fa ki mo say lent sty k i t) ∧ INV P C (liveS P C fr lo fa ki mo say lent sty k i s)
  | 0, i, s, t, _, hR, hI => ⟨hR, hI⟩
  | k + 1, i, s, t, hk, hR, hI => by
    simp only [liveS]
    by_cases hc : nI P ≤ s.2.2.2.2.2.2.2.2
    · rw [if_pos hc]
      rw [hI.2.2.2.2.1] at hc
      have hle := cntR_le s.2.2.2.2.1 P
      have hge : P ≤ cntR s.2.2.2.2.1 P := (nI_leI (by omega) (by omega)).mp hc
      have hfull := cntR_full (n := P) (by omega : cntR s.2.2.2.2.1 P = P)
      rw [mLive_idle (fun q hq => by
        obtain ⟨a1, -, -, -, a5⟩ := hR.1 q hq
        rw [← a1, ← a5]
        exact ⟨hI.2.2.2.2.2 q hq (hfull q hq), hfull q hq⟩)]
      exact ⟨hR, hI⟩
    · rw [if_neg hc]
      simp only [mLive]
      obtain ⟨h1, h2⟩ := minute_rel (fr := fr) (lo := lo) (fa := fa) (ki := ki) (lent := lent) (sty := sty) (m := nI i) hC hP (nI_pos' (by omega)) hmo hs hR hI
      exact live_rel hC hP hmo hs k (i + 1) _ _ (by omega) h1 h2
theorem start_rel (wset wfor : Int32) (x : MS) : REL P C (startS wset wfor) (mStart P C wset wfor x) ∧ INV P C (startS wset wfor) := by
  refine ⟨⟨fun q hq => ?_, fun c hc => ?_⟩, fun q hq => Or.inl rfl, fun q hq => Or.inl rfl, fun c hc => Or.inl rfl, ?_, ?_, fun q hq h => rfl⟩
  · simp [startS, mStart, mixF, hq]
  · simp [startS, mStart, mixF, hc]
  · show (0 : Int32) = _
    rw [setOf_congr (g := fun _ => false) (fun j hj => by simp [startS])]
    decide
  · show (0 : Int32) = nI (cntR (fun _ => -1) P)
    rw [cntR_m1]
    rfl
theorem evening (hC : C ≤ 6) (hP : P ≤ 5) (hmo : ∀ c, c < C → 0 ≤ mo c ∧ mo c ≤ 9) (hs : ∀ q f, 0 ≤ say q f ∧ say q f ≤ 99) (wset wfor : Int32) (x : MS) (N : Nat) (hN : N ≤ 30) : REL P C (liveS P C fr lo fa ki mo say lent sty N 0 (startS wset wfor)) (mLive P C fr lo fa ki mo say lent sty N 0 (mStart P C wset wfor x)) ∧ INV P C (liveS P C fr lo fa ki mo say lent sty N 0 (startS wset wfor)) :=
  live_rel hC hP hmo hs N 0 _ _ (by omega) (start_rel wset wfor x).1 (start_rel wset wfor x).2
end
