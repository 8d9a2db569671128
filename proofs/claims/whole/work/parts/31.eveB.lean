theorem upd_s {f : Nat → Int32} {k : Nat} {x : Int32} : upd f k x k = x := pk_us
theorem upd_n {f : Nat → Int32} {k j : Nat} {x : Int32} (h : ¬ j = k) : upd f k x j = f j := pk_un h
theorem upd_c {f g : Nat → Int32} {k j : Nat} {x y : Int32} (h : f j = g j) (hx : x = y) : upd f k x j = upd g k y j := by
  simp only [upd, h, hx]
theorem setOf_congr {f g : Nat → Bool} : ∀ {n : Nat}, (∀ j, j < n → f j = g j) → setOf f n = setOf g n
  | 0, _ => rfl
  | n + 1, h => by
    simp only [setOf]
    rw [h n (by omega), setOf_congr (fun j hj => h j (by omega))]
section
variable {P C : Nat} {ki mo fa lo fr : Nat → Int32} {say : Nat → (Nat → Int32) → Int32} {m lent sty : Int32}
theorem rise_rel {s : ES} {t : MS} {i c : Nat} (hC : C ≤ 6) (hi : i < P) (hc : c < C) (hP : P ≤ 5) (hm : 0 ≤ m) (hmo : ∀ c, c < C → 0 ≤ mo c ∧ mo c ≤ 9) (hs : ∀ q f, 0 ≤ say q f ∧ say q f ≤ 99) (hR : REL P C s t) (hI : INV P C s) (ho : s.1 i = nI c) : REL P C (rise1 ki mo fa say m s i c) (mRise1 ki mo fa say m t i c) ∧ INV P C (rise1 ki mo fa say m s i c) := by
  obtain ⟨r1, r2⟩ := hR
  obtain ⟨i1, i2, i3, i4, i5, i6⟩ := hI
  obtain ⟨-, -, e3, e4, -⟩ := r1 i hi
  have hrose : s.2.2.2.2.1 i = -1 := Classical.byContradiction fun h => m1_nI (n := c) (by omega) (ho.symm.trans (i6 i hi h))
  have hmn : ¬ m = -1 := fun e => absurd hm (by rw [e]; decide)
  refine ⟨⟨fun q hq => ?_, fun d hd => ?_⟩, fun q hq => ?_, fun q hq => ?_, fun d hd => ?_, ?_, ?_, fun q hq hn => ?_⟩
  · obtain ⟨a1, a2, a3, a4, a5⟩ := r1 q hq
    exact ⟨upd_c a1 rfl, a2, a3, a4, upd_c a5 rfl⟩
  · obtain ⟨a1, a2⟩ := r2 d hd
    refine ⟨upd_c a1 ?_, upd_c a2 rfl⟩
    rw [eKeep_pos (hmo c hc) hs, eKeep_congr e3 e4]
  · show upd s.1 i (-1) q = -1 ∨ ∃ c, c < C ∧ upd s.1 i (-1) q = nI c
    by_cases h : q = i
    · subst h; exact Or.inl upd_s
    · rw [upd_n h]; exact i1 q hq
  · show upd s.2.2.2.2.1 i m q = -1 ∨ 0 ≤ upd s.2.2.2.2.1 i m q
    by_cases h : q = i
    · subst h; rw [upd_s]; exact Or.inr hm
    · rw [upd_n h]; exact i2 q hq
  · show upd s.2.2.2.2.2.2.1 c (-1) d = -1 ∨ 0 ≤ upd s.2.2.2.2.2.2.1 c (-1) d
    by_cases h : d = c
    · subst h; exact Or.inl upd_s
    · rw [upd_n h]; exact i3 d hd
  · show s.2.2.2.2.2.2.2.1 &&& (((1 : Int32) <<< ((nI c) &&& 31)) ^^^ (-1)) = setOf (fun d => decide (d < C ∧ ¬ upd s.2.2.2.2.2.2.1 c (-1) d = -1)) 6
    rw [i4, setOf_clear _ (by omega)]
    apply setOf_congr
    intro j hj
    by_cases h : j = c
    · subst h; simp [upd_s]
    · rw [upd_n h]; simp [Ne.symm h]
  · show s.2.2.2.2.2.2.2.2 + 1 = nI (cntR (upd s.2.2.2.2.1 i m) P)
    rw [i5, cntR_upd hrose hmn, if_pos hi, nI_1]
  · show upd s.1 i (-1) q = -1
    have hn : ¬ upd s.2.2.2.2.1 i m q = -1 := hn
    by_cases h : q = i
    · subst h; exact upd_s
    · rw [upd_n h] at hn ⊢; exact i6 q hq hn
theorem riseTo_rel {s : ES} {t : MS} (hC : C ≤ 6) (hP : P ≤ 5) (hm : 0 ≤ m) (hmo : ∀ c, c < C → 0 ≤ mo c ∧ mo c ≤ 9) (hs : ∀ q f, 0 ≤ say q f ∧ say q f ≤ 99) (hR : REL P C s t) (hI : INV P C s) : ∀ i, i ≤ P → REL P C (riseTo ki mo fa lo say m s i) (mRiseTo ki mo fa lo say m t i) ∧ INV P C (riseTo ki mo fa lo say m s i)
  | 0, _ => ⟨hR, hI⟩
  | i + 1, hi => by
    obtain ⟨h1, h2⟩ := riseTo_rel hC hP hm hmo hs hR hI i (by omega)
    obtain ⟨a1, -, a3, -⟩ := h1.1 i (by omega)
    have hon := h2.1 i (by omega)
    simp only [riseTo, mRiseTo]
    rw [← a1, ← a3]
    have hor : (riseTo ki mo fa lo say m s i).1 i = -1 ∨ 0 ≤ (riseTo ki mo fa lo say m s i).1 i := hon.imp id (fun ⟨c, hc, e⟩ => by rw [e]; exact nI_pos' (by omega))
    have hk := m1_pos hor
    by_cases hc : ¬ (riseTo ki mo fa lo say m s i).1 i = -1 ∧ lo i ≤ (riseTo ki mo fa lo say m s i).2.2.1 i
    · rw [if_pos ⟨hk.mpr hc.1, hc.2⟩, if_pos hc]
      rcases hon with h | ⟨c, hcC, e⟩
      · exact absurd h hc.1
      · rw [e, nI_clamp (by omega)]
        exact rise_rel hC (by omega) hcC hP hm hmo hs h1 h2 e
    · rw [if_neg (fun h => hc ⟨hk.mp h.1, h.2⟩), if_neg hc]
      exact ⟨h1, h2⟩
theorem wants_iff {s : ES} {t : MS} (hR : REL P C s t) (hI : INV P C s) {q : Nat} (hq : q < P) (hC : C ≤ 6) : eWants fr s.1 s.2.2.2.2.1 q m ↔ mWants fr t.1 t.2.2.2.2.1 q m := by
  obtain ⟨a1, -, -, -, a5⟩ := hR.1 q hq
  have h1 : s.1 q = -1 ∨ 0 ≤ s.1 q := (hI.1 q hq).imp id (fun ⟨c, hc, e⟩ => by rw [e]; exact nI_pos' (by omega))
  unfold eWants mWants
  rw [m1_neg h1, m1_neg (hI.2.1 q hq), a1, a5]
theorem tickTo_rel {s : ES} {t : MS} (hC : C ≤ 6) (hR : REL P C s t) (hI : INV P C s) : ∀ i, i ≤ P → REL P C (tickTo fr m s i) (mTickTo fr m t i) ∧ INV P C (tickTo fr m s i)
  | 0, _ => ⟨hR, hI⟩
  | i + 1, hi => by
    obtain ⟨h1, h2⟩ := tickTo_rel hC hR hI i (by omega)
    obtain ⟨a1, a2, a3, a4, a5⟩ := h1.1 i (by omega)
    have hor : (tickTo fr m s i).1 i = -1 ∨ 0 ≤ (tickTo fr m s i).1 i := (h2.1 i (by omega)).imp id (fun ⟨c, hc, e⟩ => by rw [e]; exact nI_pos' (by omega))
    have hw := wants_iff (fr := fr) (m := m) h1 h2 (q := i) (by omega) hC
    simp only [tickTo, mTickTo]
    have hk := m1_pos hor
    by_cases hc : (tickTo fr m s i).1 i = -1
    · have hc2 : (mTickTo fr m t i).1 i = -1 := a1.symm.trans hc
      rw [if_neg (fun h => hk.mp h hc), if_pos hc2]
      by_cases hv : eWants fr (tickTo fr m s i).1 (tickTo fr m s i).2.2.2.2.1 i m
      · rw [if_pos hv, if_pos (hw.mp hv)]
        refine ⟨⟨fun q hq => ?_, h1.2⟩, h2⟩
        obtain ⟨b1, b2, b3, b4, b5⟩ := h1.1 q hq
        refine ⟨b1, b2, ?_, upd_c b4 (by rw [a4]), b5⟩
        by_cases e : q = i
        · subst e; show _ = upd _ _ _ _; rw [upd_s, b3]; simp
        · show _ = upd _ _ _ _; rw [upd_n e]; exact b3
      · rw [if_neg hv, if_neg (fun h => hv (hw.mpr h))]
        refine ⟨⟨fun q hq => ?_, h1.2⟩, h2⟩
        obtain ⟨b1, b2, b3, b4, b5⟩ := h1.1 q hq
        refine ⟨b1, b2, ?_, ?_, b5⟩
        · by_cases e : q = i
          · subst e; show _ = upd _ _ _ _; rw [upd_s, b3]; simp
          · show _ = upd _ _ _ _; rw [upd_n e]; exact b3
        · by_cases e : q = i
          · subst e; show _ = upd _ _ _ _; rw [upd_s, b4]; simp
          · show _ = upd _ _ _ _; rw [upd_n e]; exact b4
    · have hc2 : ¬ (mTickTo fr m t i).1 i = -1 := fun h => hc (a1.trans h)
      have hv : ¬ mWants fr (mTickTo fr m t i).1 (mTickTo fr m t i).2.2.2.2.1 i m := fun h => hc2 h.2.1
      rw [if_pos (hk.mpr hc), if_neg hc2, if_neg hv]
      refine ⟨⟨fun q hq => ?_, h1.2⟩, h2⟩
      obtain ⟨b1, b2, b3, b4, b5⟩ := h1.1 q hq
      refine ⟨b1, b2, upd_c b3 (by rw [a3]), ?_, b5⟩
      by_cases e : q = i
      · subst e; show _ = upd _ _ _ _; rw [upd_s, b4]; simp
      · show _ = upd _ _ _ _; rw [upd_n e]; exact b4
end
