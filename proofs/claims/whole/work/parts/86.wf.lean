/-! what the reader lays can be worked out on a stack of 40, and both sides work out the same -/
def dpS (c : Int32) (t : Nat) : Nat := if c < 10006 then t + 1 else if c = 10013 ∨ c = 10014 then t else t - 1
def dkS (c : Int32) (t : Nat) : Prop := (0 ≤ c ∧ c < 10006 ∧ t < 40) ∨ ((c = 10013 ∨ c = 10014) ∧ 1 ≤ t ∧ t ≤ 40) ∨ ((c = 10006 ∨ c = 10007 ∨ c = 10008 ∨ c = 10009 ∨ c = 10010 ∨ c = 10011 ∨ c = 10012) ∧ 2 ≤ t ∧ t ≤ 40)
def dpL : List Int32 → Nat → Nat
  | [], t => t
  | c :: E, t => dpS c (dpL E t)
def dkL : List Int32 → Nat → Prop
  | [], _ => True
  | c :: E, t => dkL E t ∧ dkS c (dpL E t)
def GdE (K : Nat) (E : List Int32) : Prop := ∀ t, t + K ≤ 40 → dkL E t ∧ dpL E t = t + 1
theorem dpL_app (E2 E1 : List Int32) (t : Nat) : dpL (E2 ++ E1) t = dpL E2 (dpL E1 t) := by
  induction E2 with
  | nil => rfl
  | cons c E ih => simp only [List.cons_append, dpL]; rw [ih]
theorem dkL_app (E2 E1 : List Int32) (t : Nat) : dkL (E2 ++ E1) t ↔ dkL E1 t ∧ dkL E2 (dpL E1 t) := by
  induction E2 with
  | nil => simp [dkL]
  | cons c E ih => simp only [List.cons_append, dkL, dpL_app]; rw [ih]; exact and_assoc
theorem GdE.up {K K' : Nat} {E : List Int32} (h : GdE K E) (hk : K ≤ K') : GdE K' E := fun t ht => h t (by omega)
def bnT (v : Int32) : Prop := v = 10006 ∨ v = 10007 ∨ v = 10008 ∨ v = 10009 ∨ v = 10010 ∨ v = 10011 ∨ v = 10012
theorem GdE.bin {K : Nat} {E1 E2 : List Int32} {v : Int32} (hK : 1 ≤ K) (h1 : GdE (K + 1) E1) (h2 : GdE K E2) (hv : bnT v) : GdE (K + 1) (v :: (E2 ++ E1)) := by
  intro t ht
  obtain ⟨a1, b1⟩ := h1 t ht
  obtain ⟨a2, b2⟩ := h2 (t + 1) (by omega)
  have hd : dpL (E2 ++ E1) t = t + 1 + 1 := by rw [dpL_app, b1, b2]
  refine ⟨⟨(dkL_app _ _ _).mpr ⟨a1, by rw [b1]; exact a2⟩, ?_⟩, ?_⟩
  · rw [hd]; exact Or.inr (Or.inr ⟨hv, by omega, by omega⟩)
  · show dpS v (dpL (E2 ++ E1) t) = t + 1
    rw [hd]
    unfold dpS
    rcases hv with rfl | rfl | rfl | rfl | rfl | rfl | rfl <;> rfl
theorem GdE.un {K : Nat} {E : List Int32} {v : Int32} (hK : 1 ≤ K) (h : GdE K E) (hv : v = 10013 ∨ v = 10014) : GdE K (v :: E) := by
  intro t ht
  obtain ⟨a1, b1⟩ := h t ht
  refine ⟨⟨a1, ?_⟩, ?_⟩
  · rw [b1]; exact Or.inr (Or.inl ⟨hv, by omega, by omega⟩)
  · show dpS v (dpL E t) = t + 1
    rw [b1]
    unfold dpS
    rcases hv with rfl | rfl <;> rfl
/-- f lays what is worth one -/
def GdR (c0 : Nat → Int32) (K : Nat) (f : RD) : Prop := ∀ s O, s.cn = O.length → s.cd = cdP c0 O → (f s).1 = true → ∃ E, GdE K E ∧ (f s).2.cn = (E ++ O).length ∧ (f s).2.cd = cdP c0 (E ++ O)
section
variable {B c0 : Nat → Int32} {N : Nat}
theorem em_cd {v : Int32} {s : TS} {O : List Int32} (h1 : s.cn = O.length) (h2 : s.cd = cdP c0 O) (h : (emS v s).1 = true) : (emS v s).2.cn = (v :: O).length ∧ (emS v s).2.cd = cdP c0 (v :: O) := by
  by_cases hc : s.cn < 160
  · have he : emS v s = (true, ⟨s.pl, s.ta, s.tk, s.cn + 1, upd s.cd s.cn v⟩) := by unfold emS; rw [if_pos hc]
    rw [he]
    refine ⟨?_, ?_⟩
    · show s.cn + 1 = O.length + 1; omega
    · show upd s.cd s.cn v = upd (cdP c0 O) O.length v; rw [h1, h2]
  · have he : emS v s = (false, s) := by unfold emS; rw [if_neg hc]
    rw [he] at h
    cases h
theorem sq_tt {f g : RD} {s : TS} (h : (sqR f g s).1 = true) : (f s).1 = true ∧ sqR f g s = g (f s).2 := by
  have he : sqR f g s = if (f s).1 = true then g (f s).2 else f s := rfl
  by_cases hc : (f s).1 = true
  · exact ⟨hc, by rw [he, if_pos hc]⟩
  · rw [he, if_neg hc] at h
    exact absurd h hc
theorem ps_cd {x : Int32} {s : TS} : (psS B N x s).2.cn = s.cn ∧ (psS B N x s).2.cd = s.cd := by
  unfold psS
  split
  · exact ⟨rfl, rfl⟩
  · exact ⟨rfl, rfl⟩
theorem gd_chain {K : Nat} {c : Int32 → Prop} [DecidablePred c] {f : RD} (hK : 1 ≤ K) (hf : GdR c0 K f) (hc : ∀ t, c t → bnT t) : GdR c0 (K + 1) (chR B N c f) := by
  have loop : ∀ n s O0 E, GdE (K + 1) E → s.cn = (E ++ O0).length → s.cd = cdP c0 (E ++ O0) → (lpR c (bdR B N f) n s).1 = true → ∃ E', GdE (K + 1) E' ∧ (lpR c (bdR B N f) n s).2.cn = (E' ++ O0).length ∧ (lpR c (bdR B N f) n s).2.cd = cdP c0 (E' ++ O0) := by
    intro n
    induction n with
    | zero => intro s O0 E hE h1 h2 _; exact ⟨E, hE, h1, h2⟩
    | succ n ih =>
      intro s O0 E hE h1 h2 h
      by_cases hct : c s.tk
      · have hlp : lpR c (bdR B N f) (n + 1) s = if (bdR B N f s.tk s).1 = true then lpR c (bdR B N f) n (bdR B N f s.tk s).2 else bdR B N f s.tk s := by
          show (if c s.tk then _ else _) = _
          rw [if_pos hct]
        by_cases hb : (bdR B N f s.tk s).1 = true
        · rw [hlp, if_pos hb] at h ⊢
          obtain ⟨hb1, hb2⟩ := sq_tt hb
          obtain ⟨E1, hE1, q1, q2⟩ := hf (lkS B N s) (E ++ O0) h1 h2 hb1
          have hb3 : (emS s.tk (f (lkS B N s)).2).1 = true := by rw [← hb]; exact congrArg Prod.fst hb2.symm
          obtain ⟨r1, r2⟩ := em_cd q1 q2 hb3
          have hb2 : bdR B N f s.tk s = emS s.tk (f (lkS B N s)).2 := hb2
          rw [hb2] at h ⊢
          exact ih _ O0 (s.tk :: (E1 ++ E)) (hE.bin hK hE1 (hc _ hct)) (by rw [r1]; simp) (by rw [r2]; simp) h
        · rw [hlp, if_neg hb] at h
          exact absurd h hb
      · have hlp : lpR c (bdR B N f) (n + 1) s = (true, s) := by
          show (if c s.tk then _ else _) = _
          rw [if_neg hct]
        rw [hlp]
        exact ⟨E, hE, h1, h2⟩
  intro s O h1 h2 h
  obtain ⟨hf1, he⟩ := sq_tt h
  have he : chR B N c f s = lpR c (bdR B N f) 160 (f s).2 := he
  rw [he] at h ⊢
  obtain ⟨E, hE, q1, q2⟩ := hf s O h1 h2 hf1
  exact loop 160 _ O E (hE.up (by omega)) q1 q2 h
theorem gd_un {K : Nat} {f : RD} {v : Int32} (hK : 1 ≤ K) (hf : GdR c0 K f) (hv : v = 10013 ∨ v = 10014) : GdR c0 K (bdR B N f v) := by
  intro s O h1 h2 h
  obtain ⟨hb1, hb2⟩ := sq_tt h
  obtain ⟨E1, hE1, q1, q2⟩ := hf (lkS B N s) O h1 h2 hb1
  have hb2 : bdR B N f v s = emS v (f (lkS B N s)).2 := hb2
  rw [hb2] at h ⊢
  obtain ⟨r1, r2⟩ := em_cd q1 q2 h
  exact ⟨v :: E1, hE1.un hK hv, r1, r2⟩
theorem GdR.up {K K' : Nat} {f : RD} (h : GdR c0 K f) (hk : K ≤ K') : GdR c0 K' f := fun s O h1 h2 h3 => by
  obtain ⟨E, a, b⟩ := h s O h1 h2 h3
  exact ⟨E, a.up hk, b⟩
theorem gd_cmp {K : Nat} {f : RD} (hK : 1 ≤ K) (hf : GdR c0 K f) : GdR c0 (K + 1) (sqR f (cpR B N f)) := by
  intro s O h1 h2 h
  obtain ⟨hf1, he⟩ := sq_tt h
  rw [he] at h ⊢
  obtain ⟨E, hE, q1, q2⟩ := hf s O h1 h2 hf1
  generalize (f s).2 = s1 at q1 q2 h
  by_cases hc : s1.tk = 10008 ∨ s1.tk = 10009
  · have hcp : cpR B N f s1 = bdR B N f s1.tk s1 := by unfold cpR; rw [if_pos hc]
    rw [hcp] at h ⊢
    obtain ⟨hb1, hb2⟩ := sq_tt h
    obtain ⟨E1, hE1, r1, r2⟩ := hf (lkS B N s1) (E ++ O) q1 q2 hb1
    have hb2 : bdR B N f s1.tk s1 = emS s1.tk (f (lkS B N s1)).2 := hb2
    rw [hb2] at h ⊢
    obtain ⟨u1, u2⟩ := em_cd r1 r2 h
    refine ⟨s1.tk :: (E1 ++ E), (hE.up (by omega)).bin hK hE1 ?_, by rw [u1]; simp, by rw [u2]; simp⟩
    rcases hc with e | e
    · exact Or.inr (Or.inr (Or.inl e))
    · exact Or.inr (Or.inr (Or.inr (Or.inl e)))
  · have hcp : cpR B N f s1 = (true, s1) := by unfold cpR; rw [if_neg hc]
    rw [hcp]
    exact ⟨E, hE.up (by omega), q1, q2⟩
theorem gd_op {n : Nat} {lo : Option (RD × RD × RD)} (hl : ∀ l, lo = some l → ∃ n', n = n' + 1 ∧ GdR c0 (1 + 5 * n') l.1 ∧ GdR c0 (6 + 5 * n') l.2.2) : GdR c0 (1 + 5 * n) (opR B N lo) := by
  intro s O h1 h2 h
  by_cases hnum : 0 ≤ s.tk ∧ s.tk < 10006
  · have hop : opR B N lo s = emS s.tk (lkS B N s) := by
      show (if 0 ≤ s.tk ∧ s.tk < 10006 then _ else _) = _
      exact if_pos hnum
    rw [hop] at h ⊢
    obtain ⟨u1, u2⟩ := em_cd (s := lkS B N s) h1 h2 h
    refine ⟨[s.tk], fun t ht => ⟨⟨trivial, Or.inl ⟨hnum.1, hnum.2, by show t < 40; omega⟩⟩, ?_⟩, u1, u2⟩
    show dpS s.tk t = t + 1
    unfold dpS
    rw [if_pos hnum.2]
  · cases lo with
    | none =>
      have hop : opR B N none s = (false, s) := by
        show (if 0 ≤ s.tk ∧ s.tk < 10006 then _ else _) = _
        exact if_neg hnum
      rw [hop] at h
      cases h
    | some l =>
      obtain ⟨n', hn, hl1, hl3⟩ := hl l rfl
      have hop : opR B N (some l) s = if s.tk = 10011 then bdR B N l.1 10014 s else sqR (psS B N (-3)) (sqR l.2.2 (psS B N (-4))) s := by
        show (if 0 ≤ s.tk ∧ s.tk < 10006 then _ else _) = _
        exact if_neg hnum
      rw [hop] at h ⊢
      by_cases hm : s.tk = 10011
      · rw [if_pos hm] at h ⊢
        exact ((gd_un (B := B) (N := N) (by omega) hl1 (Or.inr rfl)).up (by omega)) s O h1 h2 h
      · rw [if_neg hm] at h ⊢
        obtain ⟨a1, a2⟩ := sq_tt h
        rw [a2] at h ⊢
        obtain ⟨b1, b2⟩ := sq_tt h
        rw [b2] at h ⊢
        obtain ⟨E, hE, q1, q2⟩ := hl3 (psS B N (-3) s).2 O (by rw [ps_cd.1]; exact h1) (by rw [ps_cd.2]; exact h2) b1
        exact ⟨E, hE.up (by omega), by rw [ps_cd.1]; exact q1, by rw [ps_cd.2]; exact q2⟩
theorem gd_nt {n : Nat} {f : RD} {lo : Option (RD × RD × RD)} (hf : GdR c0 (1 + 5 * n) f) (hl : ∀ l, lo = some l → ∃ n', n = n' + 1 ∧ GdR c0 (4 + 5 * n') l.2.1) : GdR c0 (4 + 5 * n) (ntR B N lo f) := by
  intro s O h1 h2 h
  by_cases ht : s.tk = 10013
  · cases lo with
    | none =>
      have hnt : ntR B N none f s = (false, s) := by
        show (if s.tk = 10013 then _ else _) = _
        exact if_pos ht
      rw [hnt] at h
      cases h
    | some l =>
      obtain ⟨n', hn, hl2⟩ := hl l rfl
      have hnt : ntR B N (some l) f s = bdR B N l.2.1 10013 s := by
        show (if s.tk = 10013 then _ else _) = _
        exact if_pos ht
      rw [hnt] at h ⊢
      exact ((gd_un (B := B) (N := N) (by omega) hl2 (Or.inl rfl)).up (by omega)) s O h1 h2 h
  · have hnt : ntR B N lo f s = sqR (smR B N f) (cpR B N (smR B N f)) s := by
      show (if s.tk = 10013 then _ else _) = _
      exact if_neg ht
    rw [hnt] at h ⊢
    have hs : GdR c0 (1 + 5 * n + 1 + 1) (smR B N f) := gd_chain (by omega) (gd_chain (by omega) hf (fun t ht => by obtain rfl : t = 10012 := ht; exact Or.inr (Or.inr (Or.inr (Or.inr (Or.inr (Or.inr rfl)))))))
      (fun t ht => by rcases ht with rfl | rfl <;> (unfold bnT; decide))
    exact ((gd_cmp (B := B) (N := N) (by omega) hs).up (by omega)) s O h1 h2 h
theorem gd_ei {n : Nat} {f : RD} (hf : GdR c0 (4 + 5 * n) f) : GdR c0 (6 + 5 * n) (eiR B N f) := by
  have h1 : GdR c0 (4 + 5 * n + 1) (chR B N (eqT 10007) f) := gd_chain (by omega) hf (fun t ht => by obtain rfl : t = 10007 := ht; exact Or.inr (Or.inl rfl))
  have h2 : GdR c0 (4 + 5 * n + 1 + 1) (chR B N (eqT 10006) (chR B N (eqT 10007) f)) := gd_chain (by omega) h1 (fun t ht => by obtain rfl : t = 10006 := ht; exact Or.inl rfl)
  exact h2.up (by omega)
theorem gd_all : ∀ n, GdR c0 (1 + 5 * n) (rdL B N n).1 ∧ GdR c0 (4 + 5 * n) (rdL B N n).2.1 ∧ GdR c0 (6 + 5 * n) (rdL B N n).2.2
  | 0 => by
    have h1 : GdR c0 (1 + 5 * 0) (opR B N none) := gd_op (fun l h => by cases h)
    have h2 : GdR c0 (4 + 5 * 0) (ntR B N none (opR B N none)) := gd_nt h1 (fun l h => by cases h)
    exact ⟨h1, h2, gd_ei h2⟩
  | n + 1 => by
    obtain ⟨i1, i2, i3⟩ := gd_all n
    have h1 : GdR c0 (1 + 5 * (n + 1)) (opR B N (some (rdL B N n))) := gd_op (fun l h => by cases h; exact ⟨n, rfl, i1, i3⟩)
    have h2 : GdR c0 (4 + 5 * (n + 1)) (ntR B N (some (rdL B N n)) (opR B N (some (rdL B N n)))) := gd_nt h1 (fun l h => by cases h; exact ⟨n, rfl, i2⟩)
    exact ⟨h1, h2, gd_ei h2⟩
end
/-- in rows -/
def dpR (cd : Nat → Int32) (a : Nat) : Nat → Nat
  | 0 => 0
  | n + 1 => dpS (cd (a + n)) (dpR cd a n)
theorem dk_rows {c0 cd : Nat → Int32} (O0 : List Int32) : ∀ E, dkL E 0 → (∀ i, i < E.length → cd (O0.length + i) = cdP c0 (E ++ O0) (O0.length + i)) → (∀ i, i < E.length → dkS (cd (O0.length + i)) (dpR cd O0.length i)) ∧ dpR cd O0.length E.length = dpL E 0 := by
  intro E
  induction E with
  | nil => intro _ _; exact ⟨fun i h => absurd h (Nat.not_lt_zero i), rfl⟩
  | cons c E ih =>
    intro hk hc
    have hl : (E ++ O0).length = O0.length + E.length := by rw [List.length_append]; omega
    obtain ⟨i1, i2⟩ := ih hk.1 (fun i h => by
      rw [hc i (Nat.lt_succ_of_lt h)]
      show upd (cdP c0 (E ++ O0)) (E ++ O0).length c (O0.length + i) = _
      unfold upd
      rw [if_neg (by omega)])
    have hlast : cd (O0.length + E.length) = c := by
      rw [hc E.length (Nat.lt_succ_self _)]
      show upd (cdP c0 (E ++ O0)) (E ++ O0).length c (O0.length + E.length) = c
      unfold upd
      rw [if_pos (by omega)]
    refine ⟨fun i h => ?_, ?_⟩
    · rcases Nat.lt_or_ge i E.length with g | g
      · exact i1 i g
      · obtain rfl : i = E.length := by have : i < E.length + 1 := h; omega
        rw [hlast, i2]
        exact hk.2
    · show dpS (cd (O0.length + E.length)) (dpR cd O0.length E.length) = dpS c (dpL E 0)
      rw [hlast, i2]
theorem dk_ok {c : Int32} {t : Nat} (h : dkS c t) : dOK (cC c) t ∧ dStep (cC c) t = dpS c t := by
  rcases h with ⟨h1, h2, h3⟩ | ⟨h1, h2, h3⟩ | ⟨h1, h2, h3⟩
  · by_cases h4 : c < 10000
    · have hc : cC c = 100000 + c := by unfold cC; rw [if_pos ⟨h1, h4⟩]
      have hge : (100000 : Int32) ≤ 100000 + c := by
        rw [Int32.le_iff_toInt_le, Int32.toInt_add]
        have a1 := Int32.le_iff_toInt_le.mp h1
        have a2 := Int32.lt_iff_toInt_lt.mp h4
        have e1 : (0 : Int32).toInt = 0 := rfl
        have e2 : (10000 : Int32).toInt = 10000 := rfl
        have e3 : (100000 : Int32).toInt = 100000 := rfl
        rw [e1] at a1; rw [e2] at a2; rw [e3]
        rw [Int.bmod_def]
        split <;> omega
      refine ⟨?_, ?_⟩
      · rw [hc]
        refine ⟨fun _ => by omega, fun h => ?_, fun h => ?_, fun _ h => ?_⟩
        · exact absurd hge (Int32.not_le.mpr (Int32.lt_trans h (by decide)))
        · rcases h with e | e <;> (rw [e] at hge; exact absurd hge (by decide))
        · exact absurd hge (Int32.not_le.mpr h)
      · rw [hc]
        unfold dStep dpS
        rw [if_pos (Or.inl hge), if_pos h2]
    · have h4' := Int32.not_lt.mp h4
      have hc : cC c = c - 10000 := by unfold cC; rw [if_neg (fun q => h4 q.2), if_pos ⟨h1, h2⟩]
      have hr : (c - 10000).toInt = c.toInt - 10000 ∧ 10000 ≤ c.toInt ∧ c.toInt < 10006 := by
        have a1 := Int32.le_iff_toInt_le.mp h4'
        have a2 := Int32.lt_iff_toInt_lt.mp h2
        have e1 : (10006 : Int32).toInt = 10006 := rfl
        have e2 : (10000 : Int32).toInt = 10000 := rfl
        rw [e2] at a1; rw [e1] at a2
        refine ⟨?_, a1, a2⟩
        rw [Int32.toInt_sub, e2, Int.bmod_def]
        split <;> omega
      have hlt : c - 10000 < 11 := by rw [Int32.lt_iff_toInt_lt, hr.1]; show c.toInt - 10000 < 11; omega
      refine ⟨?_, ?_⟩
      · rw [hc]
        refine ⟨fun h => ?_, fun _ => ⟨?_, ?_, by omega⟩, fun h => ?_, fun h => ?_⟩
        · exact absurd h (Int32.not_le.mpr (Int32.lt_trans hlt (by decide)))
        · rw [Int32.le_iff_toInt_le, hr.1]; show 0 ≤ c.toInt - 10000; omega
        · rw [Int32.lt_iff_toInt_lt, hr.1]; show c.toInt - 10000 < 6; omega
        · rcases h with e | e <;> (rw [e] at hlt; exact absurd hlt (by decide))
        · exact absurd hlt (Int32.not_lt.mpr h)
      · rw [hc]
        unfold dStep dpS
        rw [if_pos (Or.inr hlt), if_pos h2]
  · rcases h1 with rfl | rfl
    · exact ⟨⟨fun h => absurd h (by decide), fun h => absurd h (by decide), fun _ => ⟨h2, by omega⟩, fun _ _ h => absurd (show cC 10013 = 13 by decide) h⟩, rfl⟩
    · exact ⟨⟨fun h => absurd h (by decide), fun h => absurd h (by decide), fun _ => ⟨h2, by omega⟩, fun _ _ _ h => absurd (show cC 10014 = 19 by decide) h⟩, rfl⟩
  · rcases h1 with rfl | rfl | rfl | rfl | rfl | rfl | rfl <;>
    exact ⟨⟨fun h => absurd h (by decide), fun h => absurd h (by decide), fun h => absurd h (by decide), fun _ _ _ _ => ⟨h2, by omega⟩⟩, rfl⟩
/-- one code on both stacks -/
theorem two_step {named : Nat → Int32} {c : Int32} {f g : Nat → Int32} {t : Nat} (h : dkS c t) (hv : ∀ j, j < t → f j = g j) :
    (sStep named c (f, t)).2 = dpS c t ∧ (mStep named (cC c) (g, t)).2 = dpS c t ∧ ∀ j, j < dpS c t → (sStep named c (f, t)).1 j = (mStep named (cC c) (g, t)).1 j := by
  have hm2 : (mStep named (cC c) (g, t)).2 = dpS c t := by rw [mStep_d]; exact (dk_ok h).2
  have hup : ∀ (k : Nat) (x y : Int32), x = y → ∀ j, (j < t ∨ j = k) → upd f k x j = upd g k y j := by
    intro k x y hxy j hj
    unfold upd
    split
    · exact hxy
    · next hne => exact hv j (by omega)
  rcases h with ⟨h1, h2, h3⟩ | ⟨h1, h2, h3⟩ | ⟨h1, h2, h3⟩
  · have hd : dpS c t = t + 1 := by unfold dpS; rw [if_pos h2]
    have hs : sStep named c (f, t) = (upd f t (if c < 10000 then c else named (c - 10000).toNatClampNeg), t + 1) := by unfold sStep; rw [if_pos ⟨h2, h3⟩]
    have hm : mStep named (cC c) (g, t) = (upd g t (if c < 10000 then c else named (c - 10000).toNatClampNeg), t + 1) := by
      have hok := (dk_ok (c := c) (t := t) (Or.inl ⟨h1, h2, h3⟩)).2
      by_cases h4 : c < 10000
      · have hc : cC c = 100000 + c := by unfold cC; rw [if_pos ⟨h1, h4⟩]
        have hge : (100000 : Int32) ≤ 100000 + c := by
          rw [Int32.le_iff_toInt_le, Int32.toInt_add]
          have a1 := Int32.le_iff_toInt_le.mp h1
          have a2 := Int32.lt_iff_toInt_lt.mp h4
          have e1 : (0 : Int32).toInt = 0 := rfl
          have e2 : (10000 : Int32).toInt = 10000 := rfl
          have e3 : (100000 : Int32).toInt = 100000 := rfl
          rw [e1] at a1; rw [e2] at a2; rw [e3]
          rw [Int.bmod_def]
          split <;> omega
        rw [hc]
        unfold mStep
        rw [if_pos (Or.inl hge), if_neg (fun q => absurd hge (Int32.not_le.mpr (Int32.lt_trans q (by decide)))), if_pos h4, Int32.add_comm, Int32.add_sub_cancel]
      · have h4' := Int32.not_lt.mp h4
        have hc : cC c = c - 10000 := by unfold cC; rw [if_neg (fun q => h4 q.2), if_pos ⟨h1, h2⟩]
        have hlt : c - 10000 < 11 := by
          have a1 := Int32.le_iff_toInt_le.mp h4'
          have a2 := Int32.lt_iff_toInt_lt.mp h2
          have e1 : (10006 : Int32).toInt = 10006 := rfl
          have e2 : (10000 : Int32).toInt = 10000 := rfl
          rw [e2] at a1; rw [e1] at a2
          rw [Int32.lt_iff_toInt_lt, Int32.toInt_sub, e2, Int.bmod_def]
          show _ < (11 : Int)
          split <;> omega
        rw [hc]
        unfold mStep
        rw [if_pos (Or.inr hlt), if_pos hlt, if_neg h4]
    rw [hs, hm, hd]
    exact ⟨rfl, rfl, fun j hj => hup t _ _ rfl j (by omega)⟩
  · rcases h1 with rfl | rfl
    · have hs : sStep named 10013 (f, t) = (upd f (t - 1) (if f (t - 1) = 0 then 1 else 0), t) := by
        unfold sStep
        rw [if_neg (fun q => absurd q.1 (by decide)), if_neg (fun q => absurd q.1 (by decide)), if_pos ⟨rfl, h2⟩]
      have hm : mStep named (cC 10013) (g, t) = (upd g (t - 1) (if g (t - 1) = 0 then 1 else 0), t) := by
        show mStep named 13 (g, t) = _
        unfold mStep
        rw [if_neg (c := (100000 : Int32) ≤ 13 ∨ (13 : Int32) < 11) (by decide), if_pos (c := (13 : Int32) = 13) rfl]
      rw [hs, hm]
      exact ⟨rfl, rfl, fun j hj => hup (t - 1) _ _ (by rw [hv (t - 1) (by omega)]) j (Or.inl hj)⟩
    · have hs : sStep named 10014 (f, t) = (upd f (t - 1) (-(f (t - 1))), t) := by
        unfold sStep
        rw [if_neg (fun q => absurd q.1 (by decide)), if_pos ⟨rfl, h2⟩]
      have hm : mStep named (cC 10014) (g, t) = (upd g (t - 1) (-(g (t - 1))), t) := by
        show mStep named 19 (g, t) = _
        unfold mStep
        rw [if_neg (c := (100000 : Int32) ≤ 19 ∨ (19 : Int32) < 11) (by decide), if_neg (c := (19 : Int32) = 13) (by decide), if_pos (c := (19 : Int32) = 19) rfl]
      rw [hs, hm]
      exact ⟨rfl, rfl, fun j hj => hup (t - 1) _ _ (by rw [hv (t - 1) (by omega)]) j (Or.inl hj)⟩
  · have hd : dpS c t = t - 1 := by
      unfold dpS
      rcases h1 with rfl | rfl | rfl | rfl | rfl | rfl | rfl <;> rfl
    have hs : sStep named c (f, t) = (upd f (t - 2) (jnC c (f (t - 2)) (f (t - 1))), t - 1) := by
      unfold sStep
      rw [if_neg, if_neg, if_neg, if_pos (show 1 < t by omega)]
      all_goals (intro q; have q := q.1; rcases h1 with rfl | rfl | rfl | rfl | rfl | rfl | rfl <;> exact absurd q (by decide))
    have hm : mStep named (cC c) (g, t) = (upd g (t - 2) (twM (cC c) (g (t - 2)) (g (t - 1))), t - 1) := by
      unfold mStep
      rw [if_neg, if_neg, if_neg]
      all_goals (intro q; rcases h1 with rfl | rfl | rfl | rfl | rfl | rfl | rfl <;> exact absurd q (by decide))
    rw [hs, hm, hd]
    refine ⟨rfl, rfl, fun j hj => hup (t - 2) _ _ ?_ j (by omega)⟩
    rw [hv (t - 2) (by omega), hv (t - 1) (by omega)]
    rcases h1 with rfl | rfl | rfl | rfl | rfl | rfl | rfl <;> rfl
theorem two_run {named cd cm : Nat → Int32} {a b n : Nat} {f g : Nat → Int32} (hk : ∀ i, i < n → dkS (cd (a + i)) (dpR cd a i)) (hc : ∀ i, i < n → cm (b + i) = cC (cd (a + i))) :
    ∀ m, m ≤ n → (sRun named cd a (f, 0) m).2 = dpR cd a m ∧ (mRun named cm b (g, 0) m).2 = dpR cd a m ∧ dRun cm b m = dpR cd a m ∧ ∀ j, j < dpR cd a m → (sRun named cd a (f, 0) m).1 j = (mRun named cm b (g, 0) m).1 j := by
  intro m
  induction m with
  | zero => intro _; exact ⟨rfl, rfl, rfl, fun j h => absurd h (Nat.not_lt_zero j)⟩
  | succ m ih =>
    intro hm
    obtain ⟨i1, i2, i3, i4⟩ := ih (by omega)
    have hs : sRun named cd a (f, 0) m = ((sRun named cd a (f, 0) m).1, dpR cd a m) := Prod.ext rfl i1
    have hg : mRun named cm b (g, 0) m = ((mRun named cm b (g, 0) m).1, dpR cd a m) := Prod.ext rfl i2
    obtain ⟨t1, t2, t3⟩ := two_step (named := named) (hk m (by omega)) i4
    simp only [sRun, mRun, dRun, dpR]
    rw [hc m (by omega), i3]
    rw [hs, hg]
    exact ⟨t1, t2, (dk_ok (hk m (by omega))).2, t3⟩
