/-! the law that a text makes, on both sides -/
theorem mRun_cg {named c c' : Nat → Int32} {a : Nat} {s : (Nat → Int32) × Nat} : ∀ n, (∀ i, i < n → c (a + i) = c' (a + i)) → mRun named c a s n = mRun named c' a s n
  | 0, _ => rfl
  | n + 1, h => by
    simp only [mRun]
    rw [mRun_cg n (fun i hi => h i (by omega)), h n (by omega)]
theorem dRun_cg {c c' : Nat → Int32} {a : Nat} : ∀ n, (∀ i, i < n → c (a + i) = c' (a + i)) → dRun c a n = dRun c' a n
  | 0, _ => rfl
  | n + 1, h => by
    simp only [dRun]
    rw [dRun_cg n (fun i hi => h i (by omega)), h n (by omega)]
theorem MLX_cg {cd cd' sr sr' : Nat → Int32} {t k : Nat} {e : Nat → Nat} (hk : k < t) (hc : ∀ x, x < 200 * t → cd' x = cd x) (hs : ∀ x, x < 4 * t → sr' x = sr x) (h : MLX cd sr k e) : MLX cd' sr' k e ∧ ∀ part, part < 3 → ∀ f, sayM cd' k e part f = sayM cd k e part f := by
  obtain ⟨⟨h1, h2, h3, h4⟩, h5⟩ := h
  have hq : ∀ j, j < 3 → e j ≤ e (j + 1) ∧ e (j + 1) ≤ 200 := h3
  have hcc : ∀ j, j < 3 → ∀ n, n ≤ e (j + 1) - e j → ∀ i, i < n → (fun q => cd' (200 * k + q)) (e j + i) = (fun q => cd (200 * k + q)) (e j + i) := by
    intro j hj n hn i hi
    have := hq j hj
    exact hc _ (by omega)
  refine ⟨⟨⟨h1, fun j hj => ?_, h3, fun j hj i hi hi2 => ?_⟩, fun j hj => ?_⟩, fun part hp f => ?_⟩
  · rw [hs _ (by omega)]; exact h2 j hj
  · have := hq j hj
    rw [dRun_cg (c := fun q => cd' (200 * k + q)) (c' := fun q => cd (200 * k + q)) (i - e j) (hcc j hj (i - e j) (by omega)), hc _ (by omega)]
    exact h4 j hj i hi hi2
  · rw [dRun_cg (c := fun q => cd' (200 * k + q)) (c' := fun q => cd (200 * k + q)) _ (hcc j hj _ (Nat.le_refl _))]
    exact h5 j hj
  · unfold sayM sayM0
    rw [mRun_cg (c := fun q => cd' (200 * k + q)) (c' := fun q => cd (200 * k + q)) _ (hcc part hp _ (Nat.le_refl _))]
theorem ML_cg {cd cd' sr sr' : Nat → Int32} {t : Nat} {sy : SY} (hc : ∀ x, x < 200 * t → cd' x = cd x) (hs : ∀ x, x < 4 * t → sr' x = sr x) (h : ML cd sr t sy) : ML cd' sr' t sy := by
  refine ⟨h.1, h.2.1, fun k hk => ?_⟩
  obtain ⟨e, h1, h2⟩ := h.2.2 k hk
  obtain ⟨g1, g2⟩ := MLX_cg hk hc hs h1
  exact ⟨e, g1, fun part hp f => (g2 part hp f).trans (h2 part hp f)⟩
theorem cdB_cC {cd c : Nat → Int32} {b : Nat} : ∀ (O : List Int32) (i : Nat), i < O.length → cdB cd b (O.map cC) (b + i) = cC (cdP c O i)
  | [], i, h => absurd h (Nat.not_lt_zero i)
  | x :: O, i, h => by
    have h : i < O.length + 1 := h
    show upd (cdB cd b (O.map cC)) (b + (O.map cC).length) (cC x) (b + i) = cC (upd (cdP c O) O.length x i)
    rw [List.length_map]
    rcases Nat.lt_or_ge i O.length with g | g
    · rw [pk_un (by omega), pk_un (by omega)]
      exact cdB_cC O i g
    · obtain rfl : i = O.length := by omega
      rw [pk_us, pk_us]
theorem within99 (x : Int32) : mWithin x 0 99 = clamp99 x := by
  unfold mWithin clamp99
  by_cases h0 : x < 0
  · have h9 : x < 99 := Int32.lt_trans h0 (by decide)
    rw [if_pos h0, if_pos h9, if_neg (Int32.not_lt.mpr (Int32.le_of_lt h0))]
  · rw [if_neg h0]
    by_cases h9 : x < 99
    · rw [if_neg (fun q => absurd (Int32.lt_trans h9 q) (Int32.not_lt.mpr (Int32.le_refl _))), if_pos h9]
      by_cases hp : (0 : Int32) < x
      · rw [if_pos hp]
      · rw [if_neg hp]
        exact Int32.le_antisymm (Int32.not_lt.mp hp) (Int32.not_lt.mp h0)
    · rw [if_neg h9, if_pos (c := (0 : Int32) < 99) (by decide)]
      by_cases h8 : (99 : Int32) < x
      · rw [if_pos h8]
      · rw [if_neg h8]
        exact Int32.le_antisymm (Int32.not_lt.mp h8) (Int32.not_lt.mp h9)
theorem cdP_app {c : Nat → Int32} : ∀ (D O : List Int32) (x : Nat), x < O.length → cdP c (D ++ O) x = cdP c O x
  | [], _, _, _ => rfl
  | d :: D, O, x, h => by
    show upd (cdP c (D ++ O)) (D ++ O).length d x = _
    rw [pk_un (by rw [List.length_append]; omega)]
    exact cdP_app D O x h
theorem seg_part {c cd : Nat → Int32} {b : Nat} (R D O0 : List Int32) (hD : GdE 31 D) :
    (∀ i, i < D.length → dOK (cdB cd b ((R ++ (D ++ O0)).map cC) (b + (O0.length + i))) (dRun (fun q => cdB cd b ((R ++ (D ++ O0)).map cC) (b + q)) O0.length i)) ∧
    dRun (fun q => cdB cd b ((R ++ (D ++ O0)).map cC) (b + q)) O0.length D.length = 1 ∧
    ∀ (f g named : Nat → Int32), (sRun named (cdP c (R ++ (D ++ O0))) O0.length (f, 0) D.length).1 0 = (mRun named (fun q => cdB cd b ((R ++ (D ++ O0)).map cC) (b + q)) O0.length (g, 0) D.length).1 0 := by
  obtain ⟨q1, q2⟩ := hD 0 (by decide)
  have hcd : ∀ i, i < D.length → cdP c (R ++ (D ++ O0)) (O0.length + i) = cdP c (D ++ O0) (O0.length + i) := fun i hi => cdP_app R (D ++ O0) _ (by rw [List.length_append]; omega)
  obtain ⟨r1, r2⟩ := dk_rows (c0 := c) (cd := cdP c (R ++ (D ++ O0))) O0 D q1 hcd
  have hcm : ∀ i, i < D.length → (fun q => cdB cd b ((R ++ (D ++ O0)).map cC) (b + q)) (O0.length + i) = cC (cdP c (R ++ (D ++ O0)) (O0.length + i)) := fun i hi => cdB_cC (R ++ (D ++ O0)) (O0.length + i) (by rw [List.length_append, List.length_append]; omega)
  refine ⟨fun i hi => ?_, ?_, fun f g named => ?_⟩
  · have h1 := (two_run (cm := fun q => cdB cd b ((R ++ (D ++ O0)).map cC) (b + q)) (b := O0.length) (named := fun _ => 0) (f := fun _ => 0) (g := fun _ => 0) r1 hcm i (by omega)).2.2.1
    rw [h1]
    have h2 := hcm i hi
    have h2 : cdB cd b ((R ++ (D ++ O0)).map cC) (b + (O0.length + i)) = cC (cdP c (R ++ (D ++ O0)) (O0.length + i)) := h2
    rw [h2]
    exact (dk_ok (r1 i hi)).1
  · have h1 := (two_run (cm := fun q => cdB cd b ((R ++ (D ++ O0)).map cC) (b + q)) (b := O0.length) (named := fun _ => 0) (f := fun _ => 0) (g := fun _ => 0) r1 hcm D.length (Nat.le_refl _)).2.2.1
    rw [h1, r2, q2]
  · exact (two_run (cm := fun q => cdB cd b ((R ++ (D ++ O0)).map cC) (b + q)) (b := O0.length) (named := named) (f := f) (g := g) r1 hcm D.length (Nat.le_refl _)).2.2.2 0 (by rw [r2, q2]; decide)
/-- where the parts begin -/
def eF (a b d : Nat) (j : Nat) : Nat := if j = 0 then 0 else if j = 1 then a else if j = 2 then b else d
theorem new_law {c cd sr : Nat → Int32} {t : Nat} (ht : t < 6) {E E' : Nat → Int32} {Oc : List Int32} {L : List Nat} (hg : SegR 3 0 E [] [] E' Oc L) (hl : Oc.length ≤ 160) :
    ∃ e : Nat → Nat, MLX (cdB cd (200 * t) (Oc.map cC)) (srL sr (4 * t) L) t e ∧ LW Oc.length E' (fun j => e (j + 1)) ∧ ∀ part, part < 3 → ∀ f, sayM (cdB cd (200 * t) (Oc.map cC)) t e part f = sayV (cdP c Oc) (fun j => e (j + 1)) part f := by
  obtain ⟨D0, g0, D1, g1, D2, g2, hE, hO, hL⟩ := hg
  subst hO hL hE
  have l0 : (D0 ++ ([] : List Int32)).length = D0.length := by simp
  have l1 : (D1 ++ (D0 ++ ([] : List Int32))).length = D1.length + D0.length := by simp
  have l2 : (D2 ++ (D1 ++ (D0 ++ ([] : List Int32)))).length = D2.length + (D1.length + D0.length) := by simp
  have s0 := seg_part (c := c) (cd := cd) (b := 200 * t) (D2 ++ D1) D0 [] g0
  have s1 := seg_part (c := c) (cd := cd) (b := 200 * t) D2 D1 (D0 ++ []) g1
  have s2 := seg_part (c := c) (cd := cd) (b := 200 * t) [] D2 (D1 ++ (D0 ++ [])) g2
  rw [show D2 ++ D1 ++ (D0 ++ []) = D2 ++ (D1 ++ (D0 ++ [])) by simp] at s0
  rw [show ([] : List Int32) ++ (D2 ++ (D1 ++ (D0 ++ []))) = D2 ++ (D1 ++ (D0 ++ [])) by simp] at s2
  rw [l0] at s1
  rw [l1] at s2
  rw [show ([] : List Int32).length = 0 from rfl] at s0
  rw [l2] at hl
  generalize hOO : D2 ++ (D1 ++ (D0 ++ [])) = Oc at s0 s1 s2 ⊢
  have lO : Oc.length = D2.length + (D1.length + D0.length) := by rw [← hOO]; exact l2
  refine ⟨eF D0.length (D1.length + D0.length) (D2.length + (D1.length + D0.length)), ⟨⟨ht, ?_, ?_, ?_⟩, ?_⟩, ⟨by omega, ?_, ?_, ?_, ?_⟩, ?_⟩
  · intro j hj
    rw [show (([] : List Int32).length) = 0 from rfl, l0, l1, lO]
    rcases (show j = 0 ∨ j = 1 ∨ j = 2 ∨ j = 3 by omega) with rfl | rfl | rfl | rfl
    · show upd (upd (upd (upd sr (4 * t + 0) (nI 0)) (4 * t + 1) (nI D0.length)) (4 * t + 2) (nI (D1.length + D0.length))) (4 * t + 3) (nI (D2.length + (D1.length + D0.length))) (4 * t + 0) = nI 0
      rw [pk_un (by omega), pk_un (by omega), pk_un (by omega), pk_us]
    · show upd (upd (upd (upd sr (4 * t + 0) (nI 0)) (4 * t + 1) (nI D0.length)) (4 * t + 2) (nI (D1.length + D0.length))) (4 * t + 3) (nI (D2.length + (D1.length + D0.length))) (4 * t + 1) = nI D0.length
      rw [pk_un (by omega), pk_un (by omega), pk_us]
    · show upd (upd (upd (upd sr (4 * t + 0) (nI 0)) (4 * t + 1) (nI D0.length)) (4 * t + 2) (nI (D1.length + D0.length))) (4 * t + 3) (nI (D2.length + (D1.length + D0.length))) (4 * t + 2) = nI (D1.length + D0.length)
      rw [pk_un (by omega), pk_us]
    · show upd (upd (upd (upd sr (4 * t + 0) (nI 0)) (4 * t + 1) (nI D0.length)) (4 * t + 2) (nI (D1.length + D0.length))) (4 * t + 3) (nI (D2.length + (D1.length + D0.length))) (4 * t + 3) = nI (D2.length + (D1.length + D0.length))
      rw [pk_us]
  · intro j hj
    rcases (show j = 0 ∨ j = 1 ∨ j = 2 by omega) with rfl | rfl | rfl
    · exact ⟨Nat.zero_le _, by show D0.length ≤ 200; omega⟩
    · exact ⟨by show D0.length ≤ D1.length + D0.length; omega, by show D1.length + D0.length ≤ 200; omega⟩
    · exact ⟨by show D1.length + D0.length ≤ D2.length + (D1.length + D0.length); omega, by show D2.length + (D1.length + D0.length) ≤ 200; omega⟩
  · intro j hj i hi hi2
    rcases (show j = 0 ∨ j = 1 ∨ j = 2 by omega) with rfl | rfl | rfl
    · have hi2 : i < D0.length := hi2
      have h := s0.1 i hi2
      rw [Nat.zero_add] at h
      exact h
    · have hi : D0.length ≤ i := hi
      have hi2 : i < D1.length + D0.length := hi2
      have h := s1.1 (i - D0.length) (by omega)
      rw [show D0.length + (i - D0.length) = i by omega] at h
      exact h
    · have hi : D1.length + D0.length ≤ i := hi
      have hi2 : i < D2.length + (D1.length + D0.length) := hi2
      have h := s2.1 (i - (D1.length + D0.length)) (by omega)
      rw [show D1.length + D0.length + (i - (D1.length + D0.length)) = i by omega] at h
      exact h
  · intro j hj
    rcases (show j = 0 ∨ j = 1 ∨ j = 2 by omega) with rfl | rfl | rfl
    · show 1 ≤ dRun (fun q => cdB cd (200 * t) (Oc.map cC) (200 * t + q)) 0 (D0.length - 0)
      rw [Nat.sub_zero, s0.2.1]
      exact Nat.le_refl 1
    · show 1 ≤ dRun (fun q => cdB cd (200 * t) (Oc.map cC) (200 * t + q)) D0.length (D1.length + D0.length - D0.length)
      rw [Nat.add_sub_cancel, s1.2.1]
      exact Nat.le_refl 1
    · show 1 ≤ dRun (fun q => cdB cd (200 * t) (Oc.map cC) (200 * t + q)) (D1.length + D0.length) (D2.length + (D1.length + D0.length) - (D1.length + D0.length))
      rw [Nat.add_sub_cancel, s2.2.1]
      exact Nat.le_refl 1
  · intro j hj
    rw [l0, l1, lO]
    rcases (show j = 0 ∨ j = 1 ∨ j = 2 by omega) with rfl | rfl | rfl
    · show upd (upd (upd E 0 (nI D0.length)) 1 (nI (D1.length + D0.length))) 2 (nI (D2.length + (D1.length + D0.length))) 0 = nI D0.length
      rw [pk_un (by decide), pk_un (by decide), pk_us]
    · show upd (upd (upd E 0 (nI D0.length)) 1 (nI (D1.length + D0.length))) 2 (nI (D2.length + (D1.length + D0.length))) 1 = nI (D1.length + D0.length)
      rw [pk_un (by decide), pk_us]
    · show upd (upd (upd E 0 (nI D0.length)) 1 (nI (D1.length + D0.length))) 2 (nI (D2.length + (D1.length + D0.length))) 2 = nI (D2.length + (D1.length + D0.length))
      rw [pk_us]
  · show D0.length ≤ D1.length + D0.length; omega
  · show D1.length + D0.length ≤ D2.length + (D1.length + D0.length); omega
  · show D2.length + (D1.length + D0.length) ≤ Oc.length; omega
  · intro part hp f
    unfold sayM sayM0 sayV sayC
    rw [within99]
    refine congrArg clamp99 ?_
    rcases (show part = 0 ∨ part = 1 ∨ part = 2 by omega) with rfl | rfl | rfl
    · show (mRun f (fun q => cdB cd (200 * t) (Oc.map cC) (200 * t + q)) 0 (fun _ => 0, 0) (D0.length - 0)).1 0 = (sRun f (cdP c Oc) 0 (upd (fun _ => 0) 0 0, 0) (D0.length - 0)).1 0
      rw [Nat.sub_zero]
      exact (s0.2.2 _ _ f).symm
    · show (mRun f (fun q => cdB cd (200 * t) (Oc.map cC) (200 * t + q)) D0.length (fun _ => 0, 0) (D1.length + D0.length - D0.length)).1 0 = (sRun f (cdP c Oc) D0.length (upd (fun _ => 0) 0 0, 0) (D1.length + D0.length - D0.length)).1 0
      rw [Nat.add_sub_cancel]
      exact (s1.2.2 _ _ f).symm
    · show (mRun f (fun q => cdB cd (200 * t) (Oc.map cC) (200 * t + q)) (D1.length + D0.length) (fun _ => 0, 0) (D2.length + (D1.length + D0.length) - (D1.length + D0.length))).1 0 = (sRun f (cdP c Oc) (D1.length + D0.length) (upd (fun _ => 0) 0 0, 0) (D2.length + (D1.length + D0.length) - (D1.length + D0.length))).1 0
      rw [Nat.add_sub_cancel]
      exact (s2.2.2 _ _ f).symm
/-- the laws of the reference with the new one -/
def syN (sy : SY) (t : Nat) (s1 : Nat → (Nat → Int32) → Int32) : SY := fun k => if k = t then s1 else sy k
theorem ML_new {cd cd' sr sr' : Nat → Int32} {t : Nat} {sy : SY} {s1 : Nat → (Nat → Int32) → Int32} {e : Nat → Nat} (h6 : t < 6) (hc : ∀ x, x < 200 * t → cd' x = cd x) (hs : ∀ x, x < 4 * t → sr' x = sr x) (h : ML cd sr t sy) (he : MLX cd' sr' t e) (hsay : ∀ part, part < 3 → ∀ f, sayM cd' t e part f = s1 part f) (h99 : ∀ q f, 0 ≤ s1 q f ∧ s1 q f ≤ 99) : ML cd' sr' (t + 1) (syN sy t s1) := by
  have h1 := ML_cg hc hs h
  refine ⟨by omega, fun k q f => ?_, fun k hk => ?_⟩
  · unfold syN
    split
    · exact h99 q f
    · exact h.2.1 k q f
  · rcases Nat.lt_or_ge k t with g | g
    · obtain ⟨e1, a, b⟩ := h1.2.2 k g
      refine ⟨e1, a, fun part hp f => ?_⟩
      unfold syN
      rw [if_neg (by omega)]
      exact b part hp f
    · obtain rfl : k = t := by omega
      refine ⟨e, he, fun part hp f => ?_⟩
      unfold syN
      rw [if_pos rfl]
      exact hsay part hp f
