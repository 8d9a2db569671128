/-! the rows, one behind the other, are all ways (pure) -/
def rowI (l : List Nat) : Nat → Int32 := fun q => nI (l.getD q 0)
def AG (P : Nat) (f g : Nat → Int32) : Prop := ∀ q, q < P → f q = g q
theorem risF_ag {f g : Nat → Int32} : ∀ {j P : Nat}, j < P → AG P f g → risF f j = risF g j
  | 0, _, _, _ => rfl
  | j + 1, P, hj, h => by
    simp only [risF]
    rw [h j (by omega), h (j + 1) hj, risF_ag (by omega) h]
theorem aboF_ag {f g : Nat → Int32} {r P : Nat} (hr : r < P) (h : AG P f g) : ∀ {a : Nat}, a < P → aboF f r a = aboF g r a
  | 0, _ => rfl
  | a + 1, ha => by
    simp only [aboF]
    rw [h (a + 1) ha, h r hr, aboF_ag hr h (by omega)]
theorem swF_ag {f g : Nat → Int32} {i j P : Nat} (hi : i < P) (hj : j < P) (h : AG P f g) : AG P (swF f i j) (swF g i j) := by
  intro q hq
  simp only [swF, upd, h q hq, h i hi, h j hj]
theorem revF_ag {P : Nat} : ∀ (n i j : Nat) (f g : Nat → Int32), j < P → AG P f g → AG P (revF n i j f) (revF n i j g)
  | 0, _, _, _, _, _, h => h
  | n + 1, i, j, f, g, hj, h => by
    simp only [revF]
    split
    · next hij => exact revF_ag n (i + 1) (j - 1) _ _ (by omega) (swF_ag (by omega) hj h)
    · exact h
theorem nextF_ag {f g : Nat → Int32} {P : Nat} (h : AG P f g) : (nextF f P = none ∧ nextF g P = none) ∨ ∃ f' g', nextF f P = some f' ∧ nextF g P = some g' ∧ AG P f' g' := by
  rcases Nat.eq_zero_or_pos P with h0 | h0
  · subst h0
    exact Or.inl ⟨rfl, rfl⟩
  · have e := risF_ag (j := P - 1) (by omega) h
    unfold nextF
    rw [e]
    cases hr : risF g (P - 1) with
    | none => exact Or.inl ⟨rfl, rfl⟩
    | some r =>
      have hrl := risF_lt hr
      have ha := aboF_le (f := g) (r := r) (P - 1)
      refine Or.inr ⟨_, _, rfl, rfl, ?_⟩
      rw [aboF_ag (by omega) h (by omega)]
      exact revF_ag 5 _ _ _ _ (by omega) (swF_ag (by omega) (by omega) h)
def chkL (P : Nat) : List (List Nat) → Bool
  | [] => false
  | [l] => (nextF (rowI l) P).isNone
  | l :: l' :: t => (match nextF (rowI l) P with
    | none => false
    | some g => (List.range P).all (fun q => decide (g q = rowI l' q))) && chkL P (l' :: t)
theorem chk_dec : ∀ P : Fin 6, chkL P.val (ordL P.val P.val []) = true := by decide +kernel
theorem ordL_hd : ∀ P : Fin 6, (ordL P.val P.val []).head? = some (List.range P.val) := by decide +kernel
theorem ordL_n : ∀ P : Fin 6, (ordL P.val P.val []).length ≤ 120 := by decide +kernel
theorem ordL_cons {P : Nat} (hP : P ≤ 5) : ∃ ls, ordL P P [] = List.range P :: ls := by
  have h := ordL_hd ⟨P, by omega⟩
  cases hl : ordL P P [] with
  | nil => rw [show ordL (⟨P, by omega⟩ : Fin 6).val (⟨P, by omega⟩ : Fin 6).val [] = [] from hl] at h; cases h
  | cons a ls =>
    rw [show ordL (⟨P, by omega⟩ : Fin 6).val (⟨P, by omega⟩ : Fin 6).val [] = a :: ls from hl] at h
    cases h
    exact ⟨ls, rfl⟩
/-- where the next row is none, none is left; else it is the next of the list -/
theorem chk_none {P : Nat} {l : List Nat} {ls : List (List Nat)} {f : Nat → Int32} (h : chkL P (l :: ls) = true) (hf : AG P f (rowI l)) (hn : nextF f P = none) : ls = [] := by
  cases ls with
  | nil => rfl
  | cons l' t =>
    simp only [chkL, Bool.and_eq_true] at h
    rcases nextF_ag hf with ⟨-, h2⟩ | ⟨f', g', h1, -, -⟩
    · rw [h2] at h
      exact absurd (show false = true from h.1) (by decide)
    · rw [h1] at hn; cases hn
theorem chk_some {P : Nat} {l : List Nat} {ls : List (List Nat)} {f g : Nat → Int32} (h : chkL P (l :: ls) = true) (hf : AG P f (rowI l)) (hn : nextF f P = some g) : ∃ l' t, ls = l' :: t ∧ chkL P (l' :: t) = true ∧ AG P g (rowI l') := by
  cases ls with
  | nil =>
    simp only [chkL] at h
    rcases nextF_ag hf with ⟨h1, -⟩ | ⟨f', g', -, h2, -⟩
    · rw [h1] at hn; cases hn
    · rw [h2] at h; cases h
  | cons l' t =>
    simp only [chkL, Bool.and_eq_true] at h
    rcases nextF_ag hf with ⟨h1, -⟩ | ⟨f', g', h1, h2, h3⟩
    · rw [h1] at hn; cases hn
    · rw [h1] at hn
      cases hn
      rw [h2] at h
      refine ⟨l', t, rfl, h.2, fun q hq => ?_⟩
      rw [h3 q hq]
      exact of_decide_eq_true (List.all_eq_true.mp h.1 q (List.mem_range.mpr hq))
theorem rowI_range {P q : Nat} (h : q < P) : rowI (List.range P) q = nI q := by
  unfold rowI
  simp [List.getD_eq_getElem?_getD, h]
