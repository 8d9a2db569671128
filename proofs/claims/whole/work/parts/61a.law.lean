/-! the laws in the tail of the component's world -/
def lb (t : Nat) : Nat := if t = 0 then 0 else 29 + 4 * t
theorem lb_far {s t : Nat} (h : s ≠ t) : lb s + 4 ≤ lb t ∨ lb t + 4 ≤ lb s := by
  unfold lb
  split <;> split <;> omega
theorem lb_mod {t j : Nat} (hj : j < 4) : lb t + j < 4 ∨ 33 ≤ lb t + j := by
  unfold lb
  split <;> omega
def LTx (T : List va_E) (n : Nat) (s1 : Nat → (Nat → Int32) → Int32) : Prop := ∃ (nc : Nat) (cd en stk : Nat → Int32) (e : Nat → Nat), T[n]? = some (.inr (2, [.ref (n + 48 + 1), .ref (n + 48 + 2), .ref (n + 48 + 3)])) ∧ T[n + 1]? = some (iA nc cd) ∧ T[n + 2]? = some (iA 3 en) ∧ T[n + 3]? = some (iA 40 stk) ∧ LW nc en e ∧ ∀ part f, sayV cd e part f = s1 part f
def TI (T : List va_E) (K : Nat) (sy : SY) (md : Nat → Option va_E) : Prop := (K ≤ 6 ∧ SY99 sy) ∧ (∀ t, t < K → LTx T (lb t) (sy t)) ∧ (∀ j, j < 29 → T[j + 4]? = md j) ∧ (∀ e ∈ T, ∀ n, 48 + T.length ≤ n → xeS n e) ∧ T.length = lb K
theorem set_same {α : Type} {l : List α} {n : Nat} {x : α} (h : l[n]? = some x) : l.set n x = l := by
  apply List.ext_getElem?
  intro j
  rw [List.getElem?_set]
  split
  · next e =>
    subst e
    have hl := (List.getElem?_eq_some_iff.mp h).1
    rw [if_pos hl, h]
  · rfl
theorem TI_set {T : List va_E} {K : Nat} {sy : SY} {md : Nat → Option va_E} {k : Nat} {stk' : Nat → Int32} (h : TI T K sy md) (hk : k < K) : TI (T.set (lb k + 3) (iA 40 stk')) K sy md ∧ (T.set (lb k + 3) (iA 40 stk')).length = T.length := by
  obtain ⟨h0, h1, h2, h3, h4⟩ := h
  refine ⟨⟨h0, fun t ht => ?_, fun j hj => ?_, fun e he n hn => ?_, by rw [List.length_set]; exact h4⟩, List.length_set⟩
  · obtain ⟨nc, cd, en, stk, e, a0, a1, a2, a3, a4, a5⟩ := h1 t ht
    by_cases hkt : k = t
    · subst hkt
      have hl := (List.getElem?_eq_some_iff.mp a3).1
      exact ⟨nc, cd, en, stk', e, by rw [List.getElem?_set_ne (by omega)]; exact a0, by rw [List.getElem?_set_ne (by omega)]; exact a1, by rw [List.getElem?_set_ne (by omega)]; exact a2, by rw [List.getElem?_set_self hl], a4, a5⟩
    · have hf := lb_far hkt
      exact ⟨nc, cd, en, stk, e, by rw [List.getElem?_set_ne (by omega)]; exact a0, by rw [List.getElem?_set_ne (by omega)]; exact a1, by rw [List.getElem?_set_ne (by omega)]; exact a2, by rw [List.getElem?_set_ne (by omega)]; exact a3, a4, a5⟩
  · have := lb_mod (t := k) (j := 3) (by omega)
    rw [List.getElem?_set_ne (by omega)]
    exact h2 j hj
  · rw [List.length_set] at hn
    rcases List.mem_or_eq_of_mem_set he with h | h
    · exact h3 e h n hn
    · rw [h]; exact trivial
def rhE (n : Nat) : List Nat := [19, 20, 21, 22, 23, 24, 25, 26, 27, 28, 29, 30, 31, 32, 33, 34, 35, n + 48, n + 48 + 1, n + 48 + 2, n + 48 + 3]
theorem rhE_nd (n : Nat) : va_nd (rhE n) = true := by
  simp [rhE, va_nd]
