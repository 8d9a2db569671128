/-! the ring of the kept chairs answers as the row does -/
theorem set_perm {α : Type} : ∀ (l : List α) (i : Nat) (x v : α), l[i]? = some x → ∃ r, l.Perm (x :: r) ∧ (l.set i v).Perm (v :: r)
  | [], i, x, v, h => by simp at h
  | a :: l, 0, x, v, h => by
    simp only [List.getElem?_cons_zero, Option.some.injEq] at h
    subst h
    exact ⟨l, List.Perm.refl _, List.Perm.refl _⟩
  | a :: l, i + 1, x, v, h => by
    simp only [List.getElem?_cons_succ] at h
    obtain ⟨r, h1, h2⟩ := set_perm l i x v h
    exact ⟨a :: r, (h1.cons a).trans (List.Perm.swap _ _ _), (h2.cons a).trans (List.Perm.swap _ _ _)⟩
def arrL (f : Nat → Int32) (n : Nat) : List Int32 := (List.range n).map f
theorem arrL_at {f : Nat → Int32} {n i : Nat} (h : i < n) : (arrL f n)[i]? = some (f i) := by
  simp [arrL, h]
theorem arrL_upd {f : Nat → Int32} {n i : Nat} {v : Int32} : arrL (upd f i v) n = (arrL f n).set i v := by
  apply List.ext_getElem?
  intro j
  rw [List.getElem?_set]
  by_cases hj : j < n
  · rw [arrL_at hj]
    by_cases e : i = j
    · subst e
      rw [if_pos rfl, if_pos (by simp [arrL, hj]), upd_s]
    · rw [if_neg e, arrL_at hj, upd_n (fun q => e q.symm)]
  · rw [List.getElem?_eq_none (by simp [arrL]; omega)]
    by_cases e : i = j
    · rw [if_pos e, if_neg (by simp [arrL]; omega)]
    · rw [if_neg e, List.getElem?_eq_none (by simp [arrL]; omega)]
def rix (n h j : Nat) : Nat := if h + j < n then h + j else h + j - n
def rotL (f : Nat → Int32) (n h : Nat) : List Int32 := (List.range n).map (fun j => f (rix n h j))
theorem rotL_len {f : Nat → Int32} {n h : Nat} : (rotL f n h).length = n := by simp [rotL]
theorem rotL_at {f : Nat → Int32} {n h j : Nat} (hj : j < n) : (rotL f n h)[j]? = some (f (rix n h j)) := by
  simp [rotL, hj]
theorem rotL_step {f : Nat → Int32} {n h : Nat} {v : Int32} (hh : h < n) : ∃ t, rotL f n h = f h :: t ∧ rotL (upd f h v) n (if h + 1 < n then h + 1 else 0) = t ++ [v] := by
  refine ⟨(rotL f n h).tail, ?_, ?_⟩
  · have h0 : (rotL f n h)[0]? = some (f h) := by
      rw [rotL_at (by omega)]
      congr 2
      unfold rix
      rw [if_pos (by omega)]
      rfl
    cases hr : rotL f n h with
    | nil => rw [hr] at h0; cases h0
    | cons a t =>
      rw [hr] at h0
      simp only [List.getElem?_cons_zero, Option.some.injEq] at h0
      rw [h0]
      rfl
  · apply List.ext_getElem?
    intro j
    have hl : ((rotL f n h).tail).length = n - 1 := by rw [List.length_tail, rotL_len]
    by_cases hj : j < n
    · rw [rotL_at hj]
      by_cases e : j = n - 1
      · have e2 : rix n (if h + 1 < n then h + 1 else 0) j = h := by
          unfold rix
          split <;> split <;> omega
        rw [e2, upd_s, List.getElem?_append_right (by omega), show j - (rotL f n h).tail.length = 0 by omega]
        rfl
      · have e2 : rix n (if h + 1 < n then h + 1 else 0) j = rix n h (j + 1) := by
          unfold rix
          split <;> split <;> split <;> omega
        have e3 : ¬ rix n h (j + 1) = h := by
          unfold rix
          split <;> omega
        rw [e2, upd_n e3, List.getElem?_append_left (by omega), List.getElem?_tail, rotL_at (by omega)]
    · rw [List.getElem?_eq_none (by rw [rotL_len]; omega), List.getElem?_eq_none (by rw [List.length_append, hl]; simp; omega)]
theorem lstI_min {f : Nat → Int32} : ∀ {n : Nat} (q : Nat), q < n → f (lstI f n) ≤ f q
  | 0, q, h => by omega
  | n + 1, q, h => by
    simp only [lstI]
    split
    · next e =>
      subst e
      obtain rfl : q = 0 := by omega
      exact Int32.le_refl _
    · split
      · next e1 e2 =>
        by_cases e : q = n
        · rw [e]; exact Int32.le_refl _
        · exact Int32.le_trans (Int32.le_of_lt e2) (lstI_min q (by omega))
      · next e1 e2 =>
        by_cases e : q = n
        · rw [e]; exact Int32.not_lt.mp e2
        · exact lstI_min q (by omega)
/-- row and ring hold the same -/
def RG (many : Nat) (g : Nat → Int32) (s : (Nat → Int32) × Nat) (b : Int32) : Prop := s.2 < many ∧ (arrL g many).Perm (rotL s.1 many s.2) ∧ (rotL s.1 many s.2).Pairwise (fun x y => x ≤ y) ∧ ∀ x ∈ rotL s.1 many s.2, x ≤ b
theorem RG_head {many : Nat} {g : Nat → Int32} {s : (Nat → Int32) × Nat} {b : Int32} (h : RG many g s b) : g (lstI g many) = s.1 s.2 := by
  obtain ⟨h0, h1, h2, -⟩ := h
  obtain ⟨t, e1, -⟩ := rotL_step (f := s.1) (v := 0) h0
  have hlt := lstI_lt (f := g) (n := many) (by omega)
  have m1 : g (lstI g many) ∈ rotL s.1 many s.2 := h1.mem_iff.mp (List.mem_of_getElem? (arrL_at hlt))
  have m2 : s.1 s.2 ∈ arrL g many := h1.mem_iff.mpr (by rw [e1]; exact List.mem_cons_self)
  obtain ⟨q, hq, eq⟩ := List.mem_map.mp m2
  have hq : q < many := List.mem_range.mp hq
  have a1 : g (lstI g many) ≤ s.1 s.2 := by rw [← eq]; exact lstI_min q hq
  have a2 : s.1 s.2 ≤ g (lstI g many) := by
    rw [e1] at m1 h2
    rcases List.mem_cons.mp m1 with e | e
    · rw [e]; exact Int32.le_refl _
    · exact (List.pairwise_cons.mp h2).1 _ e
  exact Int32.le_antisymm a1 a2
theorem RG_step {many : Nat} {g : Nat → Int32} {s : (Nat → Int32) × Nat} {b v : Int32} (h : RG many g s b) (hv : b ≤ v) : RG many (upd g (lstI g many) v) (upd s.1 s.2 v, if s.2 + 1 < many then s.2 + 1 else 0) v := by
  have hh := RG_head h
  obtain ⟨h0, h1, h2, h3⟩ := h
  obtain ⟨t, e1, e2⟩ := rotL_step (f := s.1) (v := v) h0
  have hlt := lstI_lt (f := g) (n := many) (by omega)
  obtain ⟨r, p1, p2⟩ := set_perm (arrL g many) (lstI g many) _ v (arrL_at hlt)
  rw [e1] at h1 h2 h3
  have p3 : r.Perm t := by
    have := (p1.symm.trans h1)
    rw [hh] at this
    exact this.cons_inv
  refine ⟨by show (if s.2 + 1 < many then s.2 + 1 else 0) < many; split <;> omega, ?_, ?_, ?_⟩
  · show (arrL (upd g (lstI g many) v) many).Perm (rotL (upd s.1 s.2 v) many (if s.2 + 1 < many then s.2 + 1 else 0))
    rw [e2, arrL_upd]
    exact (p2.trans (p3.cons v)).trans (List.perm_append_singleton v t).symm
  · show (rotL (upd s.1 s.2 v) many (if s.2 + 1 < many then s.2 + 1 else 0)).Pairwise _
    rw [e2, List.pairwise_append]
    refine ⟨(List.pairwise_cons.mp h2).2, List.pairwise_singleton _ _, fun x hx y hy => ?_⟩
    rw [List.mem_singleton.mp hy]
    exact Int32.le_trans (h3 x (List.mem_cons_of_mem _ hx)) hv
  · show ∀ x ∈ rotL (upd s.1 s.2 v) many (if s.2 + 1 < many then s.2 + 1 else 0), x ≤ v
    rw [e2]
    intro x hx
    rcases List.mem_append.mp hx with hx | hx
    · exact Int32.le_trans (h3 x (List.mem_cons_of_mem _ hx)) hv
    · rw [List.mem_singleton.mp hx]; exact Int32.le_refl _
theorem RG_k {many : Nat} {g : Nat → Int32} {s : (Nat → Int32) × Nat} {b v : Int32} (h : RG many g s b) (hv : b ≤ v) : ∀ k, ∃ c, c ≤ v ∧ RG many (kpRow many v g k) (rgK many v s k) c
  | 0 => ⟨b, hv, h⟩
  | k + 1 => by
    obtain ⟨c, hc, h1⟩ := RG_k h hv k
    rw [kpRow, rgK]
    exact ⟨v, Int32.le_refl _, RG_step h1 hc⟩
theorem RG_up {many : Nat} {g : Nat → Int32} {s : (Nat → Int32) × Nat} {b c : Int32} (h : RG many g s b) (hbc : b ≤ c) : RG many g s c := ⟨h.1, h.2.1, h.2.2.1, fun x hx => Int32.le_trans (h.2.2.2 x hx) hbc⟩
theorem mw_le {w m : Nat} (hw : w ≤ 20) (hm : m ≤ 300) : nI m + nI w ≤ nI (m + 1) + nI w := by
  rw [nI_add, nI_add]
  exact nI_le (by omega) (by omega)
theorem rg_eq {many G w : Nat} (hw : w ≤ 20) : ∀ (n m : Nat) (s : (Nat → Int32) × Nat) (g : Nat → Int32), m + n ≤ 200 → RG many g s (nI m + nI w) → rgM many G (nI w) n m s = kpM many G (nI w) n m g
  | 0, _, _, _, _, _ => rfl
  | n + 1, m, s, g, hm, h => by
    simp only [rgM, kpM]
    rw [RG_head h]
    split
    · rfl
    · rw [nI_1]
      obtain ⟨c, hc, h1⟩ := RG_k h (mw_le (w := w) (m := m) hw (by omega)) G
      exact rg_eq hw n (m + 1) _ _ (by omega) (RG_up h1 hc)
/-- THE MINUTE OF THE ONE IS THE MINUTE OF THE OTHER -/
theorem ring_eq {many G w : Nat} {f : Nat → Int32} (hm : 0 < many) (hw : w ≤ 20) : rgM many G (nI w) 200 0 (flF f (nI w) many, 0) = kpC many G (nI w) := by
  unfold kpC
  refine rg_eq hw 200 0 _ _ (by omega) ?_
  have e1 : rotL (flF f (nI w) many) many 0 = List.replicate many (nI w) := by
    apply List.ext_getElem?
    intro j
    by_cases hj : j < many
    · rw [rotL_at hj, List.getElem?_replicate, if_pos hj]
      have : rix many 0 j < many := by unfold rix; split <;> omega
      simp [flF, this]
    · rw [List.getElem?_eq_none (by rw [rotL_len]; omega), List.getElem?_eq_none (by simp; omega)]
  have e2 : arrL (fun _ => nI w) many = List.replicate many (nI w) := by
    apply List.ext_getElem?
    intro j
    by_cases hj : j < many
    · rw [arrL_at hj, List.getElem?_replicate, if_pos hj]
    · rw [List.getElem?_eq_none (by simp [arrL]; omega), List.getElem?_eq_none (by simp; omega)]
  refine ⟨hm, ?_, ?_, ?_⟩
  · show (arrL (fun _ => nI w) many).Perm (rotL (flF f (nI w) many) many 0)
    rw [e1, e2]
  · show (rotL (flF f (nI w) many) many 0).Pairwise _
    rw [e1, List.pairwise_replicate]
    exact Or.inr (Int32.le_refl _)
  · show ∀ x ∈ rotL (flF f (nI w) many) many 0, x ≤ nI 0 + nI w
    rw [e1]
    intro x hx
    rw [List.eq_of_mem_replicate hx, nI_add, Nat.zero_add]
    exact Int32.le_refl _
