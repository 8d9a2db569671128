/-! the reference's world inside the component's tail -/
def rhM : List Nat := [52, 53, 54, 55, 56, 57, 58, 59, 60, 61, 62, 63, 64, 65, 66, 67, 68, 69, 70, 71, 72, 73, 74, 75, 76, 77, 78, 79, 80]
def rhT : List Nat := [4, 5, 6, 7, 8, 9, 10, 11, 12, 13, 14, 15, 16, 17, 18, 19, 20, 21, 22, 23, 24, 25, 26, 27, 28, 29, 30, 31, 32]
def ovT (T w0 : List va_E) : List va_E := xgr (xr rhM) T rhT w0
theorem xgr_app (g : Nat → Nat) (L : List va_E) : ∀ (is : List Nat) (T es : List va_E), xgr g (L ++ T) (is.map (fun i => L.length + i)) es = L ++ xgr g T is es
  | [], T, es => by cases es <;> rfl
  | i :: is, T, [] => rfl
  | i :: is, T, e :: es => by
    simp only [List.map_cons, xgr]
    rw [List.set_append_right _ _ (Nat.le_add_right _ _), Nat.add_sub_cancel_left]
    exact xgr_app g L is _ es
/-- what the reference's cells must look like in the tail -/
def mdOf (w0 : List va_E) : Nat → Option va_E := fun j => (w0[j]?).map (fun e => xe (fun k => k) (xr rhM) e)
theorem rhT_at : ∀ j, j < 29 → rhT[j]? = some (j + 4) := by decide
theorem rhT_in : ∀ i, i ∈ rhT → 4 ≤ i ∧ i < 33 := by decide
theorem ov_len (T w0 : List va_E) : (ovT T w0).length = T.length := xgr_len _ _ _ _
theorem LTx_ov {T w0 : List va_E} {t : Nat} {s1 : Nat → (Nat → Int32) → Int32} (h : LTx T (lb t) s1) : LTx (ovT T w0) (lb t) s1 := by
  obtain ⟨nc, cd, en, stk, e, a0, a1, a2, a3, a4, a5⟩ := h
  have ho : ∀ j, j < 4 → (ovT T w0)[lb t + j]? = T[lb t + j]? := fun j hj => xgr_out _ _ _ _ _ (fun hm => by
    have h1 := rhT_in _ hm
    have h2 := lb_mod (t := t) hj
    omega)
  exact ⟨nc, cd, en, stk, e, (ho 0 (by omega)).trans a0, (ho 1 (by omega)).trans a1, (ho 2 (by omega)).trans a2, (ho 3 (by omega)).trans a3, a4, a5⟩
theorem md_ov {T w0 : List va_E} (hT : 33 ≤ T.length) (h0 : w0.length = 29) : ∀ j, j < 29 → (ovT T w0)[j + 4]? = mdOf w0 j := by
  intro j hj
  have h1 : w0[j]? = some w0[j] := List.getElem?_eq_getElem (by omega)
  have h2 := xgr_in (xr rhM) (j + 4) rhT T w0 j w0[j] (by decide) (rhT_at j hj) h1 (by omega)
  show (xgr (xr rhM) T rhT w0)[j + 4]? = (w0[j]?).map _
  rw [h2, h1]
  rfl
/-- all references lie below n -/
def xeD (n : Nat) (e : va_E) : Prop := match e with
  | .inl (_, _, .inr (.inr (.inr (.inr f)))) => ∀ j x, f j = some x → x < n
  | .inl _ => True
  | .inr (_, fs) => ∀ v ∈ fs, ∀ i, v = .ref i → i < n
theorem xeM_S {e : va_E} {n : Nat} (h : xeD 29 e) (hn : 81 ≤ n) : xeS n (xe (fun k => k) (xr rhM) e) := by
  have hx : ∀ i, i < 29 → xr rhM i < 81 := by decide
  match e, h with
  | .inl (_, _, .inl _), _ => exact trivial
  | .inl (_, _, .inr (.inl _)), _ => exact trivial
  | .inl (_, _, .inr (.inr (.inl _))), _ => exact trivial
  | .inl (_, _, .inr (.inr (.inr (.inl _)))), _ => exact trivial
  | .inl (k, m, .inr (.inr (.inr (.inr r)))), h =>
    intro j q
    have q : (r j).map (xr rhM) = some n := q
    cases hr : r j with
    | none => rw [hr] at q; cases q
    | some x =>
      rw [hr] at q
      have q : xr rhM x = n := Option.some.inj q
      have := hx x (h j x hr)
      omega
  | .inr (ci, fs), h =>
    intro v hv q
    obtain ⟨v0, h0, rfl⟩ := List.mem_map.mp hv
    cases v0 with
    | ref i =>
      have q : xr rhM i = n := Value.ref.inj q
      have := hx i (h _ h0 i rfl)
      omega
    | _ => cases q
theorem xgr_mem (g : Nat → Nat) : ∀ (is : List Nat) (T es : List va_E) (e : va_E), e ∈ xgr g T is es → e ∈ T ∨ ∃ e0 ∈ es, e = xe (fun k => k) g e0
  | [], T, es, e, h => by cases es <;> exact Or.inl h
  | i :: is, T, [], e, h => Or.inl h
  | i :: is, T, e1 :: es, e, h => by
    simp only [xgr] at h
    rcases xgr_mem g is _ es e h with h1 | ⟨e0, h1, h2⟩
    · rcases List.mem_or_eq_of_mem_set h1 with h3 | h3
      · exact Or.inl h3
      · exact Or.inr ⟨e1, List.mem_cons_self, h3⟩
    · exact Or.inr ⟨e0, List.mem_cons_of_mem _ h1, h2⟩
theorem lb_1 {K : Nat} (h : 1 ≤ K) : 33 ≤ lb K := by
  unfold lb
  split <;> omega
/-- behind a call of the reference's -/
theorem TI_ov {T w0 : List va_E} {K : Nat} {sy : SY} {md : Nat → Option va_E} (hK : 1 ≤ K) (h : TI T K sy md) (h0 : w0.length = 29) (hc : ∀ e ∈ w0, xeD 29 e) : TI (ovT T w0) K sy (mdOf w0) := by
  obtain ⟨h1, h2, h3, h4, h5⟩ := h
  have hl := lb_1 hK
  refine ⟨h1, fun t ht => LTx_ov (h2 t ht), md_ov (by omega) h0, fun e he n hn => ?_, by rw [ov_len]; exact h5⟩
  rw [ov_len] at hn
  rcases xgr_mem _ _ _ _ _ he with g | ⟨e0, g1, g2⟩
  · exact h4 e g n hn
  · rw [g2]
    exact xeM_S (hc e0 g1) (by omega)
