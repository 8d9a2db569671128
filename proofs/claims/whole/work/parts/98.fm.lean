/-! the reference's world inside the component's tail -/
def rhM : List Nat := [52, 53, 54, 55, 56, 57, 58, 59, 60, 61, 62, 63, 64, 65, 66, 67, 68, 69, 70, 71, 72, 73, 74, 75, 76, 77, 78, 79, 80]
def rhT : List Nat := [4, 5, 6, 7, 8, 9, 10, 11, 12, 13, 14, 15, 16, 17, 18, 19, 20, 21, 22, 23, 24, 25, 26, 27, 28, 29, 30, 31, 32]
def ovT (T w0 : List va_E) : List va_E := xgr (xr rhM) T rhT w0
theorem xgr_app (g : Nat → Nat) (L : List va_E) : ∀ (is : List Nat) (T es : List va_E), xgr g (L ++ T) (is.map (fun i => L.length + i)) es = L ++ xgr g T is es
  | [], T, es => by cases es <;> rfl
  | i :: is, T, [] => rfl
  | i :: is, T, e :: es => by
    simp only [List.map_cons, xgr]
    rw [List.set_append_right _ _ (Nat.le_add_right _ _), Nat.add_sub_cancel_left]
    exact xgr_app g L is _ es
/-- what the reference's cells must look like in the tail -/
def mdOf (w0 : List va_E) : Nat → Option va_E := fun j => (w0[j]?).map (fun e => xe (fun k => k) (xr rhM) e)
theorem rhT_at : ∀ j, j < 29 → rhT[j]? = some (j + 4) := by decide
theorem rhT_in : ∀ i, i ∈ rhT → 4 ≤ i ∧ i < 33 := by decide
theorem ov_len (T w0 : List va_E) : (ovT T w0).length = T.length := xgr_len _ _ _ _
theorem LTx_ov {T w0 : List va_E} {t : Nat} {s1 : Nat → (Nat → Int32) → Int32} (h : LTx T (lb t) s1) : LTx (ovT T w0) (lb t) s1 := by
  obtain ⟨nc, cd, en, stk, e, a0, a1, a2, a3, a4, a5⟩ := h
  have ho : ∀ j, j < 4 → (ovT T w0)[lb t + j]? = T[lb t + j]? := fun j hj => xgr_out _ _ _ _ _ (fun hm => by
    have h1 := rhT_in _ hm
    have h2 := lb_mod (t := t) hj
    omega)
  exact ⟨nc, cd, en, stk, e, (ho 0 (by omega)).trans a0, (ho 1 (by omega)).trans a1, (ho 2 (by omega)).trans a2, (ho 3 (by omega)).trans a3, a4, a5⟩
theorem md_ov {T w0 : List va_E} (hT : 33 ≤ T.length) (h0 : w0.length = 29) : ∀ j, j < 29 → (ovT T w0)[j + 4]? = mdOf w0 j := by
  intro j hj
  have h1 : w0[j]? = some w0[j] := List.getElem?_eq_getElem (by omega)
  have h2 := xgr_in (xr rhM) (j + 4) rhT T w0 j w0[j] (by decide) (rhT_at j hj) h1 (by omega)
  show (xgr (xr rhM) T rhT w0)[j + 4]? = (w0[j]?).map _
  rw [h2, h1]
  rfl
theorem xeM_S {e : va_E} {n : Nat} (h : xeC 29 e) (hn : 81 ≤ n) (hn2 : n < 1000000) : xeS n (xe (fun k => k) (xr rhM) e) := by
  have hx : ∀ i, i < 29 → xr rhM i < 81 := by decide
  have hxx : ∀ i, 1000000 ≤ i → xr rhM i = i := fun i hi => by
    unfold xr
    rw [List.getD_eq_getElem?_getD, List.getElem?_eq_none (by show 29 ≤ i; omega)]
    rfl
  match e, h with
  | .inl (_, _, .inl _), _ => exact trivial
  | .inl (_, _, .inr (.inl _)), _ => exact trivial
  | .inl (_, _, .inr (.inr (.inl _))), _ => exact trivial
  | .inl (_, _, .inr (.inr (.inr (.inl _)))), _ => exact trivial
  | .inl (k, m, .inr (.inr (.inr (.inr r)))), h =>
    intro j q
    have q : (r j).map (xr rhM) = some n := q
    cases hr : r j with
    | none => rw [hr] at q; cases q
    | some x =>
      rw [hr] at q
      have q : xr rhM x = n := Option.some.inj q
      rcases h j x hr with g | g
      · have := hx x g; omega
      · have := hxx x g; omega
  | .inr (ci, fs), h =>
    intro v hv q
    obtain ⟨v0, h0, rfl⟩ := List.mem_map.mp hv
    cases v0 with
    | ref i =>
      have q : xr rhM i = n := Value.ref.inj q
      rcases h _ h0 i rfl with g | g
      · have := hx i g; omega
      · have := hxx i g; omega
    | _ => cases q
