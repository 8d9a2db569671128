/-! cells that come -/
def xeS (n : Nat) (e : va_E) : Prop := match e with
  | .inl (_, _, .inr (.inr (.inr (.inr f)))) => ∀ j, f j ≠ some n
  | .inl _ => True
  | .inr (_, fs) => ∀ v ∈ fs, v ≠ .ref n
theorem xe_new {cy : Nat → ClassId} {ad ad' : Nat → Nat} {n : Nat} (h : ∀ i, i ≠ n → ad' i = ad i) {e : va_E} (he : xeS n e) : xe cy ad' e = xe cy ad e := by
  match e, he with
  | .inl (_, _, .inl _), _ => rfl
  | .inl (_, _, .inr (.inl _)), _ => rfl
  | .inl (_, _, .inr (.inr (.inl _))), _ => rfl
  | .inl (_, _, .inr (.inr (.inr (.inl _)))), _ => rfl
  | .inl (k, m, .inr (.inr (.inr (.inr f)))), he =>
    have hf : (fun j => (f j).map ad') = (fun j => (f j).map ad) := funext fun j => by
      cases hj : f j with
      | none => rfl
      | some x =>
        have hx : x ≠ n := fun q => he j (by rw [hj, q])
        simp [h x hx]
    simp only [xe, xa, hf]
  | .inr (ci, fs), he =>
    have hf : fs.map (xt ad') = fs.map (xt ad) := List.map_congr_left (fun v hv => by
      cases v with
      | ref i =>
        have hi : i ≠ n := fun q => he _ hv (by rw [q])
        simp [xt, h i hi]
      | _ => rfl)
    simp only [xe, hf]
theorem xw_new {cy : Nat → ClassId} {ad ad' : Nat → Nat} {w : List va_E} {e : va_E} (h : ∀ i, i ≠ w.length → ad' i = ad i) (hw : ∀ e ∈ w, xeS w.length e) : xw cy ad' (w ++ [e]) = xw cy ad w ++ [(ad' w.length, xe cy ad' e)] := by
  apply List.ext_getElem?
  intro j
  simp only [xw, List.getElem?_mapIdx]
  by_cases hj : j < w.length
  · rw [List.getElem?_append_left hj, List.getElem?_append_left (by simpa using hj), List.getElem?_mapIdx, List.getElem?_eq_getElem hj]
    simp only [Option.map_some]
    rw [h j (by omega), xe_new h (hw _ (List.getElem_mem hj))]
  · by_cases hj2 : j = w.length
    · subst hj2
      simp
    · rw [List.getElem?_eq_none (by simp; omega), List.getElem?_eq_none (by simp; omega)]
      rfl
section
variable {M : XM} {d : Nat} {Q : Option Value → List va_E → Prop} {z : Nat × Nat × Nat × Nat} {pc : Nat} {lv : List (Nat × Value)} {st : List Value} {w : List va_E}
theorem ww_newi (a : Nat) {n : Int32} {N : Nat} (hN : n.toNatClampNeg = N) (hn : ¬ n < 0) (hbytes : N * 4 ≤ 536870912) (hc : z.2.2.1 + 1 ≤ z.1) (hsl : z.2.2.2 + N ≤ z.2.1) (hwl : w.length < 1000000) (hw : ∀ e ∈ w, xeS w.length e) (hst : st.all (xsc w.length) = true) (hsc : lv.all (fun q => xsc w.length q.2) = true) (harr : mb (.arrayClass .int) = true) (hq : M.2.2.2.2.1[a]? = some (pc, .newarray .int, 2))
    (kk : WW M d Q (z.1, z.2.1, z.2.2.1 + 1, z.2.2.2 + N) (pc + 2) lv (.ref w.length :: st) (w ++ [iA N (fun _ => 0)])) : WW M d Q z pc lv (.int n :: st) w := by
  intro hM p l e s m args below meth c D cy A n0 ad0 C ad H locs ls X
  obtain ⟨hx, hb, hr2, hlk, hml, hown, hts, hK, hA, hnm, hmt⟩ := id C
  obtain ⟨hP, hD, hS, hlv, hG, hn0, hz1, hz2⟩ := X
  refine va_newa (atype := .int) hx hb (hts _ (mb_in harr)) rfl hK hP hD hS hA (a0 := (N, .inl (fun _ => 0))) (fun _ => rfl) hn hN hbytes hc hsl (xpc hM hq) ?_
  intro q cA H1 hK1 hP1 hD1 hS1
  have hcA : cA = cy 0 := by
    have e1 := (hK1.2 4 (cA, .int) rfl).2
    have e2 := (hK.2 0 (cy 0, .int) rfl).2
    exact Option.some.inj (e1.symm.trans e2)
  rw [hcA] at hP1 hD1
  have had : ∀ i, i ≠ w.length → (fun i => if i = w.length then q else ad i) i = ad i := fun i hi => if_neg hi
  have hlt : ∀ i, i < w.length → (fun i => if i = w.length then q else ad i) i = ad i := fun i hi => had i (by omega)
  have hnw : xw cy (fun i => if i = w.length then q else ad i) (w ++ [iA N (fun _ => 0)]) = xw cy ad w ++ [(q, .inl (cy 0, N, .inl (fun _ => 0)))] := by
    rw [xw_new had hw]
    simp [xe, xa]
  have hk := kk hM (l := l) (e := e) (below := below) (n0 := n0) (ad0 := ad0) C (ad := fun i => if i = w.length then q else ad i) (H := H1) (locs := locs) (ls := ls)
    ⟨by rw [hnw]; exact hP1, by rw [hnw]; exact hD1, hS1, by rw [xsc_lv hlt hsc]; exact hlv,
     ⟨⟨fun h => absurd h (by show ¬ z.1 = 0; omega), fun i hi => by rw [had i (by omega)]; exact hG.1.2 i hi⟩, hG.2.ad (fun i hi => had i (by omega))⟩, by simp; omega, hc, hsl⟩
  have he : (Value.ref w.length :: st).map (xt (fun i => if i = w.length then q else ad i)) = .ref q :: st.map (xt ad) := by
    rw [List.map_cons, xsc_st hlt hst]
    simp [xt]
  rw [he] at hk
  exact hk
end
