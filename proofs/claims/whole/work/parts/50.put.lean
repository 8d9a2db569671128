/-! fields of any type put; objects and rows of objects that come -/
section
variable {M : XM} {d : Nat} {Q : Option Value → List va_E → Prop} {z : Nat × Nat × Nat × Nat} {pc : Nat} {lv : List (Nat × Value)} {st : List Value} {w : List va_E}
theorem ww_putv (a0 : Nat) {idx a ci k : Nat} {b : Bool} {fs : List Value} {v : Value} {ty : FieldType} {r : vw_C} (hq : M.2.2.2.2.1[a0]? = some (pc, .putfield idx, 3)) (hf : xfl M.2.2.2.2.2.2.1 idx = some (ci, k, b)) (h1 : vwCl[ci]? = some r) (hfin : (r.2.1 k).2.2.2 = false) (hd : parseFieldDescriptor (r.2.1 k).2.2.1 = some ty) (hn : ∀ ad, narrow ty (xt ad v) = xt ad v) (hfit : ∀ ad, fits ty (xt ad v) = true) (ha : w[a]? = some (.inr (ci, fs))) (hl : k < fs.length) (kk : WW M d Q z (pc + 3) lv st (w.set a (.inr (ci, fs.set k v)))) : WW M d Q z pc lv (v :: .ref a :: st) w := by
  intro hM p l e s m args below meth c D cy A n0 ad0 C ad H locs ls X
  obtain ⟨hx, hb, hr, hlk, hml, hown, hts, hK, hA, hnm, hmt⟩ := id C
  obtain ⟨r', h1', h2, h3, -⟩ := okf_spec (xfl_ok hM hf)
  obtain rfl : r' = r := Option.some.inj (h1'.symm.trans h1)
  obtain ⟨hnd, ty0, hty⟩ := big_n ci r' h1'
  obtain ⟨hP, hD, hS, hlv, hG, hn0, hz⟩ := X
  have hE : (xw cy ad w).set a (ad a, .inr (ci, (fs.map (xt ad)).set k (xt ad v))) = xw cy ad (w.set a (.inr (ci, fs.set k v))) := by
    rw [← xw_set]
    simp [xe, List.map_set]
  refine va_put (D := D) (ci := ci) (v := xt ad v) (ty := ty) (C := r'.1) (T := r'.2.1) (N := r'.2.2) hx hb hts (big_u ci r' h1') ty0 hty hnd hown hK hP hD hS a (xw_at ha) h1' k h2 (hts _ h3) (fun _ h9 => h9) hfin hd (hn ad) (hfit ad) (by rw [List.length_map]; exact hl) (xpc hM hq) (fun H1 locs1 hP1 hD1 hS1 => ?_)
  rw [hE] at hP1 hD1
  exact kk hM C ⟨hP1, hD1, hS1, hlv, hG, by rw [List.length_set]; exact hn0, hz⟩
/-- a final field, in a constructor -/
theorem ww_putF (a0 : Nat) {idx a ci k : Nat} {b : Bool} {fs : List Value} {v : Value} {ty : FieldType} {r : vw_C} (hq : M.2.2.2.2.1[a0]? = some (pc, .putfield idx, 3)) (hf : xfl M.2.2.2.2.2.2.1 idx = some (ci, k, b)) (h1 : vwCl[ci]? = some r) (hfin : (r.2.1 k).2.2.2 = true) (hin : M.1.name = "<init>") (hdecl : (r.2.1 k).1 = M.2.2.2.2.2.1) (hd : parseFieldDescriptor (r.2.1 k).2.2.1 = some ty) (hn : ∀ ad, narrow ty (xt ad v) = xt ad v) (hfit : ∀ ad, fits ty (xt ad v) = true) (ha : w[a]? = some (.inr (ci, fs))) (hl : k < fs.length) (kk : WW M d Q z (pc + 3) lv st (w.set a (.inr (ci, fs.set k v)))) : WW M d Q z pc lv (v :: .ref a :: st) w := by
  intro hM p l e s m args below meth c D cy A n0 ad0 C ad H locs ls X
  obtain ⟨hx, hb, hr, hlk, hml, hown, hts, hK, hA, hnm, hmt⟩ := id C
  obtain ⟨r', h1', h2, h3, -⟩ := okf_spec (xfl_ok hM hf)
  obtain rfl : r' = r := Option.some.inj (h1'.symm.trans h1)
  obtain ⟨hnd, ty0, hty⟩ := big_n ci r' h1'
  obtain ⟨hP, hD, hS, hlv, hG, hn0, hz⟩ := X
  have hE : (xw cy ad w).set a (ad a, .inr (ci, (fs.map (xt ad)).set k (xt ad v))) = xw cy ad (w.set a (.inr (ci, fs.set k v))) := by
    rw [← xw_set]
    simp [xe, List.map_set]
  refine va_putF (D := D) (ci := ci) (v := xt ad v) (ty := ty) (C := r'.1) (T := r'.2.1) (N := r'.2.2) hx hb hts (big_u ci r' h1') ty0 hty hnd hown hK hP hD hS a (xw_at ha) h1' k h2 (hts _ h3) (fun _ h9 => h9) hfin ((name_of_methodNamed hnm hmt).1.trans hin) hdecl hd (hn ad) (hfit ad) (by rw [List.length_map]; exact hl) (xpc hM hq) (fun H1 locs1 hP1 hD1 hS1 => ?_)
  rw [hE] at hP1 hD1
  exact kk hM C ⟨hP1, hD1, hS1, hlv, hG, by rw [List.length_set]; exact hn0, hz⟩
theorem ok_obj : mb (.instanceMethod Lib.objectInit) = true ∧ mb (.code Lib.objectInit ⟨#[0xb1]⟩ 1 none) = true := ⟨by decide +kernel, by decide +kernel⟩
theorem ww_obj (a0 : Nat) {idx a : Nat} (hok : mb (.methodLink M.2.2.2.2.2.1 idx Lib.objectInit) = true) (hd : 1 ≤ d) (hrm : (st.map fun v => v.category).sum ≤ 8) (hq : M.2.2.2.2.1[a0]? = some (pc, .invokespecial idx, 3)) (kk : WW M d Q z (pc + 3) lv st w) : WW M d Q z pc lv (.ref a :: st) w := by
  intro hM p l e s m args below meth c D cy A n0 ad0 C ad H locs ls X
  obtain ⟨hx, hb, hr, hlk, hml, hown, hts, hK, hA, hnm, hmt⟩ := id C
  refine W.objInit hx hb hown (hts _ (mb_in hok)) (hts _ (mb_in ok_obj.1)) (hts _ (mb_in ok_obj.2)) rfl (by rw [hml]; exact X.2.2.2.1.1) (a := ad a) (rest := st.map (xt ad)) rfl (xpc hM hq) hd ?_ (kk hM C X)
  have h2 : ((st.map (xt ad)).map fun v => v.category).sum ≤ 8 := by simpa [Function.comp_def, xt_cat] using hrm
  have h3 : (F0 m pc ls (((.ref a : Value) :: st).map (xt ad))).monitorRoom = 0 := rfl
  rw [h3]
  show 2 * 0 + _ + 12 ≤ 64 * d
  omega
/-- an object comes -/
theorem ww_new (a0 : Nat) {idx ci : Nat} {r : vw_C} {fs : List Value} (h1 : vwCl[ci]? = some r) (hcl : mb (.classLink M.2.2.2.2.2.1 idx r.1) = true) (hinst : mb (.instantiable r.1 r.2.2) = true) (hini : mb (.initialized r.1) = true) {ty : Nat → FieldType} (hty : ∀ k, k < r.2.2 → parseFieldDescriptor (r.2.1 k).2.2.1 = some (ty k)) (hfs : ∀ j, j < r.2.2 → defaultValue (ty j) = vp_V fs j) (hfr : ∀ v ∈ fs, ∀ ad, xt ad v = v) (hc : z.2.2.1 + 1 ≤ z.1) (hsl : z.2.2.2 + r.2.2 ≤ z.2.1) (hwl : w.length < 1000000) (hw : ∀ e ∈ w, xeS w.length e) (hst : st.all (xsc w.length) = true) (hsc : lv.all (fun q => xsc w.length q.2) = true) (hq : M.2.2.2.2.1[a0]? = some (pc, .new idx, 3))
    (kk : WW M d Q (z.1, z.2.1, z.2.2.1 + 1, z.2.2.2 + r.2.2) (pc + 3) lv (.ref w.length :: st) (w ++ [.inr (ci, fs)])) : WW M d Q z pc lv st w := by
  intro hM p l e s m args below meth c D cy A n0 ad0 C ad H locs ls X
  obtain ⟨hx, hb, hr2, hlk, hml, hown, hts, hK, hA, hnm, hmt⟩ := id C
  obtain ⟨hP, hD, hS, hlv, hG, hn0, hz1, hz2⟩ := X
  refine va_new (ci := ci) (fs := fs) (C := r.1) (T := r.2.1) (N := r.2.2) hx hb hts (big_u ci r h1) ty hty hown (hts _ (mb_in hcl)) (hts _ (mb_in hinst)) (hts _ (mb_in hini)) hK hP hD hS hA h1 hfs hc hsl (xpc hM hq) ?_
  intro q H1 hP1 hD1 hS1
  have had : ∀ i, i ≠ w.length → (fun i => if i = w.length then q else ad i) i = ad i := fun i hi => if_neg hi
  have hlt : ∀ i, i < w.length → (fun i => if i = w.length then q else ad i) i = ad i := fun i hi => had i (by omega)
  have hnw : xw cy (fun i => if i = w.length then q else ad i) (w ++ [.inr (ci, fs)]) = xw cy ad w ++ [(q, .inr (ci, fs))] := by
    rw [xw_new had hw]
    have hm : fs.map (xt (fun i => if i = w.length then q else ad i)) = fs := by
      rw [List.map_congr_left (g := id) (fun v hv => hfr v hv _)]
      simp
    simp [xe, hm]
  have hk := kk hM (l := l) (e := e) (below := below) (n0 := n0) (ad0 := ad0) C (ad := fun i => if i = w.length then q else ad i) (H := H1) (locs := locs) (ls := ls)
    ⟨by rw [hnw]; exact hP1, by rw [hnw]; exact hD1, hS1, by rw [xsc_lv hlt hsc]; exact hlv,
     ⟨⟨fun h => absurd h (by show ¬ z.1 = 0; omega), fun i hi => by rw [had i (by omega)]; exact hG.1.2 i hi⟩, hG.2.ad (fun i hi => had i (by omega))⟩, by simp; omega, hc, hsl⟩
  have he : (Value.ref w.length :: st).map (xt (fun i => if i = w.length then q else ad i)) = .ref q :: st.map (xt ad) := by
    rw [List.map_cons, xsc_st hlt hst]
    simp [xt]
  rw [he] at hk
  exact hk
theorem ww_newz (a : Nat) {n : Int32} {N : Nat} (hN : n.toNatClampNeg = N) (hn : ¬ n < 0) (hbytes : N * 4 ≤ 536870912) (hc : z.2.2.1 + 1 ≤ z.1) (hsl : z.2.2.2 + N ≤ z.2.1) (hwl : w.length < 1000000) (hw : ∀ e ∈ w, xeS w.length e) (hst : st.all (xsc w.length) = true) (hsc : lv.all (fun q => xsc w.length q.2) = true) (harr : mb (.arrayClass .boolean) = true) (hq : M.2.2.2.2.1[a]? = some (pc, .newarray .boolean, 2))
    (kk : WW M d Q (z.1, z.2.1, z.2.2.1 + 1, z.2.2.2 + N) (pc + 2) lv (.ref w.length :: st) (w ++ [zA N (fun _ => 0)])) : WW M d Q z pc lv (.int n :: st) w := by
  intro hM p l e s m args below meth c D cy A n0 ad0 C ad H locs ls X
  obtain ⟨hx, hb, hr2, hlk, hml, hown, hts, hK, hA, hnm, hmt⟩ := id C
  obtain ⟨hP, hD, hS, hlv, hG, hn0, hz1, hz2⟩ := X
  refine va_newa (atype := .boolean) hx hb (hts _ (mb_in harr)) rfl hK hP hD hS hA (a0 := (N, .inl (fun _ => 0))) (fun _ => rfl) hn hN (Nat.le_trans (Nat.mul_le_mul_left N (show componentBytes .boolean ≤ 4 by decide)) hbytes) hc hsl (xpc hM hq) ?_
  intro q cA H1 hK1 hP1 hD1 hS1
  have hcA : cA = cy 1 := by
    have e1 := (hK1.2 4 (cA, .boolean) rfl).2
    have e2 := (hK.2 1 (cy 1, .boolean) rfl).2
    exact Option.some.inj (e1.symm.trans e2)
  rw [hcA] at hP1 hD1
  have had : ∀ i, i ≠ w.length → (fun i => if i = w.length then q else ad i) i = ad i := fun i hi => if_neg hi
  have hlt : ∀ i, i < w.length → (fun i => if i = w.length then q else ad i) i = ad i := fun i hi => had i (by omega)
  have hnw : xw cy (fun i => if i = w.length then q else ad i) (w ++ [zA N (fun _ => 0)]) = xw cy ad w ++ [(q, .inl (cy 1, N, .inl (fun _ => 0)))] := by
    rw [xw_new had hw]
    simp [xe, xa]
  have hk := kk hM (l := l) (e := e) (below := below) (n0 := n0) (ad0 := ad0) C (ad := fun i => if i = w.length then q else ad i) (H := H1) (locs := locs) (ls := ls)
    ⟨by rw [hnw]; exact hP1, by rw [hnw]; exact hD1, hS1, by rw [xsc_lv hlt hsc]; exact hlv,
     ⟨⟨fun h => absurd h (by show ¬ z.1 = 0; omega), fun i hi => by rw [had i (by omega)]; exact hG.1.2 i hi⟩, hG.2.ad (fun i hi => had i (by omega))⟩, by simp; omega, hc, hsl⟩
  have he : (Value.ref w.length :: st).map (xt (fun i => if i = w.length then q else ad i)) = .ref q :: st.map (xt ad) := by
    rw [List.map_cons, xsc_st hlt hst]
    simp [xt]
  rw [he] at hk
  exact hk
/-- a row of objects comes: of laws (2), of sheets (3) -/
theorem ww_newq (a : Nat) {t0 : Nat} {cn : String} {idx : Nat} {n : Int32} {N : Nat} (ht : (t0 = 2 ∧ cn = "WarmChairs$Law") ∨ (t0 = 3 ∧ cn = "WarmChairs$Sheet")) (hcl : mb (.classLink M.2.2.2.2.2.1 idx cn) = true) (hN : n.toNatClampNeg = N) (hn : ¬ n < 0) (hbytes : N * 4 ≤ 536870912) (hc : z.2.2.1 + 1 ≤ z.1) (hsl : z.2.2.2 + N ≤ z.2.1) (hwl : w.length < 1000000) (hw : ∀ e ∈ w, xeS w.length e) (hst : st.all (xsc w.length) = true) (hsc : lv.all (fun q => xsc w.length q.2) = true) (hq : M.2.2.2.2.1[a]? = some (pc, .anewarray idx, 3))
    (kk : WW M d Q (z.1, z.2.1, z.2.2.1 + 1, z.2.2.2 + N) (pc + 3) lv (.ref w.length :: st) (w ++ [.inl (t0, N, .inr (.inr (.inr (.inr (fun _ => none)))))])) : WW M d Q z pc lv (.int n :: st) w := by
  intro hM p l e s m args below meth c D cy A n0 ad0 C ad H locs ls X
  obtain ⟨hx, hb, hr2, hlk, hml, hown, hts, hK, hA, hnm, hmt⟩ := id C
  obtain ⟨hP, hD, hS, hlv, hG, hn0, hz1, hz2⟩ := X
  have hAO : va_AO cn s := by
    rcases ht with ⟨-, rfl⟩ | ⟨-, rfl⟩
    · exact hG.2.1.2.1
    · exact hG.2.1.2.2.1
  refine va_newq hx hb hown (hts _ (mb_in hcl)) hAO hK hP hD hS hA hn hN hbytes hc hsl (xpc hM hq) ?_
  intro q cA H1 hK1 hP1 hD1 hS1
  have hcA : cA = cy t0 := by
    rcases ht with ⟨rfl, rfl⟩ | ⟨rfl, rfl⟩
    · obtain ⟨_, _, -, -, -, e1⟩ := (hK1.2 4 (cA, .object "WarmChairs$Law") rfl).2
      obtain ⟨_, _, -, -, -, e2⟩ := (hK.2 2 (cy 2, .object "WarmChairs$Law") rfl).2
      exact Option.some.inj (e1.symm.trans e2)
    · obtain ⟨_, _, -, -, -, e1⟩ := (hK1.2 4 (cA, .object "WarmChairs$Sheet") rfl).2
      obtain ⟨_, _, -, -, -, e2⟩ := (hK.2 3 (cy 3, .object "WarmChairs$Sheet") rfl).2
      exact Option.some.inj (e1.symm.trans e2)
  rw [hcA] at hP1 hD1
  have had : ∀ i, i ≠ w.length → (fun i => if i = w.length then q else ad i) i = ad i := fun i hi => if_neg hi
  have hlt : ∀ i, i < w.length → (fun i => if i = w.length then q else ad i) i = ad i := fun i hi => had i (by omega)
  have hnw : xw cy (fun i => if i = w.length then q else ad i) (w ++ [.inl (t0, N, .inr (.inr (.inr (.inr (fun _ => none)))))]) = xw cy ad w ++ [(q, .inl (cy t0, N, .inr (.inr (.inr (.inr (fun _ => none))))))] := by
    rw [xw_new had hw]
    simp [xe, xa]
  have hk := kk hM (l := l) (e := e) (below := below) (n0 := n0) (ad0 := ad0) C (ad := fun i => if i = w.length then q else ad i) (H := H1) (locs := locs) (ls := ls)
    ⟨by rw [hnw]; exact hP1, by rw [hnw]; exact hD1, hS1, by rw [xsc_lv hlt hsc]; exact hlv,
     ⟨⟨fun h => absurd h (by show ¬ z.1 = 0; omega), fun i hi => by rw [had i (by omega)]; exact hG.1.2 i hi⟩, hG.2.ad (fun i hi => had i (by omega))⟩, by simp; omega, hc, hsl⟩
  have he : (Value.ref w.length :: st).map (xt (fun i => if i = w.length then q else ad i)) = .ref q :: st.map (xt ad) := by
    rw [List.map_cons, xsc_st hlt hst]
    simp [xt]
  rw [he] at hk
  exact hk
/-- an object is laid into a row of its kind -/
theorem ww_aast (a0 : Nat) {a t0 n b : Nat} {f : Nat → Option Nat} {vs : List Value} {i : Int32} (ht : t0 = 2 ∨ t0 = 3) (ha : w[a]? = some (.inl (t0, n, .inr (.inr (.inr (.inr f)))))) (hb : w[b]? = some (.inr (t0, vs))) (hi : vp_in i n) (hq : M.2.2.2.2.1[a0]? = some (pc, .aastore, 1)) (kk : WW M d Q z (pc + 1) lv st (w.set a (.inl (t0, n, .inr (.inr (.inr (.inr (va_up f i.toNatClampNeg (some b)))))))) ) : WW M d Q z pc lv (.ref b :: .int i :: .ref a :: st) w := by
  intro hM p l e s m args below meth c D cy A n0 ad0 C ad H locs ls X
  obtain ⟨hx, hbb, hr2, hlk, hml, hown, hts, hK, hA, hnm, hmt⟩ := id C
  obtain ⟨hP, hD, hS, hlv, hG, hn0, hz⟩ := X
  have hup : (fun j => ((va_up f i.toNatClampNeg (some b)) j).map ad) = va_up (fun j => (f j).map ad) i.toNatClampNeg (some (ad b)) := by
    funext j
    unfold va_up
    split <;> rfl
  have hE : (xw cy ad w).set a (ad a, .inl (cy t0, n, .inr (.inr (.inr (.inr (va_up (fun j => (f j).map ad) i.toNatClampNeg (some (ad b)))))))) = xw cy ad (w.set a (.inl (t0, n, .inr (.inr (.inr (.inr (va_up f i.toNatClampNeg (some b)))))))) := by
    rw [← xw_set]
    simp only [xe, xa, hup]
  have kk2 : ∀ (H1 : Heap) (locs1 : List Loc), va_P D vwCl ((xw cy ad w).set a (ad a, .inl (cy t0, n, .inr (.inr (.inr (.inr (va_up (fun j => (f j).map ad) i.toNatClampNeg (some (ad b))))))))) H1 → va_D A ((xw cy ad w).set a (ad a, .inl (cy t0, n, .inr (.inr (.inr (.inr (va_up (fun j => (f j).map ad) i.toNatClampNeg (some (ad b))))))))) → va_S A s.heap H1 locs1 → W p l e (xrm d z.1 z.2.1) s m args below meth c H1 locs1 z.2.2.1 z.2.2.2 (MQ below (XQ D cy z.1 n0 ad0 A Q) args s z.1 z.2.1 A) (F0 m (pc + 1) ls (st.map (xt ad))) := by
    intro H1 locs1 hP1 hD1 hS1
    rw [hE] at hP1 hD1
    exact kk hM C ⟨hP1, hD1, hS1, hlv, hG, by rw [List.length_set]; exact hn0, hz⟩
  rcases ht with rfl | rfl
  · exact va_astq hx hbb hK hP hD hS a 2 b 2 (r := ("WarmChairs$Law", _, _)) (f := fun j => (f j).map ad) (xw_at ha) rfl (xw_at hb) rfl hi (xpc hM hq) kk2
  · exact va_astq hx hbb hK hP hD hS a 3 b 3 (r := ("WarmChairs$Sheet", _, _)) (f := fun j => (f j).map ad) (xw_at ha) rfl (xw_at hb) rfl hi (xpc hM hq) kk2
end
