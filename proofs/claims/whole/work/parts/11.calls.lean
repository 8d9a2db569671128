/-! calls as they are mostly made; small words -/
abbrev iA (n : Nat) (f : Nat → Int32) : va_E := .inl (0, n, .inl f)
abbrev zA (n : Nat) (f : Nat → Int32) : va_E := .inl (1, n, .inl f)
def b2i (P : Prop) [Decidable P] : Int32 := if P then 1 else 0
theorem b2i_eq0 {P : Prop} [Decidable P] : b2i P = 0 ↔ ¬ P := by
  unfold b2i; split <;> simp_all
theorem b2i_ne0 {P : Prop} [Decidable P] : ¬ b2i P = 0 ↔ P := by
  unfold b2i; split <;> simp_all
theorem b2i_nar {P : Prop} [Decidable P] (ty : FieldType := .boolean) (h : ty = .boolean := by rfl) : narrow ty (.int (b2i P)) = .int (b2i P) := by
  subst h; unfold b2i; split <;> rfl
theorem b2i_t {P : Prop} [Decidable P] (h : P) : b2i P = 1 := by simp [b2i, h]
theorem b2i_f {P : Prop} [Decidable P] (h : ¬ P) : b2i P = 0 := by simp [b2i, h]
abbrev Qi (x : Int32) (w0 : List va_E) : Option Value → List va_E → Prop := fun r w' => r = some (.int x) ∧ w' = w0
abbrev Qv (w0 : List va_E) : Option Value → List va_E → Prop := fun r w' => r = none ∧ w' = w0
abbrev xz : Nat × Nat × Nat × Nat := (0, 0, 0, 0)
section
variable {M M' : XM} {d d' : Nat} {Q Q' : Option Value → List va_E → Prop} {pc : Nat} {lv : List (Nat × Value)} {rest av : List Value} {w w1 : List va_E} {x : Int32}
theorem ww_cV (a : Nat) {b ci idx n : Nat} {fs : List Value} (hM' : okM M') (hc : Co M' d' 0 0 (.ref b :: av) w Q') (hok : okV M.2.2.2.2.2.1 idx M'.1 n = true) (hn : av.length = n) (hd : d' + 1 ≤ d) {st : List Value} (hst : st = av.reverse ++ .ref b :: rest) (hrm : (rest.map fun v => v.category).sum ≤ 8) (hb : w[b]? = some (.inr (ci, fs))) {r : vw_C} (hci : vwCl[ci]? = some r) (hcls : r.1 = M'.1.cls) (hq : M.2.2.2.2.1[a]? = some (pc, .invokevirtual idx, 3))
    (kk : ∀ (r : Option Value) (w' : List va_E), Q' r w' → WW M d Q xz (pc + 3) lv (r.toList ++ rest) w') : WW M d Q xz pc lv st w :=
  ww_callV a hM' hc hok hn (Nat.le_refl _) (Nat.le_refl _) (Or.inl rfl) hd hst hrm hb hci hcls hq kk
theorem ww_cS (a : Nat) {idx n : Nat} (hM' : okM M') (hc : Co M' d' 0 0 av w Q') (hok : okS M.2.2.2.2.2.1 idx M'.1 n = true) (hn : av.length = n) (hd : d' + 1 ≤ d) {st : List Value} (hst : st = av.reverse ++ rest) (hrm : (rest.map fun v => v.category).sum ≤ 8) (hq : M.2.2.2.2.1[a]? = some (pc, .invokestatic idx, 3))
    (kk : ∀ (r : Option Value) (w' : List va_E), Q' r w' → WW M d Q xz (pc + 3) lv (r.toList ++ rest) w') : WW M d Q xz pc lv st w :=
  ww_callS a hM' hc hok hn (Nat.le_refl _) (Nat.le_refl _) (Or.inl rfl) hd hst hrm hq kk
theorem ww_cVi (a : Nat) {b ci idx n : Nat} {fs : List Value} (hM' : okM M') (hc : Co M' d' 0 0 (.ref b :: av) w (Qi x w1)) (hok : okV M.2.2.2.2.2.1 idx M'.1 n = true) (hn : av.length = n) (hd : d' + 1 ≤ d) {st : List Value} (hst : st = av.reverse ++ .ref b :: rest) (hrm : (rest.map fun v => v.category).sum ≤ 8) (hb : w[b]? = some (.inr (ci, fs))) {r : vw_C} (hci : vwCl[ci]? = some r) (hcls : r.1 = M'.1.cls) (hq : M.2.2.2.2.1[a]? = some (pc, .invokevirtual idx, 3))
    (kk : WW M d Q xz (pc + 3) lv (.int x :: rest) w1) : WW M d Q xz pc lv st w :=
  ww_cV a hM' hc hok hn hd hst hrm hb hci hcls hq (fun r w' h => by obtain ⟨rfl, rfl⟩ := h; exact kk)
theorem ww_cVv (a : Nat) {b ci idx n : Nat} {fs : List Value} (hM' : okM M') (hc : Co M' d' 0 0 (.ref b :: av) w (Qv w1)) (hok : okV M.2.2.2.2.2.1 idx M'.1 n = true) (hn : av.length = n) (hd : d' + 1 ≤ d) {st : List Value} (hst : st = av.reverse ++ .ref b :: rest) (hrm : (rest.map fun v => v.category).sum ≤ 8) (hb : w[b]? = some (.inr (ci, fs))) {r : vw_C} (hci : vwCl[ci]? = some r) (hcls : r.1 = M'.1.cls) (hq : M.2.2.2.2.1[a]? = some (pc, .invokevirtual idx, 3))
    (kk : WW M d Q xz (pc + 3) lv rest w1) : WW M d Q xz pc lv st w :=
  ww_cV a hM' hc hok hn hd hst hrm hb hci hcls hq (fun r w' h => by obtain ⟨rfl, rfl⟩ := h; exact kk)
theorem ww_cSi (a : Nat) {idx n : Nat} (hM' : okM M') (hc : Co M' d' 0 0 av w (Qi x w1)) (hok : okS M.2.2.2.2.2.1 idx M'.1 n = true) (hn : av.length = n) (hd : d' + 1 ≤ d) {st : List Value} (hst : st = av.reverse ++ rest) (hrm : (rest.map fun v => v.category).sum ≤ 8) (hq : M.2.2.2.2.1[a]? = some (pc, .invokestatic idx, 3))
    (kk : WW M d Q xz (pc + 3) lv (.int x :: rest) w1) : WW M d Q xz pc lv st w :=
  ww_cS a hM' hc hok hn hd hst hrm hq (fun r w' h => by obtain ⟨rfl, rfl⟩ := h; exact kk)
theorem ww_cSv (a : Nat) {idx n : Nat} (hM' : okM M') (hc : Co M' d' 0 0 av w (Qv w1)) (hok : okS M.2.2.2.2.2.1 idx M'.1 n = true) (hn : av.length = n) (hd : d' + 1 ≤ d) {st : List Value} (hst : st = av.reverse ++ rest) (hrm : (rest.map fun v => v.category).sum ≤ 8) (hq : M.2.2.2.2.1[a]? = some (pc, .invokestatic idx, 3))
    (kk : WW M d Q xz (pc + 3) lv rest w1) : WW M d Q xz pc lv st w :=
  ww_cS a hM' hc hok hn hd hst hrm hq (fun r w' h => by obtain ⟨rfl, rfl⟩ := h; exact kk)
theorem Co.fri {wsub w0 : List va_E} (rh : List Nat) (h : Co M d 0 0 av wsub (Qi x w0)) (hs : rh.map (fun i => w[i]?) = wsub.map (fun e => some (xe (fun k => k) (xr rh) e))) (hn : va_nd rh = true) (hw : xgr (xr rh) w rh w0 = w1) (hlr : rh.length ≤ 1000000 := by exact Nat.le_of_ble_eq_true rfl) : Co M d 0 0 (av.map (xt (xr rh))) w (Qi x w1) :=
  (Co.frame rh h hs hn hlr).imp (fun r w' h => by
    obtain ⟨r0, w2, ⟨rfl, rfl⟩, rfl, rfl⟩ := h
    exact ⟨rfl, hw⟩)
theorem Co.frv {wsub w0 : List va_E} (rh : List Nat) (h : Co M d 0 0 av wsub (Qv w0)) (hs : rh.map (fun i => w[i]?) = wsub.map (fun e => some (xe (fun k => k) (xr rh) e))) (hn : va_nd rh = true) (hw : xgr (xr rh) w rh w0 = w1) (hlr : rh.length ≤ 1000000 := by exact Nat.le_of_ble_eq_true rfl) : Co M d 0 0 (av.map (xt (xr rh))) w (Qv w1) :=
  (Co.frame rh h hs hn hlr).imp (fun r w' h => by
    obtain ⟨r0, w2, ⟨rfl, rfl⟩, rfl, rfl⟩ := h
    exact ⟨rfl, hw⟩)
/-- over no cell at all -/
theorem Co.fr0 {x : Int32} (h : Co M d 0 0 av [] (Qi x [])) (hv : av.all (xsc 0) = true) : Co M d 0 0 av w (Qi x w) := by
  have h1 := Co.fri (w := w) (w1 := w) [] h rfl rfl rfl
  rw [show av.map (xt (xr [])) = av from ?_] at h1
  · exact h1
  · rw [List.map_congr_left (g := id)]
    · simp
    · intro v hm
      have h2 := List.all_eq_true.mp hv v hm
      cases v <;> first | rfl | (simp [xsc] at h2)
end
section
variable {M : XM} {d : Nat} {Q : Option Value → List va_E → Prop} {z : Nat × Nat × Nat × Nat} {pc : Nat} {lv : List (Nat × Value)} {st : List Value} {w : List va_E}
def okMax (own : String) (idx : Nat) : Bool := mb (.methodLink own idx Lib.Math.max.name)
def okMin (own : String) (idx : Nat) : Bool := mb (.methodLink own idx Lib.Math.min.name)
theorem ok_max : mb (.static Lib.Math.max.name) = true ∧ mb (.initialized "java/lang/Math") = true ∧ mb (.code Lib.Math.max.name Lib.Math.max.code 2 (some .int)) = true := ⟨by decide +kernel, by decide +kernel, by decide +kernel⟩
theorem ok_min : mb (.static Lib.Math.min.name) = true ∧ mb (.initialized "java/lang/Math") = true ∧ mb (.code Lib.Math.min.name Lib.Math.min.code 2 (some .int)) = true := ⟨by decide +kernel, by decide +kernel, by decide +kernel⟩
theorem ww_mmax (a : Nat) {x y : Int32} {idx : Nat} (hok : okMax M.2.2.2.2.2.1 idx = true) (hd : 1 ≤ d) (hrm : (st.map fun v => v.category).sum ≤ 8) (hq : M.2.2.2.2.1[a]? = some (pc, .invokestatic idx, 3)) (kk : WW M d Q z (pc + 3) lv (.int (if x < y then y else x) :: st) w) : WW M d Q z pc lv (.int y :: .int x :: st) w := by
  intro hM p l e s m args below meth c D cy A n0 ad0 C ad H locs ls X
  obtain ⟨hx, hb, hr2, hlk, hml, hown, hts, hK, hA, hnm, hmt⟩ := id C
  refine va_mmax hx hb (hml.trans X.2.2.2.1.1.symm) hown (hts _ (mb_in hok)) (hts _ (mb_in ok_max.1)) (hts _ (mb_in ok_max.2.1)) (hts _ (mb_in ok_max.2.2)) hd ?_ X.2.2.2.2.2.2.1 X.2.2.2.2.2.2.2 (xpc hM hq) (kk hM C X)
  show ((st.map (xt ad)).map fun v => v.category).sum + 13 ≤ 64 * d
  have : ((st.map (xt ad)).map fun v => v.category).sum ≤ 8 := by simpa [Function.comp_def, xt_cat] using hrm
  omega
theorem ww_mmin (a : Nat) {x y : Int32} {idx : Nat} (hok : okMin M.2.2.2.2.2.1 idx = true) (hd : 1 ≤ d) (hrm : (st.map fun v => v.category).sum ≤ 8) (hq : M.2.2.2.2.1[a]? = some (pc, .invokestatic idx, 3)) (kk : WW M d Q z (pc + 3) lv (.int (if y < x then y else x) :: st) w) : WW M d Q z pc lv (.int y :: .int x :: st) w := by
  intro hM p l e s m args below meth c D cy A n0 ad0 C ad H locs ls X
  obtain ⟨hx, hb, hr2, hlk, hml, hown, hts, hK, hA, hnm, hmt⟩ := id C
  refine va_mmin hx hb (hml.trans X.2.2.2.1.1.symm) hown (hts _ (mb_in hok)) (hts _ (mb_in ok_min.1)) (hts _ (mb_in ok_min.2.1)) (hts _ (mb_in ok_min.2.2)) hd ?_ X.2.2.2.2.2.2.1 X.2.2.2.2.2.2.2 (xpc hM hq) (kk hM C X)
  show ((st.map (xt ad)).map fun v => v.category).sum + 13 ≤ 64 * d
  have : ((st.map (xt ad)).map fun v => v.category).sum ≤ 8 := by simpa [Function.comp_def, xt_cat] using hrm
  omega
theorem ww_tabO (a : Nat) {x : Int32} {dflt lo hi : Int} {offs : Array Int} {len tgt : Nat} (hq : M.2.2.2.2.1[a]? = some (pc, .tableswitch dflt lo hi offs, len)) (h : x.toInt < lo ∨ hi < x.toInt) (ht : (pc : Int) + dflt = (tgt : Int)) (kk : WW M d Q z tgt lv st w) : WW M d Q z pc lv (.int x :: st) w := by
  intro hM p l e s m args below meth c D cy A n0 ad0 C ad H locs ls X
  exact lv_tableOut C.1 C.2.1 (xpc hM hq) h ht (kk hM C X)
theorem ww_tabI (a : Nat) {x : Int32} {dflt lo hi off : Int} {offs : Array Int} {len tgt : Nat} (hq : M.2.2.2.2.1[a]? = some (pc, .tableswitch dflt lo hi offs, len)) (h1 : ¬ x.toInt < lo) (h2 : ¬ hi < x.toInt) (ho : offs[(x.toInt - lo).toNat]? = some off) (ht : (pc : Int) + off = (tgt : Int)) (kk : WW M d Q z tgt lv st w) : WW M d Q z pc lv (.int x :: st) w := by
  intro hM p l e s m args below meth c D cy A n0 ad0 C ad H locs ls X
  exact lv_tableIn C.1 C.2.1 (xpc hM hq) h1 h2 ho ht (kk hM C X)
end
