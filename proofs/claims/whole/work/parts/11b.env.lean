/-! what stands beside the world, in use: calls of nest mates, the row ABOVE, texts; rows of objects -/
def okSN (own : String) (idx : Nat) (y : MethodName) (n : Nat) : Bool := decide ((own, idx, y, "WarmChairs") ∈ xnest) && (mb (.static y) && (mb (.initialized y.cls) && (decide (y.cls ≠ "java/lang/invoke/MethodHandle") && (decide (y.cls ≠ "java/lang/invoke/VarHandle") && decide ((parseMethodDescriptor y.desc).map (fun d => d.parameters.length) = some n)))))
def okIN (own : String) (idx : Nat) (y : MethodName) (n : Nat) : Bool := decide ((own, idx, y, "WarmChairs") ∈ xnest) && (mb (.instanceMethod y) && (mb (.initialized y.cls) && (decide (y.cls ≠ "java/lang/invoke/MethodHandle") && (decide (y.cls ≠ "java/lang/invoke/VarHandle") && (decide ((parseMethodDescriptor y.desc).map (fun d => d.parameters.length) = some n) && decide (y.name = "<init>"))))))
section
variable {M M' : XM} {d d' mc ms : Nat} {Q Q' : Option Value → List va_E → Prop} {z : Nat × Nat × Nat × Nat} {pc : Nat} {lv : List (Nat × Value)} {rest av : List Value} {w w1 : List va_E}
theorem ww_callSN (a : Nat) {idx n : Nat} (hM' : okM M') (hc : Co M' d' mc ms av w Q') (hok : okSN M.2.2.2.2.2.1 idx M'.1 n = true) (hn : av.length = n) (hcl : z.2.2.1 + mc ≤ z.1) (hsl : z.2.2.2 + ms ≤ z.2.1) (hsc : mc = 0 ∨ (rest.all (xsc w.length) = true ∧ lv.all (fun q => xsc w.length q.2) = true))
    (hd : d' + 1 ≤ d) {st : List Value} (hst : st = av.reverse ++ rest) (hrm : (rest.map fun v => v.category).sum ≤ 8) (hq : M.2.2.2.2.1[a]? = some (pc, .invokestatic idx, 3))
    (kk : ∀ (r : Option Value) (w' : List va_E), Q' r w' → WW M d Q (z.1, z.2.1, z.2.2.1 + mc, z.2.2.2 + ms) (pc + 3) lv (r.toList ++ rest) w') : WW M d Q z pc lv st w := by
  subst hst
  intro hM p l e s m args below meth c D cy A n0 ad0 C ad H locs ls X
  obtain ⟨hx, hbb, hr2, hlk, hml, hown, hts, hK, hA, hnm, hmt⟩ := id C
  simp only [okSN, Bool.and_eq_true, decide_eq_true_eq] at hok
  obtain ⟨o1, o2, o4, o5, o6, o7⟩ := hok
  have hpre := xw_pre (av := av) X.1 hK X.2.1 X.2.2.1 hA X.2.2.2.2.1.2
  refine ww_back hM C X hcl hsl hsc (ar := (av.map (xt ad)).toArray) ?_ kk
  refine va_runSN (own := M.2.2.2.2.2.1) (host := "WarmChairs") (Ts := bigw) (As := av.map (xt ad)) (nL := M.2.2.1) (cc := M.2.1) ⟨hx, hbb, hml, hown, hts⟩ (hc l D cy ad H.size) (index := idx) (n := n) (bytes := M'.2.1) (maxL := M'.2.2.1) (ret := M'.2.2.2.1)
    ⟨va_cnB (ws' := bigw) n hts (xws_good hM') rfl rfl rfl (X.2.2.2.2.1.2.1.1 _ o1) (hts _ (mb_in o4)) ⟨o5, o6, o7⟩ ⟨hd, ?_⟩, hts _ (mb_in o2), trivial⟩
    ⟨hpre.1, hpre.2⟩ rfl (by rw [List.length_map]; exact hn) X.2.2.2.1.1 (by simp) (lv_room (by simpa [Function.comp_def, xt_cat] using hrm)) (xpc hM hq) ⟨hcl, hsl⟩
  have := hM'.2.2.2.2.2
  show 8 + (M'.2.2.1 + 11) + 64 * d' ≤ 64 * d
  omega
theorem ww_callIN (a : Nat) {b idx n : Nat} (hM' : okM M') (hret : M'.2.2.2.1 = none) (hc : Co M' d' mc ms (.ref b :: av) w Q') (hok : okIN M.2.2.2.2.2.1 idx M'.1 n = true) (hn : av.length = n) (hcl : z.2.2.1 + mc ≤ z.1) (hsl : z.2.2.2 + ms ≤ z.2.1) (hsc : mc = 0 ∨ (rest.all (xsc w.length) = true ∧ lv.all (fun q => xsc w.length q.2) = true))
    (hd : d' + 1 ≤ d) {st : List Value} (hst : st = av.reverse ++ .ref b :: rest) (hrm : (rest.map fun v => v.category).sum ≤ 8) (hq : M.2.2.2.2.1[a]? = some (pc, .invokespecial idx, 3))
    (kk : ∀ (r : Option Value) (w' : List va_E), Q' r w' → WW M d Q (z.1, z.2.1, z.2.2.1 + mc, z.2.2.2 + ms) (pc + 3) lv (r.toList ++ rest) w') : WW M d Q z pc lv st w := by
  subst hst
  intro hM p l e s m args below meth c D cy A n0 ad0 C ad H locs ls X
  obtain ⟨hx, hbb, hr2, hlk, hml, hown, hts, hK, hA, hnm, hmt⟩ := id C
  simp only [okIN, Bool.and_eq_true, decide_eq_true_eq] at hok
  obtain ⟨o1, o2, o4, o5, o6, o7, o8⟩ := hok
  have hpre := xw_pre (av := .ref b :: av) X.1 hK X.2.1 X.2.2.1 hA X.2.2.2.2.1.2
  refine ww_back hM C X hcl hsl hsc (ar := ((.ref b :: av).map (xt ad)).toArray) ?_ kk
  refine va_runIN (own := M.2.2.2.2.2.1) (host := "WarmChairs") (Ts := bigw) (b := ad b) (As := av.map (xt ad)) (nL := M.2.2.1) (cc := M.2.1) ⟨hx, hbb, hml, hown, hts⟩ (hc l D cy ad H.size) (index := idx) (n := n) (bytes := M'.2.1) (maxL := M'.2.2.1)
    ⟨va_cnB (ws' := bigw) n hts (xws_good hM') (by rw [← hret]; rfl) rfl rfl (X.2.2.2.2.1.2.1.1 _ o1) (hts _ (mb_in o4)) ⟨o5, o6, o7⟩ ⟨hd, ?_⟩, o8, hts _ (mb_in o2)⟩
    ⟨hpre.1, hpre.2⟩ rfl (by rw [List.length_map]; exact hn) X.2.2.2.1.1 (by simp [xt]) (lv_room (by simpa [Function.comp_def, xt_cat] using hrm)) (xpc hM hq) ⟨hcl, hsl⟩
  have := hM'.2.2.2.2.2
  show 8 + (M'.2.2.1 + 11) + 64 * d' ≤ 64 * d
  omega
/-- getstatic ABOVE; iload_n k; iaload -/
theorem ww_above (a : Nat) {idx : Nat} {k : Fin 4} {i : Int32} {st : List Value} (hlk : mb (.fieldLink M.2.2.2.2.2.1 idx "WarmChairs$Kinds" "ABOVE" "[I") = true) (hq1 : M.2.2.2.2.1[a]? = some (pc, .getstatic idx, 3)) (hq2 : M.2.2.2.2.1[a + 1]? = some (pc + 3, .iload_n k, 1)) (hq3 : M.2.2.2.2.1[a + 2]? = some (pc + 3 + 1, .iaload, 1)) (hl : xlk lv k = some (.int i)) (hi : vp_in i 6)
    (kk : WW M d Q z (pc + 3 + 1 + 1) lv (.int (aboveF i.toNatClampNeg) :: st) w) : WW M d Q z pc lv st w := by
  intro hM p l e s m args below meth c D cy A n0 ad0 C ad H locs ls X
  obtain ⟨hx, hb, hr2, hlk', hml, hown, hts, hK, hA, hnm, hmt⟩ := id C
  obtain ⟨-, ⟨t, h2, h3⟩, -⟩ := X.2.2.2.2.1.2
  refine va_gets hx hb h2 X.2.2.1 hown (hts _ (mb_in hlk)) (fun _ h => h) (xpc hM hq1) ?_
  refine lv_iload_n C.1 C.2.1 (xpc hM hq2) rfl (xlk_at X.2.2.2.1 hl) ?_
  exact va_ti hx hb h3 X.2.2.1 hi rfl (xpc hM hq3) (kk hM C X)
/-- a text comes: number i is the reference 1000000 + i -/
theorem ww_ldcS (a : Nat) {idx : Nat} (i : Nat) {st : List Value} (hi : i < 13) (h1 : (xsat i).1 = M.2.2.2.2.2.1) (h2 : (xsat i).2.1 = idx) (hq : M.2.2.2.2.1[a]? = some (pc, .ldc idx, 2)) (kk : WW M d Q z (pc + 2) lv (.ref (1000000 + i) :: st) w) : WW M d Q z pc lv st w := by
  subst h2
  intro hM p l e s m args below meth c D cy A n0 ad0 C ad H locs ls X
  obtain ⟨hx, hb, hr2, hlk', hml, hown, hts, hK, hA, hnm, hmt⟩ := id C
  obtain ⟨-, -, -, h5, -⟩ := X.2.2.2.2.1.2
  exact va_ldcS hx hb (by rw [h1]; exact hown) (h5 i hi) (xpc hM hq) (kk hM C X)
/-- a row of objects (Law 2, Sheet 3) is read -/
theorem xt_rf (ad : Nat → Nat) (o : Option Nat) : xt ad (va_rf o) = va_rf (o.map ad) := by cases o <;> rfl
theorem ww_aald (a : Nat) {b t0 n : Nat} {f : Nat → Option Nat} {i : Int32} {st : List Value} (hb : w[b]? = some (.inl (t0, n, .inr (.inr (.inr (.inr f)))))) (ht : t0 = 2 ∨ t0 = 3) (hi : vp_in i n) (hq : M.2.2.2.2.1[a]? = some (pc, .aaload, 1)) (kk : WW M d Q z (pc + 1) lv (va_rf (f i.toNatClampNeg) :: st) w) : WW M d Q z pc lv (.int i :: .ref b :: st) w := by
  intro hM p l e s m args below meth c D cy A n0 ad0 C ad H locs ls X
  obtain ⟨hx, hbb, hr2, hlk', hml, hown, hts, hK, hA, hnm, hmt⟩ := id C
  have hk := kk hM (l := l) (e := e) (below := below) C X
  rw [List.map_cons, xt_rf] at hk
  rcases ht with rfl | rfl
  · exact va_aldq hx hbb hK X.1 b 2 (C := "WarmChairs$Law") (f := fun j => (f j).map ad) (xw_at hb) rfl hi (xpc hM hq) hk
  · exact va_aldq hx hbb hK X.1 b 3 (C := "WarmChairs$Sheet") (f := fun j => (f j).map ad) (xw_at hb) rfl hi (xpc hM hq) hk
theorem ww_cSNi (a : Nat) {x : Int32} {idx n : Nat} (hM' : okM M') (hc : Co M' d' 0 0 av w (Qi x w1)) (hok : okSN M.2.2.2.2.2.1 idx M'.1 n = true) (hn : av.length = n) (hd : d' + 1 ≤ d) {st : List Value} (hst : st = av.reverse ++ rest) (hrm : (rest.map fun v => v.category).sum ≤ 8) (hq : M.2.2.2.2.1[a]? = some (pc, .invokestatic idx, 3))
    (kk : WW M d Q xz (pc + 3) lv (.int x :: rest) w1) : WW M d Q xz pc lv st w :=
  ww_callSN a hM' hc hok hn (Nat.le_refl _) (Nat.le_refl _) (Or.inl rfl) hd hst hrm hq (fun r w' h => by obtain ⟨rfl, rfl⟩ := h; exact kk)
theorem ww_cSNv (a : Nat) {idx n : Nat} (hM' : okM M') (hc : Co M' d' 0 0 av w (Qv w1)) (hok : okSN M.2.2.2.2.2.1 idx M'.1 n = true) (hn : av.length = n) (hd : d' + 1 ≤ d) {st : List Value} (hst : st = av.reverse ++ rest) (hrm : (rest.map fun v => v.category).sum ≤ 8) (hq : M.2.2.2.2.1[a]? = some (pc, .invokestatic idx, 3))
    (kk : WW M d Q xz (pc + 3) lv rest w1) : WW M d Q xz pc lv st w :=
  ww_callSN a hM' hc hok hn (Nat.le_refl _) (Nat.le_refl _) (Or.inl rfl) hd hst hrm hq (fun r w' h => by obtain ⟨rfl, rfl⟩ := h; exact kk)
end
