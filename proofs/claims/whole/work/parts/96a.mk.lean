/-! a law comes: rules for worlds that aren't spelt out, Arrays.copyOf, Law's constructor, Tape.law -/
def okI (own : String) (idx : Nat) (y : MethodName) (n : Nat) : Bool := mb (.methodLink own idx y) && (mb (.instanceMethod y) && (mb (.initialized y.cls) && (decide (y.cls ≠ "java/lang/invoke/MethodHandle") && (decide (y.cls ≠ "java/lang/invoke/VarHandle") && (decide ((parseMethodDescriptor y.desc).map (fun d => d.parameters.length) = some n) && decide (y.name = "<init>"))))))
section
variable {M M' : XM} {d d' mc ms : Nat} {Q Q' : Option Value → List va_E → Prop} {z : Nat × Nat × Nat × Nat} {pc : Nat} {lv : List (Nat × Value)} {rest av : List Value} {w w1 : List va_E}
theorem ww_callI (a : Nat) {b idx n : Nat} (hM' : okM M') (hret : M'.2.2.2.1 = none) (hc : Co M' d' mc ms (.ref b :: av) w Q') (hok : okI M.2.2.2.2.2.1 idx M'.1 n = true) (hn : av.length = n) (hcl : z.2.2.1 + mc ≤ z.1) (hsl : z.2.2.2 + ms ≤ z.2.1) (hsc : mc = 0 ∨ (rest.all (xsc w.length) = true ∧ lv.all (fun q => xsc w.length q.2) = true))
    (hd : d' + 1 ≤ d) {st : List Value} (hst : st = av.reverse ++ .ref b :: rest) (hrm : (rest.map fun v => v.category).sum ≤ 8) (hq : M.2.2.2.2.1[a]? = some (pc, .invokespecial idx, 3))
    (kk : ∀ (r : Option Value) (w' : List va_E), Q' r w' → WW M d Q (z.1, z.2.1, z.2.2.1 + mc, z.2.2.2 + ms) (pc + 3) lv (r.toList ++ rest) w') : WW M d Q z pc lv st w := by
  subst hst
  intro hM p l e s m args below meth c D cy A n0 ad0 C ad H locs ls X
  obtain ⟨hx, hbb, hr2, hlk, hml, hown, hts, hK, hA, hnm, hmt⟩ := id C
  simp only [okI, Bool.and_eq_true, decide_eq_true_eq] at hok
  obtain ⟨o1, o2, o4, o5, o6, o7, o8⟩ := hok
  have hpre := xw_pre (av := .ref b :: av) X.1 hK X.2.1 X.2.2.1 hA X.2.2.2.2.1.2
  refine ww_back hM C X hcl hsl hsc (ar := ((.ref b :: av).map (xt ad)).toArray) ?_ kk
  refine va_runI (own := M.2.2.2.2.2.1) (Ts := bigw) (b := ad b) (As := av.map (xt ad)) (nL := M.2.2.1) (cc := M.2.1) ⟨hx, hbb, hml, hown, hts⟩ (hc l D cy ad H.size) (index := idx) (n := n) (bytes := M'.2.1) (maxL := M'.2.2.1)
    ⟨callB_of (ws' := bigw) n hts (xws_good hM') (by rw [← hret]; rfl) rfl rfl (hts _ (mb_in o4)) (hts _ (mb_in o1)) ⟨o5, o6, o7⟩ ⟨hd, ?_⟩, o8, hts _ (mb_in o2)⟩
    ⟨hpre.1, hpre.2⟩ rfl (by rw [List.length_map]; exact hn) X.2.2.2.1.1 (by simp [xt]) (lv_room (by simpa [Function.comp_def, xt_cat] using hrm)) (xpc hM hq) ⟨hcl, hsl⟩
  have := hM'.2.2.2.2.2
  show 8 + (M'.2.2.1 + 11) + 64 * d' ≤ 64 * d
  omega
end
section
variable {M : XM} {d : Nat} {Q : Option Value → List va_E → Prop} {z : Nat × Nat × Nat × Nat} {pc : Nat} {lv : List (Nat × Value)} {st : List Value} {w : List va_E}
theorem ww_getT (a0 : Nat) {idx a ci k : Nat} {b : Bool} {fs : List Value} {v : Value} (hq : M.2.2.2.2.1[a0]? = some (pc, .getfield idx, 3)) (hf : xfl M.2.2.2.2.2.2.1 idx = some (ci, k, b)) (ha : w[a]? = some (.inr (ci, fs))) (hv : fs[k]? = some v) (kk : WW M d Q z (pc + 3) lv (v :: st) w) : WW M d Q z pc lv (.ref a :: st) w := by
  intro hM p l e s m args below meth c D cy A n0 ad0 C ad H locs ls X
  exact ww_get (xpc hM hq) hf ha hv kk hM C X
theorem ww_alenT (a0 : Nat) {a n : Nat} {f : Nat → Int32} (hq : M.2.2.2.2.1[a0]? = some (pc, .arraylength, 1)) (ha : w[a]? = some (iA n f)) (kk : WW M d Q z (pc + 1) lv (.int (nI n) :: st) w) : WW M d Q z pc lv (.ref a :: st) w := by
  intro hM p l e s m args below meth c D cy A n0 ad0 C ad H locs ls X
  exact ww_alen (xpc hM hq) ha kk hM C X
theorem nat_cl : nativeFrameWords "java/lang/Object" "clone" 1 + 11 ≤ 50 := by decide +kernel
theorem ok_cl : mb (.sameMethod "[I" "java/lang/Object" "clone" "()Ljava/lang/Object;") = true ∧ mb (.native ⟨"java/lang/Object", "clone", "()Ljava/lang/Object;"⟩) = true ∧ mb (.instanceMethod ⟨"java/lang/Object", "clone", "()Ljava/lang/Object;"⟩) = true ∧ mb (.selects "[I" ⟨"[I", "clone", "()Ljava/lang/Object;"⟩ ⟨"java/lang/Object", "clone", "()Ljava/lang/Object;"⟩) = true := ⟨by decide +kernel, by decide +kernel, by decide +kernel, by decide +kernel⟩
/-- an int row's clone -/
theorem ww_clone (a0 : Nat) {idx b n : Nat} {f : Nat → Int32} (hlk : mb (.methodLink M.2.2.2.2.2.1 idx ⟨"[I", "clone", "()Ljava/lang/Object;"⟩) = true) (hb : w[b]? = some (iA n f)) (hd : 1 ≤ d) (hrm : (st.map fun v => v.category).sum ≤ 8) (hc : z.2.2.1 + 1 ≤ z.1) (hsl : z.2.2.2 + n ≤ z.2.1) (hwl : w.length < 1000000) (hw : ∀ e ∈ w, xeS w.length e) (hst : st.all (xsc w.length) = true) (hsc : lv.all (fun q => xsc w.length q.2) = true) (hq : M.2.2.2.2.1[a0]? = some (pc, .invokevirtual idx, 3))
    (kk : WW M d Q (z.1, z.2.1, z.2.2.1 + 1, z.2.2.2 + n) (pc + 3) lv (.ref w.length :: st) (w ++ [iA n f])) : WW M d Q z pc lv (.ref b :: st) w := by
  intro hM p l e s m args below meth c D cy A n0 ad0 C ad H locs ls X
  obtain ⟨hx, hbb, hr2, hlk', hml, hown, hts, hK, hA, hnm, hmt⟩ := id C
  obtain ⟨hP, hD, hS, hlv, hG, hn0, hz1, hz2⟩ := X
  refine va_clone (D := D) (A := A) (ty := .int) (ad := "[I") hx hbb (hml.trans hlv.1.symm) hown (hts _ (mb_in hlk)) (hts _ (mb_in ok_cl.1)) (hts _ (mb_in ok_cl.2.1)) (hts _ (mb_in ok_cl.2.2.1)) (hts _ (mb_in ok_cl.2.2.2)) hG.2.1.2.2.2 hK hP hD hS hA b 0 (xw_at hb) rfl (va_nm_int (hK.2 0 (cy 0, .int) rfl).2) (va_fit (fun _ _ => rfl)) hd ?_ hc hsl (xpc hM hq) ?_
  · have h6 : ((st.map (xt ad)).map fun v => v.category).sum ≤ 8 := by simpa [Function.comp_def, xt_cat] using hrm
    show ((st.map (xt ad)).map fun v => v.category).sum + 14 ≤ 64 * d
    omega
  · intro q H1 hK1 hP1 hD1 hS1
    have had : ∀ i, i ≠ w.length → (fun i => if i = w.length then q else ad i) i = ad i := fun i hi => if_neg hi
    have hlt : ∀ i, i < w.length → (fun i => if i = w.length then q else ad i) i = ad i := fun i hi => had i (by omega)
    have hnw : xw cy (fun i => if i = w.length then q else ad i) (w ++ [iA n f]) = xw cy ad w ++ [(q, .inl (cy 0, n, .inl f))] := by
      rw [xw_new had hw]
      simp [xe, xa]
    have hk := kk hM (l := l) (e := e) (below := below) (n0 := n0) (ad0 := ad0) C (ad := fun i => if i = w.length then q else ad i) (H := H1) (locs := locs) (ls := ls)
      ⟨by rw [hnw]; exact hP1, by rw [hnw]; exact hD1, hS1, by rw [xsc_lv hlt hsc]; exact hlv,
       ⟨⟨fun h => absurd h (by show ¬ z.1 = 0; omega), fun i hi => by rw [had i (by omega)]; exact hG.1.2 i hi⟩, hG.2.ad (fun i hi => had i (by omega))⟩, by simp; omega, hc, hsl⟩
    have he : (Value.ref w.length :: st).map (xt (fun i => if i = w.length then q else ad i)) = .ref q :: st.map (xt ad) := by
      rw [List.map_cons, xsc_st hlt hst]
      simp [xt]
    rw [he] at hk
    exact hk
/-- an int row is one -/
theorem ww_castI (a0 : Nat) {idx b n : Nat} {f : Nat → Int32} (hlk : mb (.classLink M.2.2.2.2.2.1 idx "[I") = true) (hb : w[b]? = some (iA n f)) (hq : M.2.2.2.2.1[a0]? = some (pc, .checkcast idx, 3)) (kk : WW M d Q z (pc + 3) lv (.ref b :: st) w) : WW M d Q z pc lv (.ref b :: st) w := by
  intro hM p l e s m args below meth c D cy A n0 ad0 C ad H locs ls X
  obtain ⟨hx, hbb, hr2, hlk', hml, hown, hts, hK, hA, hnm, hmt⟩ := id C
  exact va_castA hx hbb hown (hts _ (mb_in hlk)) X.1 b (xw_at hb) (va_nm_int (hK.2 0 (cy 0, .int) rfl).2) (xpc hM hq) (kk hM C X)
end
theorem set_last {α : Type} (w : List α) (x y : α) : (w ++ [x]).set w.length y = w ++ [y] := by
  rw [List.set_append_right _ _ (Nat.le_refl _), Nat.sub_self]
  rfl
theorem at_last {α : Type} (w : List α) (x : α) : (w ++ [x])[w.length]? = some x := by simp
theorem at_left {α : Type} {w : List α} {x y : α} {i : Nat} (h : w[i]? = some y) : (w ++ [x])[i]? = some y := by
  rw [List.getElem?_append_left (List.getElem?_eq_some_iff.mp h).1]
  exact h
theorem xsc_r {n b : Nat} (h : b < n) : xsc n (.ref b) = true := Nat.ble_eq_true_of_le h
set_option maxHeartbeats 4000000 in
set_option maxRecDepth 100000 in
theorem x_copyOf {w : List va_E} (b n k : Nat) (f : Nat → Int32) (hb : w[b]? = some (iA n f)) (hk : k ≤ n) (hn : n < 1000) (hwl : w.length < 900000) (hw : ∀ e ∈ w, xeS w.length e) : Co M_J7_copyOf_59c91 1 1 k [.ref b, .int (nI k)] w (fun r w' => r = some (.ref w.length) ∧ w' = w ++ [iA k f]) := by
  have hbl : b < w.length := (List.getElem?_eq_some_iff.mp hb).1
  refine Co.of ok_J7_copyOf_59c91 rfl ?_
  refine ww_run 0 2 (pc' := 2) (lv' := [(0, .ref b), (1, .int (nI k))]) (st' := [.ref b, .int (nI k)]) (w' := w) (Ps := []) rfl trivial ?_
  refine ww_alenT 2 rfl hb ?_
  refine ww_icmp_ne 3 rfl (tgt := 14) rfl (fun c => ?_) (fun c => ?_)
  · have c : ¬ k = n := fun q => c (by rw [q])
    refine ww_run 8 1 (pc' := 15) (lv' := [(0, .ref b), (1, .int (nI k))]) (st' := [.int (nI k)]) (w' := w) (Ps := []) rfl trivial ?_
    refine ww_newi 9 (N := k) (nI_clamp (by omega)) (nI_pos (by omega)) (by omega) (by show 0 + 1 ≤ 1; omega) (by show 0 + k ≤ k; omega) (by omega) hw rfl (by simp [xsc]; omega) (by decide +kernel) rfl ?_
    refine ww_run 10 6 (pc' := 23) (lv' := [(2, .ref w.length), (0, .ref b), (1, .int (nI k))]) (st' := [.ref b, .int 0, .ref w.length, .int 0, .ref b]) (w' := w ++ [iA k (fun _ => 0)]) (Ps := []) rfl trivial ?_
    refine ww_alenT 16 rfl (at_left hb) ?_
    refine ww_run 17 1 (pc' := 25) (lv' := [(2, .ref w.length), (0, .ref b), (1, .int (nI k))]) (st' := [.int (nI k), .int (nI n), .int 0, .ref w.length, .int 0, .ref b]) (w' := w ++ [iA k (fun _ => 0)]) (Ps := []) rfl trivial ?_
    refine ww_mmin 18 (idx := 304) (by decide +kernel) (by omega) (Nat.le_of_ble_eq_true rfl) rfl ?_
    rw [if_pos ((nI_ltI (a := k) (b := n) (by omega) (by omega)).mpr (by omega))]
    refine ww_copy 19 (idx := 150) (by decide +kernel) (by omega) (Nat.le_of_ble_eq_true rfl) (n0 := n) (n1 := k) (f := f) (g := fun _ => 0) (at_left hb) (at_last w _) (by decide) (by decide) (nI_pos (by omega)) (by rw [nI_clamp (n := k) (by omega)]; show 0 + k ≤ n; omega) (by rw [nI_clamp (n := k) (by omega)]; show 0 + k ≤ k; omega) rfl ?_
    rw [set_last]
    refine ww_arr w.length f (at_last w _) (fun j hj => ?_) (set_last w _ _) ?_
    · rw [nI_clamp (n := k) (by omega)]
      rw [pk_cpy_in (by exact Nat.zero_le _) (by show j < 0 + k; omega)]
      exact congrArg f (by show 0 + (j - 0) = j; omega)
    refine ww_run 20 1 (pc' := 32) (lv' := [(2, .ref w.length), (0, .ref b), (1, .int (nI k))]) (st' := [.ref w.length]) (w' := w ++ [iA k f]) (Ps := []) rfl trivial ?_
    refine ww_aret 21 rfl rfl (Or.inr ⟨_, rfl⟩) ?_
    exact ⟨rfl, rfl⟩
  · have c : k = n := (nI_eq (a := k) (b := n) (by omega) (by omega)).mp c
    subst c
    refine ww_run 4 1 (pc' := 7) (lv' := [(0, .ref b), (1, .int (nI k))]) (st' := [.ref b]) (w' := w) (Ps := []) rfl trivial ?_
    refine ww_clone 5 (by decide +kernel) hb (by omega) (Nat.le_of_ble_eq_true rfl) (by show 0 + 1 ≤ 1; omega) (by show 0 + k ≤ k; omega) (by omega) hw rfl (by simp [xsc]; omega) rfl ?_
    refine ww_castI 6 (by decide +kernel) (at_last w _) rfl ?_
    refine ww_aret 7 rfl rfl (Or.inr ⟨_, rfl⟩) ?_
    exact ⟨rfl, rfl⟩
theorem xeS_A {n m : Nat} {f : Nat → Int32} : xeS n (iA m f) := trivial
set_option maxHeartbeats 4000000 in
set_option maxRecDepth 100000 in
theorem x_Linit {w : List va_E} (n a b : Nat) (v0 v1 v2 : Value) (hn : w[n]? = some (.inr (2, [v0, v1, v2]))) (ha : a < w.length) (hb : b < w.length) (hwl : w.length < 900000) (hw : ∀ e ∈ w, xeS w.length e) : Co M_X3_init 1 1 40 [.ref n, .ref a, .ref b] w (fun r w' => r = none ∧ w' = w.set n (.inr (2, [.ref a, .ref b, .ref w.length])) ++ [iA 40 (fun _ => 0)]) := by
  have hnl : n < w.length := (List.getElem?_eq_some_iff.mp hn).1
  refine Co.of ok_X3_init rfl ?_
  refine ww_run 0 1 (pc' := 1) (lv' := [(0, .ref n), (1, .ref a), (2, .ref b)]) (st' := [.ref n]) (w' := w) (Ps := []) rfl trivial ?_
  refine ww_obj 1 (by decide +kernel) (by omega) (Nat.le_of_ble_eq_true rfl) rfl ?_
  refine ww_run 2 2 (pc' := 7) (lv' := [(0, .ref n), (1, .ref a), (2, .ref b)]) (st' := [.int 40, .ref n]) (w' := w) (Ps := []) rfl trivial ?_
  refine ww_newi 4 (N := 40) rfl (by decide) (by omega) (by show 0 + 1 ≤ 1; omega) (by show 0 + 40 ≤ 40; omega) (by omega) hw (by simp [xsc_r hnl]) (by simp [xsc_r hnl, xsc_r ha, xsc_r hb]) (by decide +kernel) rfl ?_
  refine ww_putF 5 (ty := .array .int) (k := 2) (ci := 2) rfl rfl rfl rfl rfl rfl (by decide +kernel) (fun _ => rfl) (fun _ => rfl) (at_left hn) (by show 2 < 3; omega) ?_
  refine ww_run 6 2 (pc' := 14) (lv' := [(0, .ref n), (1, .ref a), (2, .ref b)]) (st' := [.ref a, .ref n]) (w' := (w ++ [iA 40 (fun _ => 0)]).set n (.inr (2, [v0, v1, .ref w.length]))) (Ps := []) rfl trivial ?_
  refine ww_putF 8 (ty := .array .int) (k := 0) (ci := 2) (fs := [v0, v1, .ref w.length]) rfl rfl rfl rfl rfl rfl (by decide +kernel) (fun _ => rfl) (fun _ => rfl) (by rw [List.getElem?_set_self (by simp; omega)]) (by show 0 < 3; omega) ?_
  refine ww_run 9 2 (pc' := 19) (lv' := [(0, .ref n), (1, .ref a), (2, .ref b)]) (st' := [.ref b, .ref n]) (w' := ((w ++ [iA 40 (fun _ => 0)]).set n (.inr (2, [v0, v1, .ref w.length]))).set n (.inr (2, [.ref a, v1, .ref w.length]))) (Ps := []) rfl trivial ?_
  refine ww_putF 11 (ty := .array .int) (k := 1) (ci := 2) (fs := [.ref a, v1, .ref w.length]) rfl rfl rfl rfl rfl rfl (by decide +kernel) (fun _ => rfl) (fun _ => rfl) (by rw [List.getElem?_set_self (by simp; omega)]) (by show 1 < 3; omega) ?_
  refine ww_vret 12 rfl rfl ?_
  refine ⟨rfl, ?_⟩
  show (((w ++ [iA 40 (fun _ => 0)]).set n (.inr (2, [v0, v1, .ref w.length]))).set n (.inr (2, [.ref a, v1, .ref w.length]))).set n (.inr (2, [.ref a, .ref b, .ref w.length])) = _
  rw [List.set_set, List.set_set, List.set_append_left _ _ hnl]
theorem xe_app {w : List va_E} {x : va_E} {n : Nat} (h : ∀ e ∈ w, xeS n e) (hx : xeS n x) : ∀ e ∈ w ++ [x], xeS n e := by
  intro e he
  rcases List.mem_append.mp he with g | g
  · exact h e g
  · rw [List.mem_singleton.mp g]; exact hx
theorem xeS_nul {n : Nat} : xeS n (.inr (2, [.null, .null, .null])) := by
  intro v hv
  simp only [List.mem_cons, List.not_mem_nil, or_false] at hv
  rcases hv with rfl | rfl | rfl <;> (intro q; cases q)
set_option maxHeartbeats 4000000 in
set_option maxRecDepth 100000 in
theorem x_tlaw {w : List va_E} (b b1 b2 b3 cn : Nat) (tsize tat tpl tok : Int32) (tcodes tends : Nat → Int32) (hT : w[b]? = some (.inr (4, [.int tsize, .int tat, .ref b1, .ref b2, .ref b3, .int (nI cn), .int tpl, .int tok]))) (h2 : w[b2]? = some (iA 160 tcodes)) (h3 : w[b3]? = some (iA 3 tends)) (hcn : cn ≤ 160) (hwl : w.length < 800000) (hw : ∀ n, w.length ≤ n → ∀ e ∈ w, xeS n e) :
    Co M_X5_law 2 4 (46 + cn) [.ref b] w (fun r w' => r = some (.ref w.length) ∧ w' = w ++ [.inr (2, [.ref (w.length + 1), .ref (w.length + 2), .ref (w.length + 3)]), iA cn tcodes, iA 3 tends, iA 40 (fun _ => 0)]) := by
  have hbl : b < w.length := (List.getElem?_eq_some_iff.mp hT).1
  have hb2 : b2 < w.length := (List.getElem?_eq_some_iff.mp h2).1
  have hb3 : b3 < w.length := (List.getElem?_eq_some_iff.mp h3).1
  refine Co.of ok_X5_law rfl ?_
  refine ww_new 0 (ci := 2) (r := (RX3, TX3, 3)) (fs := [.null, .null, .null]) rfl (by decide +kernel) (by decide +kernel) (by decide +kernel) (ty := fun _ => .array .int) (fun k hk => ?_) (fun j hj => ?_) (fun v hv ad => ?_) (by show 0 + 1 ≤ 4; omega) (by show 0 + 3 ≤ 46 + cn; omega) (by omega) (hw _ (Nat.le_refl _)) rfl (by show ([(0, Value.ref b)].all fun q => xsc w.length q.2) = true; simp [xsc]; omega) rfl ?_
  · have hk : k < 3 := hk
    rcases (show k = 0 ∨ k = 1 ∨ k = 2 by omega) with rfl | rfl | rfl <;> decide +kernel
  · have hj : j < 3 := hj
    rcases (show j = 0 ∨ j = 1 ∨ j = 2 by omega) with rfl | rfl | rfl <;> rfl
  · simp only [List.mem_cons, List.not_mem_nil, or_false] at hv
    rcases hv with rfl | rfl | rfl <;> rfl
  refine ww_run 1 2 (pc' := 5) (lv' := [(0, .ref b)]) (st' := [.ref b, .ref w.length, .ref w.length]) (w' := w ++ [.inr (2, [.null, .null, .null])]) (Ps := []) rfl trivial ?_
  refine ww_getT 3 rfl rfl (at_left hT) rfl ?_
  refine ww_run 4 1 (pc' := 9) (lv' := [(0, .ref b)]) (st' := [.ref b, .ref b2, .ref w.length, .ref w.length]) (w' := w ++ [.inr (2, [.null, .null, .null])]) (Ps := []) rfl trivial ?_
  refine ww_getT 5 rfl rfl (at_left hT) rfl ?_
  have e1 : (w ++ [(.inr (2, [.null, .null, .null]) : va_E)]).length = w.length + 1 := by simp
  refine ww_callS 6 ok_J7_copyOf_59c91 (x_copyOf b2 160 cn tcodes (at_left h2) hcn (by omega) (by omega) (by rw [e1]; exact xe_app (hw _ (by omega)) xeS_nul)) lk_X5_49 rfl (by show 0 + 1 + 1 ≤ 4; omega) (by show 0 + 3 + cn ≤ 46 + cn; omega) (Or.inr ⟨by rw [e1]; simp [xsc_r (show w.length < w.length + 1 by omega)], by rw [e1]; simp [xsc_r (show b < w.length + 1 by omega)]⟩) (by omega) (rest := [.ref w.length, .ref w.length]) rfl (Nat.le_of_ble_eq_true rfl) rfl (fun r w' hq => ?_)
  obtain ⟨rfl, rfl⟩ := hq
  rw [e1]
  refine ww_run 7 1 (pc' := 16) (lv' := [(0, .ref b)]) (st' := [.ref b, .ref (w.length + 1), .ref w.length, .ref w.length]) (w' := w ++ [.inr (2, [.null, .null, .null])] ++ [iA cn tcodes]) (Ps := []) rfl trivial ?_
  refine ww_getT 8 rfl rfl (at_left (at_left hT)) rfl ?_
  refine ww_run 9 1 (pc' := 20) (lv' := [(0, .ref b)]) (st' := [.ref b, .ref b3, .ref (w.length + 1), .ref w.length, .ref w.length]) (w' := w ++ [.inr (2, [.null, .null, .null])] ++ [iA cn tcodes]) (Ps := []) rfl trivial ?_
  refine ww_getT 10 rfl rfl (at_left (at_left hT)) rfl ?_
  refine ww_alenT 11 rfl (at_left (at_left h3)) ?_
  have e2 : (w ++ [(.inr (2, [.null, .null, .null]) : va_E)] ++ [iA cn tcodes]).length = w.length + 2 := by simp
  refine ww_callS 12 ok_J7_copyOf_59c91 (x_copyOf b3 3 3 tends (at_left (at_left h3)) (Nat.le_refl _) (by omega) (by omega) (by rw [e2]; exact xe_app (xe_app (hw _ (by omega)) xeS_nul) xeS_A)) lk_X5_49 rfl (by show 0 + 1 + 1 + 1 ≤ 4; omega) (by show 0 + 3 + cn + 3 ≤ 46 + cn; omega) (Or.inr ⟨by rw [e2]; simp [xsc_r (show w.length < w.length + 2 by omega), xsc_r (show w.length + 1 < w.length + 2 by omega)], by rw [e2]; simp [xsc_r (show b < w.length + 2 by omega)]⟩) (by omega) (rest := [.ref (w.length + 1), .ref w.length, .ref w.length]) rfl (Nat.le_of_ble_eq_true rfl) rfl (fun r w' hq => ?_)
  obtain ⟨rfl, rfl⟩ := hq
  rw [e2]
  have e3 : (w ++ [(.inr (2, [.null, .null, .null]) : va_E)] ++ [iA cn tcodes] ++ [iA 3 tends]).length = w.length + 3 := by simp
  have hn : (w ++ [(.inr (2, [.null, .null, .null]) : va_E)] ++ [iA cn tcodes] ++ [iA 3 tends])[w.length]? = some (.inr (2, [.null, .null, .null])) := at_left (at_left (at_last w _))
  refine ww_callI 13 ok_X3_init rfl (x_Linit w.length (w.length + 1) (w.length + 2) .null .null .null hn (by omega) (by omega) (by omega) (by rw [e3]; exact xe_app (xe_app (xe_app (hw _ (by omega)) xeS_nul) xeS_A) xeS_A)) (n := 2) (by decide +kernel) rfl (by show 0 + 1 + 1 + 1 + 1 ≤ 4; omega) (by show 0 + 3 + cn + 3 + 40 ≤ 46 + cn; omega) (Or.inr ⟨by rw [e3]; simp [xsc_r (show w.length < w.length + 3 by omega)], by rw [e3]; simp [xsc_r (show b < w.length + 3 by omega)]⟩) (by omega) (rest := [.ref w.length]) rfl (Nat.le_of_ble_eq_true rfl) rfl (fun r w' hq => ?_)
  obtain ⟨rfl, rfl⟩ := hq
  rw [e3]
  refine ww_aret 14 rfl rfl (Or.inl ⟨_, rfl⟩) ?_
  refine ⟨rfl, ?_⟩
  simp [List.append_assoc]
