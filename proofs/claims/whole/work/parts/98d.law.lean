/-! the law's own body, over any invariant INV of the world that every call keeps -/
def LX (s : State) (D : va_G) (cy : Nat → ClassId) (ad : Nat → Nat) (w : List va_E) (H : Heap) (locs : List Loc) : Prop :=
  va_P D vwCl (xw cy ad w) H ∧ va_D (fun q : Nat => s.heap.size ≤ q) (xw cy ad w) ∧ va_S (fun q : Nat => s.heap.size ≤ q) s.heap H locs ∧ XN (fun q : Nat => s.heap.size ≤ q) ad s
def LCx (p : Program) (s : State) (m : MethodId) (meth : Method) (c : Code) (b L : Nat) (xs : Nat → Int32) (D : va_G) (cy : Nat → ClassId) : Prop :=
  lw_At p s m meth c b L xs ∧ (∀ w ∈ bigw, w.before #[Value.ref b] s = true) ∧ va_K D vwCl (xty cy) s
theorem okT_dT {cc : ByteArray} {tb : List (Nat × Instr × Nat)} (h : okT cc tb = true) : ∀ q ∈ tb, decode cc q.1 = .ok q.2 := by
  intro q hq
  have h1 := List.all_eq_true.mp h q hq
  simp only [Bool.and_eq_true, decide_eq_true_eq] at h1
  exact h1.1
/-- the rows that lay arguments k .. of a call on the stack -/
def argT : Nat → Nat → Nat → List (Nat × Instr × Nat)
  | 0, _, _ => []
  | n + 1, k, pc => if k = 6 then (pc, .aload_n 0, 1) :: (pc + 1, .iload_n 3, 1) :: (pc + 2, .bipush 6, 2) :: (pc + 4, .iadd, 1) :: (pc + 5, .iaload, 1) :: argT n (k + 1) (pc + 6)
      else (pc, .aload_n 0, 1) :: (pc + 1, .iload_n 3, 1) :: (pc + 2, .iconst (k : Int), 1) :: (pc + 3, .iadd, 1) :: (pc + 4, .iaload, 1) :: argT n (k + 1) (pc + 5)
def argE : Nat → Nat → Nat → Nat
  | 0, _, pc => pc
  | n + 1, k, pc => if k = 6 then argE n (k + 1) (pc + 6) else argE n (k + 1) (pc + 5)
def argV (xs : Nat → Int32) (i : Nat) : Nat → Nat → List Int32
  | 0, _ => []
  | n + 1, k => xs (i + k) :: argV xs i n (k + 1)
theorem argV_len (xs : Nat → Int32) (i : Nat) : ∀ n k, (argV xs i n k).length = n
  | 0, _ => rfl
  | n + 1, k => by simp [argV, argV_len xs i n (k + 1)]
def caseT (n pc ix iy : Nat) : List (Nat × Instr × Nat) :=
  (pc, .aload_n 1, 1) :: (argT n 1 (pc + 1) ++ ((argE n 1 (pc + 1), .invokevirtual ix, 3) :: (argE n 1 (pc + 1) + 3, .aload_n 2, 1) :: (argT n 1 (argE n 1 (pc + 1) + 3 + 1) ++
    [(argE n 1 (argE n 1 (pc + 1) + 3 + 1), .invokevirtual iy, 3), (argE n 1 (argE n 1 (pc + 1) + 3 + 1) + 3, .if_icmp .eq (1508 - ((argE n 1 (argE n 1 (pc + 1) + 3 + 1) + 3 : Nat) : Int)), 3)])))
def caseL (n pc ix iy : Nat) : List (Nat × Instr × Nat) :=
  (pc, .aload_n 1, 1) :: (argT n 1 (pc + 1) ++ ((argE n 1 (pc + 1), .invokevirtual ix, 3) :: (argE n 1 (pc + 1) + 3, .aload_n 2, 1) :: (argT n 1 (argE n 1 (pc + 1) + 3 + 1) ++
    [(argE n 1 (argE n 1 (pc + 1) + 3 + 1), .invokevirtual iy, 3), (argE n 1 (argE n 1 (pc + 1) + 3 + 1) + 3, .lcmp, 1), (argE n 1 (argE n 1 (pc + 1) + 3 + 1) + 3 + 1, .ifCond .eq (1508 - ((argE n 1 (argE n 1 (pc + 1) + 3 + 1) + 3 + 1 : Nat) : Int)), 3)])))
/-- one call of both sides: they answer alike, and INV holds again -/
def STw {α : Type} (mk : α → Value) (INV : List va_E → Prop) (MX MY : XM) (n dX dY mc ms : Nat) (w : List va_E) : Prop :=
  ∀ zs : List Int32, zs.length = n → ∃ QX : Option Value → List va_E → Prop, Co MX dX mc ms (.ref 0 :: zs.map Value.int) w QX ∧ ∀ r w', QX r w' →
    ∃ x : α, r = some (mk x) ∧ (∃ fs, w'[52]? = some (.inr (6, fs))) ∧ ∃ QY : Option Value → List va_E → Prop, Co MY dY 0 0 (.ref 52 :: zs.map Value.int) w' QY ∧ ∀ r2 w2, QY r2 w2 → r2 = some (mk x) ∧ INV w2
def STEP {α : Type} (mk : α → Value) (INV : List va_E → Prop) (MX MY : XM) (n dX dY mc ms : Nat) : Prop := ∀ (w : List va_E), INV w → STw mk INV MX MY n dX dY mc ms w
def STP {α : Type} (mk : α → Value) (INV : List va_E → Prop) (MX MY : XM) (n : Nat) : Prop :=
  ∃ dX dY mc ms : Nat, dX ≤ 1000 ∧ dY ≤ 1000 ∧ mc ≤ 4 ∧ ms ≤ 206 ∧ STEP mk INV MX MY n dX dY mc ms
def INVok (INV : List va_E → Prop) : Prop := ∀ w, INV w → (∃ fs, w[0]? = some (.inr (5, fs))) ∧ 53 ≤ w.length
section
variable {p : Program} {l : Launch} {e : Env} {s : State} {m : MethodId} {below : List Frame} {meth : Method} {c : Code} {b L : Nat} {xs : Nat → Int32} {D : va_G} {cy : Nat → ClassId} {Z : State → Prop}
theorem law_back {mc ms cells slots pc : Nat} {Q' : Option Value → List va_E → Prop} {w : List va_E} {ad : Nat → Nat} {H : Heap} {locs : List Loc} {ls : Array Slot} {st rest : List Value} {ar : Array Value}
    (X : LX s D cy ad w H locs)
    (hr : va_Run p l e room_1 s m #[Value.ref b] below meth c H locs cells slots mc ms (F0 m pc ls st) rest (XQ D cy mc w.length ad (va_A (xw cy ad w) H.size) Q' ar) (va_A (xw cy ad w) H.size))
    (kk : ∀ (r : Option Value) (w' : List va_E) (ad' : Nat → Nat) (H' : Heap) (locs' : List Loc), Q' r w' → XG mc w.length ad ad' → LX s D cy ad' w' H' locs' → w.length ≤ w'.length → W p l e room_1 s m #[Value.ref b] below meth c H' locs' (cells + mc) (slots + ms) Z (F0 m (pc + 3) ls ((r.map (xt ad')).toList ++ rest))) :
    W p l e room_1 s m #[Value.ref b] below meth c H locs cells slots Z (F0 m pc ls st) := by
  obtain ⟨hP, hD, hS, hN⟩ := X
  have hFc : ∀ q, va_A (xw cy ad w) H.size q → s.heap.size ≤ q := by
    intro q hq
    rcases hq with ⟨k, e, hk⟩ | hq
    · exact hD.2 k (q, e) hk
    · exact Nat.le_trans hS.1 hq
  intro T hT X0
  obtain ⟨v, st₀, t, T', L', h0, X', hL, e1, e2, ⟨⟨r, w', ad', hv, hq, hG', hn', hP', hK', hD'⟩, hz, hk⟩, stp⟩ := hr T hT X0
  have hv2 : v = r.map (xt ad') := by cases hv; rfl
  subst hv2
  rw [h0] at hz hk
  have hS' : va_S (fun q : Nat => s.heap.size ≤ q) s.heap t.heap (locs ++ L') := by
    refine ⟨Nat.le_trans hS.1 hz, fun q h1 h2 => ?_, fun q hq => ?_⟩
    · rw [hk q (Nat.lt_of_lt_of_le h1 hS.1) (fun z => h2 (hFc q z))]
      exact hS.2.1 q h1 h2
    · rcases List.mem_append.mp hq with h | h
      · exact hS.2.2 q h
      · exact hFc _ (hL q h)
  obtain ⟨t2, a1, b1⟩ := kk r w' ad' t.heap (locs ++ L') hq hG' ⟨hP', hD'.weaken (fun _ q _ h => hFc q.1 h), hS', hN.ad (fun i hi => hG'.2 i (Or.inr hi))⟩ hn' T' e1 X'
  exact ⟨t2, stp t2 a1, b1⟩
theorem law_callV {M' : XM} {d' mc ms cells slots pc b0 ci idx n : Nat} {av : List Value} {Q' : Option Value → List va_E → Prop} {w : List va_E} {ad : Nat → Nat} {H : Heap} {locs : List Loc} {ls : Array Slot} {st rest : List Value} {fs : List Value} {r0 : vw_C}
    (hC : LCx p s m meth c b L xs D cy) (X : LX s D cy ad w H locs) (hls : ls.size = 4)
    (hM' : okM M') (hc : Co M' d' mc ms (.ref b0 :: av) w Q') (hok : okV R_law idx M'.1 n = true) (hn : av.length = n) (hcl : cells + mc ≤ 600000) (hsl : slots + ms ≤ 7302250) (hd : d' ≤ 1000)
    (hst : st = (av.map (xt ad)).reverse ++ .ref (ad b0) :: rest) (hrm : (rest.map fun v => v.category).sum ≤ 8) (hb0 : w[b0]? = some (.inr (ci, fs))) (hci : vwCl[ci]? = some r0) (hcls : r0.1 = M'.1.cls) (hq : decode code pc = .ok (.invokevirtual idx, 3))
    (kk : ∀ (r : Option Value) (w' : List va_E) (ad' : Nat → Nat) (H' : Heap) (locs' : List Loc), Q' r w' → XG mc w.length ad ad' → LX s D cy ad' w' H' locs' → w.length ≤ w'.length → W p l e room_1 s m #[Value.ref b] below meth c H' locs' (cells + mc) (slots + ms) Z (F0 m (pc + 3) ls ((r.map (xt ad')).toList ++ rest))) :
    W p l e room_1 s m #[Value.ref b] below meth c H locs cells slots Z (F0 m pc ls st) := by
  obtain ⟨⟨hx, hb, hr, hml, hown, -, hX, hbl, hlocks, hgv⟩, hts, hK⟩ := hC
  simp only [okV, Bool.and_eq_true, decide_eq_true_eq] at hok
  obtain ⟨o1, o2, o3, o4, o5, o6, o7⟩ := hok
  have hpre := xw_pre (av := .ref b0 :: av) X.1 hK X.2.1 X.2.2.1 (fun _ h => h) X.2.2.2
  refine law_back X (ar := ((Value.ref b0 :: av).map (xt ad)).toArray) ?_ kk
  refine va_runV (own := R_law) (C := M'.1.cls) (Ts := bigw) (As := av.map (xt ad)) (b := ad b0) (nL := 4) (cc := code) ⟨hx, hb, hml, hown, hts⟩ (hc l D cy ad H.size) (index := idx) (n := n) (bytes := M'.2.1) (maxL := M'.2.2.1) (ret := M'.2.2.2.1)
    ⟨callB_of (ws' := bigw) n hts (xws_good hM') rfl rfl rfl (hts _ (mb_in o4)) (hts _ (mb_in o1)) ⟨o5, o6, o7⟩ ⟨?_, ?_⟩, hts _ (mb_in o2), hts _ (mb_in o3)⟩
    ⟨hpre.1, ?_, hpre.2⟩ rfl (by rw [List.length_map]; exact hn) hls hst (lv_room hrm) hq ⟨hcl, hsl⟩
  · show d' + 1 ≤ 2048
    omega
  · have := hM'.2.2.2.2.2
    show 8 + (M'.2.2.1 + 11) + 64 * d' ≤ 84000
    omega
  · have := va_recv hK X.1 (ci := ci) (q0 := b0) hci (xw_at hb0)
    rw [hcls] at this
    exact this
theorem law_callI {M' : XM} {d' mc ms cells slots pc b0 idx n : Nat} {av : List Value} {Q' : Option Value → List va_E → Prop} {w : List va_E} {ad : Nat → Nat} {H : Heap} {locs : List Loc} {ls : Array Slot} {st rest : List Value}
    (hC : LCx p s m meth c b L xs D cy) (X : LX s D cy ad w H locs) (hls : ls.size = 4)
    (hM' : okM M') (hret : M'.2.2.2.1 = none) (hin : M'.1.name = "<init>") (hc : Co M' d' mc ms (.ref b0 :: av) w Q') (hok : okV R_law idx M'.1 n = true ∨ (mb (.methodLink R_law idx M'.1) = true ∧ mb (.instanceMethod M'.1) = true ∧ mb (.initialized M'.1.cls) = true ∧ M'.1.cls ≠ "java/lang/invoke/MethodHandle" ∧ M'.1.cls ≠ "java/lang/invoke/VarHandle" ∧ (parseMethodDescriptor M'.1.desc).map (fun d => d.parameters.length) = some n)) (hn : av.length = n) (hcl : cells + mc ≤ 600000) (hsl : slots + ms ≤ 7302250) (hd : d' ≤ 1000)
    (hst : st = (av.map (xt ad)).reverse ++ .ref (ad b0) :: rest) (hrm : (rest.map fun v => v.category).sum ≤ 8) (hq : decode code pc = .ok (.invokespecial idx, 3))
    (kk : ∀ (r : Option Value) (w' : List va_E) (ad' : Nat → Nat) (H' : Heap) (locs' : List Loc), Q' r w' → XG mc w.length ad ad' → LX s D cy ad' w' H' locs' → w.length ≤ w'.length → W p l e room_1 s m #[Value.ref b] below meth c H' locs' (cells + mc) (slots + ms) Z (F0 m (pc + 3) ls ((r.map (xt ad')).toList ++ rest))) :
    W p l e room_1 s m #[Value.ref b] below meth c H locs cells slots Z (F0 m pc ls st) := by
  obtain ⟨⟨hx, hb, hr, hml, hown, -, hX, hbl, hlocks, hgv⟩, hts, hK⟩ := hC
  obtain ⟨o1, o2, o4, o5, o6, o7⟩ : mb (.methodLink R_law idx M'.1) = true ∧ mb (.instanceMethod M'.1) = true ∧ mb (.initialized M'.1.cls) = true ∧ M'.1.cls ≠ "java/lang/invoke/MethodHandle" ∧ M'.1.cls ≠ "java/lang/invoke/VarHandle" ∧ (parseMethodDescriptor M'.1.desc).map (fun d => d.parameters.length) = some n := by
    rcases hok with hok | hok
    · simp only [okV, Bool.and_eq_true, decide_eq_true_eq] at hok
      exact ⟨hok.1, hok.2.1, hok.2.2.2.1, hok.2.2.2.2.1, hok.2.2.2.2.2.1, hok.2.2.2.2.2.2⟩
    · exact hok
  have hpre := xw_pre (av := .ref b0 :: av) X.1 hK X.2.1 X.2.2.1 (fun _ h => h) X.2.2.2
  refine law_back X (ar := ((Value.ref b0 :: av).map (xt ad)).toArray) ?_ kk
  refine va_runI (own := R_law) (Ts := bigw) (As := av.map (xt ad)) (b := ad b0) (nL := 4) (cc := code) ⟨hx, hb, hml, hown, hts⟩ (hc l D cy ad H.size) (index := idx) (n := n) (bytes := M'.2.1) (maxL := M'.2.2.1)
    ⟨callB_of (ws' := bigw) n hts (xws_good hM') (by rw [← hret]; rfl) rfl rfl (hts _ (mb_in o4)) (hts _ (mb_in o1)) ⟨o5, o6, o7⟩ ⟨?_, ?_⟩, hin, hts _ (mb_in o2)⟩
    ⟨hpre.1, hpre.2⟩ rfl (by rw [List.length_map]; exact hn) hls hst (lv_room hrm) hq ⟨hcl, hsl⟩
  · show d' + 1 ≤ 2048
    omega
  · have := hM'.2.2.2.2.2
    show 8 + (M'.2.2.1 + 11) + 64 * d' ≤ 84000
    omega
theorem law_new {idx ci cells slots pc : Nat} {r : vw_C} {fs : List Value} {w : List va_E} {ad : Nat → Nat} {H : Heap} {locs : List Loc} {ls : Array Slot} {st : List Value} (hC : LCx p s m meth c b L xs D cy) (X : LX s D cy ad w H locs) (h1 : vwCl[ci]? = some r) (hcl : mb (.classLink R_law idx r.1) = true) (hinst : mb (.instantiable r.1 r.2.2) = true) (hini : mb (.initialized r.1) = true) {ty : Nat → FieldType} (hty : ∀ k, k < r.2.2 → parseFieldDescriptor (r.2.1 k).2.2.1 = some (ty k)) (hfs : ∀ j, j < r.2.2 → defaultValue (ty j) = vp_V fs j) (hfr : ∀ v ∈ fs, ∀ ad, xt ad v = v) (hc : cells + 1 ≤ 600000) (hsl : slots + r.2.2 ≤ 7302250) (hwl : w.length < 1000000) (hw : ∀ e ∈ w, xeS w.length e) (hq : decode code pc = .ok (.new idx, 3))
    (kk : ∀ (q : Nat) (H1 : Heap), LX s D cy (fun i => if i = w.length then q else ad i) (w ++ [.inr (ci, fs)]) H1 locs → W p l e room_1 s m #[Value.ref b] below meth c H1 locs (cells + 1) (slots + r.2.2) Z (F0 m (pc + 3) ls (.ref q :: st))) :
    W p l e room_1 s m #[Value.ref b] below meth c H locs cells slots Z (F0 m pc ls st) := by
  obtain ⟨⟨hx, hb, hr, hml, hown, -, hX, hbl, hlocks, hgv⟩, hts, hK⟩ := hC
  obtain ⟨hP, hD, hS, hN⟩ := X
  refine va_new (ci := ci) (fs := fs) (C := r.1) (T := r.2.1) (N := r.2.2) hx hb hts (big_u ci r h1) ty hty hown (hts _ (mb_in hcl)) (hts _ (mb_in hinst)) (hts _ (mb_in hini)) hK hP hD hS (fun _ h => h) h1 hfs hc hsl hq ?_
  intro q H1 hP1 hD1 hS1
  have had : ∀ i, i ≠ w.length → (fun i => if i = w.length then q else ad i) i = ad i := fun i hi => if_neg hi
  have hnw : xw cy (fun i => if i = w.length then q else ad i) (w ++ [.inr (ci, fs)]) = xw cy ad w ++ [(q, .inr (ci, fs))] := by
    rw [xw_new had hw]
    have hm : fs.map (xt (fun i => if i = w.length then q else ad i)) = fs := by
      rw [List.map_congr_left (g := id) (fun v hv => hfr v hv _)]
      simp
    simp [xe, hm]
  exact kk q H1 ⟨by rw [hnw]; exact hP1, by rw [hnw]; exact hD1, hS1, hN.ad (fun i hi => had i (by omega))⟩
theorem law_args (hC : LCx p s m meth c b L xs D cy) {H : Heap} {locs : List Loc} (hS : va_S (fun q : Nat => s.heap.size ≤ q) s.heap H locs) {ls : Array Slot} {q1 q2 i cells slots : Nat} (hl : lv_has ls 4 [(0, .ref b), (1, .ref q1), (2, .ref q2), (3, .int (nI i))]) (hi : i + 7 ≤ L) (hL : L ≤ 448) (n : Nat) :
    ∀ (k pc : Nat) (st : List Value), k + n ≤ 7 → (∀ q ∈ argT n k pc, decode code q.1 = .ok q.2) → W p l e room_1 s m #[Value.ref b] below meth c H locs cells slots Z (F0 m (argE n k pc) ls (((argV xs i n k).map Value.int).reverse ++ st)) → W p l e room_1 s m #[Value.ref b] below meth c H locs cells slots Z (F0 m pc ls st) := by
  obtain ⟨⟨hx, hb, hr, hml, hown, -, hX, hbl, hlocks, hgv⟩, hts, hK⟩ := hC
  have hbA : ¬ (fun q : Nat => s.heap.size ≤ q) b := Nat.not_le.mpr hbl
  induction n with
  | zero => intro k pc st _ _ kk; exact kk
  | succ n ih =>
    intro k pc st hk hd kk
    have hin : vp_in (nI (i + k)) L := vp_in_nI (by omega) (by omega)
    have hst : ((argV xs i (n + 1) k).map Value.int).reverse ++ st = ((argV xs i n (k + 1)).map Value.int).reverse ++ (.int (xs (i + k)) :: st) := by simp [argV]
    have hcl : (nI (i + k)).toNatClampNeg = i + k := nI_clamp (by omega)
    rw [hst] at kk
    by_cases h6 : k = 6
    · have hE : argE (n + 1) k pc = argE n (k + 1) (pc + 6) := if_pos h6
      rw [hE] at kk
      have hd : ∀ q ∈ (pc, Instr.aload_n 0, 1) :: (pc + 1, Instr.iload_n 3, 1) :: (pc + 2, Instr.bipush 6, 2) :: (pc + 4, Instr.iadd, 1) :: (pc + 5, Instr.iaload, 1) :: argT n (k + 1) (pc + 6), decode code q.1 = .ok q.2 := by
        have hT : argT (n + 1) k pc = _ := if_pos h6
        rw [hT] at hd
        exact hd
      simp only [List.forall_mem_cons] at hd
      obtain ⟨d1, d2, d3, d4, d5, d6⟩ := hd
      refine lv_aload_n hx hb d1 rfl (lv_at hl 0 rfl) ?_
      refine lv_iload_n hx hb d2 rfl (lv_at hl 3 rfl) ?_
      refine lv_bipush (v := nI k) hx hb d3 (by rw [h6]; decide +kernel) ?_
      refine lv_iadd hx hb d4 ?_
      rw [nI_add]
      refine va_sld hx hb hX hbl hbA hS hin d5 ?_
      rw [hcl]
      exact ih (k + 1) (pc + 6) _ (by omega) d6 kk
    · have hE : argE (n + 1) k pc = argE n (k + 1) (pc + 5) := if_neg h6
      rw [hE] at kk
      have hd : ∀ q ∈ (pc, Instr.aload_n 0, 1) :: (pc + 1, Instr.iload_n 3, 1) :: (pc + 2, Instr.iconst (k : Int), 1) :: (pc + 3, Instr.iadd, 1) :: (pc + 4, Instr.iaload, 1) :: argT n (k + 1) (pc + 5), decode code q.1 = .ok q.2 := by
        have hT : argT (n + 1) k pc = _ := if_neg h6
        rw [hT] at hd
        exact hd
      simp only [List.forall_mem_cons] at hd
      obtain ⟨d1, d2, d3, d4, d5, d6⟩ := hd
      refine lv_aload_n hx hb d1 rfl (lv_at hl 0 rfl) ?_
      refine lv_iload_n hx hb d2 rfl (lv_at hl 3 rfl) ?_
      refine lv_iconst (v := nI k) hx hb d3 Int32.ofInt_eq_ofNat ?_
      refine lv_iadd hx hb d4 ?_
      rw [nI_add]
      refine va_sld hx hb hX hbl hbA hS hin d5 ?_
      rw [hcl]
      exact ih (k + 1) (pc + 5) _ (by omega) d6 kk
theorem xt_ints (ad : Nat → Nat) (zs : List Int32) : (zs.map Value.int).map (xt ad) = zs.map Value.int := by
  rw [List.map_map]
  rfl
theorem law_caseI {INV : List va_E → Prop} (hI : INVok INV) {MX MY : XM} {n : Nat} (S : STP Value.int INV MX MY n) (hMX : okM MX) (hMY : okM MY) (hn6 : n ≤ 6) (pc ix iy : Nat) (hT : okT code (caseT n pc ix iy) = true) (vX : okV R_law ix MX.1 n = true) (vY : okV R_law iy MY.1 n = true) (cX : RX6 = MX.1.cls) (cY : RX7 = MY.1.cls)
    (hC : LCx p s m meth c b L xs D cy) {w : List va_E} {ad : Nat → Nat} {H : Heap} {locs : List Loc} {ls : Array Slot} {i cells slots : Nat} (X : LX s D cy ad w H locs) (hw : INV w) (hl : lv_has ls 4 [(0, .ref b), (1, .ref (ad 0)), (2, .ref (ad 52)), (3, .int (nI i))]) (hi : i + 7 ≤ L) (hL : L ≤ 448) (hcl : cells + 4 ≤ 600000) (hsl : slots + 206 ≤ 7302250)
    (kk : ∀ (w' : List va_E) (ad' : Nat → Nat) (H' : Heap) (locs' : List Loc), INV w' → ad' 0 = ad 0 → ad' 52 = ad 52 → LX s D cy ad' w' H' locs' → W p l e room_1 s m #[Value.ref b] below meth c H' locs' (cells + 4) (slots + 206) Z (F0 m 1508 ls [])) :
    W p l e room_1 s m #[Value.ref b] below meth c H locs cells slots Z (F0 m pc ls []) := by
  obtain ⟨dX, dY, mc, ms, hdX, hdY, hmc, hms, S⟩ := S
  have d := okT_dT hT
  simp only [caseT, List.forall_mem_cons, List.forall_mem_append] at d
  obtain ⟨d1, dA, d2, d3, dB, d4, d5, -⟩ := d
  have hx := hC.1.1
  have hb := hC.1.2.1
  obtain ⟨⟨fs0, h0⟩, h53⟩ := hI w hw
  refine lv_aload_n hx hb d1 rfl (lv_at hl 1 rfl) ?_
  refine law_args hC X.2.2.1 hl hi hL n 1 (pc + 1) _ (by omega) dA ?_
  obtain ⟨QX, hcX, hqX⟩ := S w hw (argV xs i n 1) (argV_len xs i n 1)
  refine law_callV hC X hl.1 hMX hcX vX (by rw [List.length_map]; exact argV_len xs i n 1) (by omega) (by omega) hdX (rest := []) (by rw [xt_ints]) (by simp) h0 (r0 := (RX6, TX6, 14)) rfl cX d2 (fun r w' ad' H' locs' q G X' hlen => ?_)
  obtain ⟨x, rfl, ⟨fs, h52⟩, QY, hcY, hqY⟩ := hqX r w' q
  have e0 : ad' 0 = ad 0 := G.2 0 (Or.inl (by omega))
  have e52 : ad' 52 = ad 52 := G.2 52 (Or.inl (by omega))
  have hl' : lv_has ls 4 [(0, .ref b), (1, .ref (ad' 0)), (2, .ref (ad' 52)), (3, .int (nI i))] := by rw [e0, e52]; exact hl
  show W p l e room_1 s m #[Value.ref b] below meth c H' locs' (cells + mc) (slots + ms) Z (F0 m (argE n 1 (pc + 1) + 3) ls [.int x])
  refine lv_aload_n hx hb d3 rfl (lv_at hl' 2 rfl) ?_
  refine law_args hC X'.2.2.1 hl' hi hL n 1 (argE n 1 (pc + 1) + 3 + 1) _ (by omega) dB ?_
  refine law_callV hC X' hl'.1 hMY hcY vY (by rw [List.length_map]; exact argV_len xs i n 1) (by omega) (by omega) hdY (rest := [.int x]) (by rw [xt_ints]) (by simp [Value.category]) h52 (r0 := (RX7, TX7, 47)) rfl cY d4 (fun r2 w2 ad2 H2 locs2 q2 G2 X2 hlen2 => ?_)
  obtain ⟨rfl, hi2⟩ := hqY r2 w2 q2
  show W p l e room_1 s m #[Value.ref b] below meth c H2 locs2 (cells + mc + 0) (slots + ms + 0) Z (F0 m (argE n 1 (argE n 1 (pc + 1) + 3 + 1) + 3) ls [.int x, .int x])
  refine lv_icmp_eq (tgt := 1508) hx hb d5 (by omega) (fun _ => ?_) (fun h => absurd rfl h)
  refine W.widen (k := cells + 4) (n := slots + 206) (by omega) (by omega) ?_
  exact kk w2 ad2 H2 locs2 hi2 ((G2.2 0 (Or.inl (by omega))).trans e0) ((G2.2 52 (Or.inl (by omega))).trans e52) X2
theorem lg_cmp_self (x : Int64) : lg_cmp x x = 0 := by
  simp [lg_cmp]
theorem law_caseJ {INV : List va_E → Prop} (hI : INVok INV) {MX MY : XM} {n : Nat} (S : STP Value.long INV MX MY n) (hMX : okM MX) (hMY : okM MY) (hn6 : n ≤ 6) (pc ix iy : Nat) (hT : okT code (caseL n pc ix iy) = true) (vX : okV R_law ix MX.1 n = true) (vY : okV R_law iy MY.1 n = true) (cX : RX6 = MX.1.cls) (cY : RX7 = MY.1.cls)
    (hC : LCx p s m meth c b L xs D cy) {w : List va_E} {ad : Nat → Nat} {H : Heap} {locs : List Loc} {ls : Array Slot} {i cells slots : Nat} (X : LX s D cy ad w H locs) (hw : INV w) (hl : lv_has ls 4 [(0, .ref b), (1, .ref (ad 0)), (2, .ref (ad 52)), (3, .int (nI i))]) (hi : i + 7 ≤ L) (hL : L ≤ 448) (hcl : cells + 4 ≤ 600000) (hsl : slots + 206 ≤ 7302250)
    (kk : ∀ (w' : List va_E) (ad' : Nat → Nat) (H' : Heap) (locs' : List Loc), INV w' → ad' 0 = ad 0 → ad' 52 = ad 52 → LX s D cy ad' w' H' locs' → W p l e room_1 s m #[Value.ref b] below meth c H' locs' (cells + 4) (slots + 206) Z (F0 m 1508 ls [])) :
    W p l e room_1 s m #[Value.ref b] below meth c H locs cells slots Z (F0 m pc ls []) := by
  obtain ⟨dX, dY, mc, ms, hdX, hdY, hmc, hms, S⟩ := S
  have d := okT_dT hT
  simp only [caseL, List.forall_mem_cons, List.forall_mem_append] at d
  obtain ⟨d1, dA, d2, d3, dB, d4, d5, d6, -⟩ := d
  have hx := hC.1.1
  have hb := hC.1.2.1
  obtain ⟨⟨fs0, h0⟩, h53⟩ := hI w hw
  refine lv_aload_n hx hb d1 rfl (lv_at hl 1 rfl) ?_
  refine law_args hC X.2.2.1 hl hi hL n 1 (pc + 1) _ (by omega) dA ?_
  obtain ⟨QX, hcX, hqX⟩ := S w hw (argV xs i n 1) (argV_len xs i n 1)
  refine law_callV hC X hl.1 hMX hcX vX (by rw [List.length_map]; exact argV_len xs i n 1) (by omega) (by omega) hdX (rest := []) (by rw [xt_ints]) (by simp) h0 (r0 := (RX6, TX6, 14)) rfl cX d2 (fun r w' ad' H' locs' q G X' hlen => ?_)
  obtain ⟨x, rfl, ⟨fs, h52⟩, QY, hcY, hqY⟩ := hqX r w' q
  have e0 : ad' 0 = ad 0 := G.2 0 (Or.inl (by omega))
  have e52 : ad' 52 = ad 52 := G.2 52 (Or.inl (by omega))
  have hl' : lv_has ls 4 [(0, .ref b), (1, .ref (ad' 0)), (2, .ref (ad' 52)), (3, .int (nI i))] := by rw [e0, e52]; exact hl
  show W p l e room_1 s m #[Value.ref b] below meth c H' locs' (cells + mc) (slots + ms) Z (F0 m (argE n 1 (pc + 1) + 3) ls [.long x])
  refine lv_aload_n hx hb d3 rfl (lv_at hl' 2 rfl) ?_
  refine law_args hC X'.2.2.1 hl' hi hL n 1 (argE n 1 (pc + 1) + 3 + 1) _ (by omega) dB ?_
  refine law_callV hC X' hl'.1 hMY hcY vY (by rw [List.length_map]; exact argV_len xs i n 1) (by omega) (by omega) hdY (rest := [.long x]) (by rw [xt_ints]) (by simp [Value.category]) h52 (r0 := (RX7, TX7, 47)) rfl cY d4 (fun r2 w2 ad2 H2 locs2 q2 G2 X2 hlen2 => ?_)
  obtain ⟨rfl, hi2⟩ := hqY r2 w2 q2
  show W p l e room_1 s m #[Value.ref b] below meth c H2 locs2 (cells + mc + 0) (slots + ms + 0) Z (F0 m (argE n 1 (argE n 1 (pc + 1) + 3 + 1) + 3) ls [.long x, .long x])
  refine W.lcmp hx hb d5 ?_
  rw [lg_cmp_self]
  refine lv_if_eq (tgt := 1508) hx hb d6 (by omega) (fun _ => ?_) (fun h => absurd rfl h)
  refine W.widen (k := cells + 4) (n := slots + 206) (by omega) (by omega) ?_
  exact kk w2 ad2 H2 locs2 hi2 ((G2.2 0 (Or.inl (by omega))).trans e0) ((G2.2 52 (Or.inl (by omega))).trans e52) X2
end
