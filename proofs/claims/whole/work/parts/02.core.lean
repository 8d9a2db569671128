/-! THE LAYER. A world is a list of cells (va_E) whose references are places in that list; class numbers of arrays are 0 int, 1 boolean, 2 Law, 3 Sheet.
WW M d Q z pc lv st w : method M, at pc with these values, comes to its end with Q. Co M d mc ms av w Q : M's contract. xrun: straight stretches, by computation. -/
def xt (ad : Nat → Nat) (v : Value) : Value := match v with
  | .ref i => .ref (ad i)
  | .int x => .int x
  | .long x => .long x
  | .float x => .float x
  | .double x => .double x
  | .null => .null
  | .retAddr x => .retAddr x
theorem xt_cat (ad : Nat → Nat) (v : Value) : (xt ad v).category = v.category := by cases v <;> rfl
def xa (ad : Nat → Nat) (a : (Nat → Int32) ⊕ (Nat → Int64) ⊕ (Nat → UInt32) ⊕ (Nat → UInt64) ⊕ (Nat → Option Nat)) : (Nat → Int32) ⊕ (Nat → Int64) ⊕ (Nat → UInt32) ⊕ (Nat → UInt64) ⊕ (Nat → Option Nat) := match a with
  | .inl f => .inl f
  | .inr (.inl f) => .inr (.inl f)
  | .inr (.inr (.inl f)) => .inr (.inr (.inl f))
  | .inr (.inr (.inr (.inl f))) => .inr (.inr (.inr (.inl f)))
  | .inr (.inr (.inr (.inr f))) => .inr (.inr (.inr (.inr (fun j => (f j).map ad))))
def xe (cy : Nat → ClassId) (ad : Nat → Nat) (e : va_E) : va_E := match e with
  | .inl (k, n, a) => .inl (cy k, n, xa ad a)
  | .inr (ci, fs) => .inr (ci, fs.map (xt ad))
def xw (cy : Nat → ClassId) (ad : Nat → Nat) (w : List va_E) : va_W := w.mapIdx (fun i e => (ad i, xe cy ad e))
theorem xw_len {cy : Nat → ClassId} {ad : Nat → Nat} {w : List va_E} : (xw cy ad w).length = w.length := by simp [xw]
theorem xw_at {cy : Nat → ClassId} {ad : Nat → Nat} {w : List va_E} {i : Nat} {e : va_E} (h : w[i]? = some e) : (xw cy ad w)[i]? = some (ad i, xe cy ad e) := by
  simp [xw, List.getElem?_mapIdx, h]
theorem xw_set {cy : Nat → ClassId} {ad : Nat → Nat} {w : List va_E} {i : Nat} {e : va_E} : (xw cy ad w).set i (ad i, xe cy ad e) = xw cy ad (w.set i e) := by
  apply List.ext_getElem?
  intro j
  simp only [xw, List.getElem?_set, List.getElem?_mapIdx, List.length_mapIdx]
  by_cases h : i = j
  · subst h
    by_cases h2 : i < w.length <;> simp [h2]
  · simp [h]
def xty (cy : Nat → ClassId) : List (ClassId × FieldType) := [(cy 0, .int), (cy 1, .boolean), (cy 2, .object "WarmChairs$Law"), (cy 3, .object "WarmChairs$Sheet")]
def xl (ad : Nat → Nat) (lv : List (Nat × Value)) : List (Nat × Value) := lv.map (fun q => (q.1, xt ad q.2))
/-- a class: its name, its field links (pool place, class number, slot, an int that may be put), its int and long constants -/
abbrev XK : Type := String × List (Nat × Nat × Nat × Bool) × List (Nat × Int32) × List (Nat × Int64)
/-- a method: name, bytes, locals, what it returns, its instructions, its class -/
abbrev XM : Type := MethodName × ByteArray × Nat × Option FieldType × List (Nat × Instr × Nat) × XK
abbrev XS : Type := Nat × List (Nat × Value) × List Value × List va_E
def xlen (i : Instr) : Nat := match i with
  | .iload _ | .aload _ | .lload _ | .istore _ | .astore _ | .lstore _ | .bipush _ | .ldc _ | .newarray _ => 2
  | .sipush _ | .getfield _ | .putfield _ | .goto _ | .iinc _ _ | .if_icmp _ _ | .ifCond _ _ | .ldc_w _ | .ldc2_w _ | .invokevirtual _ | .invokestatic _ | .invokespecial _ | .new _ | .anewarray _ | .getstatic _ | .checkcast _ | .ifnull _ | .ifnonnull _ => 3
  | _ => 1
def xsw (i : Instr) : Bool := match i with
  | .tableswitch _ _ _ _ => true
  | .lookupswitch _ _ => true
  | _ => false
def bigw : List Cond := lw_tbl.filter goodWord
def mb (w : Cond) : Bool := decide (w ∈ lw_tbl) && goodWord w
theorem mb_in {w : Cond} (h : mb w = true) : w ∈ bigw := by
  simp only [mb, Bool.and_eq_true, decide_eq_true_eq] at h
  exact List.mem_filter.mpr h
theorem bigw_l {w : Cond} (h : w ∈ bigw) : w ∈ lw_tbl := (List.mem_filter.mp h).1
def okf (own : String) (q : Nat × Nat × Nat × Bool) : Bool := match vwCl[q.2.1]? with
  | none => false
  | some r => decide (q.2.2.1 < r.2.2) && (mb (Cond.fieldLink own q.1 (r.2.1 q.2.2.1).1 (r.2.1 q.2.2.1).2.1 (r.2.1 q.2.2.1).2.2.1) && (!q.2.2.2 || (!(r.2.1 q.2.2.1).2.2.2 && (r.2.1 q.2.2.1).2.2.1 == "I")))
def okK (K : XK) : Bool := K.2.1.all (okf K.1) && (K.2.2.1.all (fun q => mb (Cond.constant K.1 q.1 q.2)) && K.2.2.2.all (fun q => mb (Cond.constantLong K.1 q.1 q.2)))
def okT (cc : ByteArray) (tb : List (Nat × Instr × Nat)) : Bool := tb.all (fun q => decide (decode cc q.1 = .ok q.2) && (xsw q.2.1 || Nat.beq q.2.2 (xlen q.2.1)))
def okM (M : XM) : Prop := okK M.2.2.2.2.2 = true ∧ okT M.2.1 M.2.2.2.2.1 = true ∧ Cond.code M.1 M.2.1 M.2.2.1 M.2.2.2.1 ∈ bigw ∧ M.1.cls = M.2.2.2.2.2.1 ∧ plainName M.1.cls = true ∧ M.2.2.1 ≤ 40
theorem good_in {ws : List Cond} (h : ∀ w ∈ ws, w ∈ bigw) : GoodIn bigw ws := fun w hw => ⟨h w hw, good_of_word (List.mem_filter.mp (h w hw)).2⟩
theorem big_u : ∀ (ci : Nat) (r : vw_C), vwCl[ci]? = some r → (∀ w ∈ u_ws r.1 r.2.1 r.2.2, w ∈ bigw) := by
  intro ci r h
  match ci, h with
  | 0, h => cases h; decide +kernel
  | 1, h => cases h; decide +kernel
  | 2, h => cases h; decide +kernel
  | 3, h => cases h; decide +kernel
  | 4, h => cases h; decide +kernel
  | 5, h => cases h; decide +kernel
  | 6, h => cases h; decide +kernel
  | ci + 7, h => simp [vwCl] at h
theorem big_n : ∀ (ci : Nat) (r : vw_C), vwCl[ci]? = some r → (∀ a, a < r.2.2 → ∀ b, b < r.2.2 → a ≠ b → (r.2.1 a).2.1 ≠ (r.2.1 b).2.1) ∧ ∃ ty : Nat → FieldType, ∀ k, k < r.2.2 → parseFieldDescriptor (r.2.1 k).2.2.1 = some (ty k) := by
  intro ci r h
  match ci, h with
  | 0, h => cases h; exact ⟨nmX0, tyX0, tyX0_ok⟩
  | 1, h => cases h; exact ⟨nmX1, tyX1, tyX1_ok⟩
  | 2, h => cases h; exact ⟨nmX3, tyX3, tyX3_ok⟩
  | 3, h => cases h; exact ⟨nmX4, tyX4, tyX4_ok⟩
  | 4, h => cases h; exact ⟨nmX5, tyX5, tyX5_ok⟩
  | 5, h => cases h; exact ⟨nmX6, tyX6, tyX6_ok⟩
  | 6, h => cases h; exact ⟨nmX7, tyX7, tyX7_ok⟩
  | ci + 7, h => simp [vwCl] at h
/-- what stands beside the world: links of nest mates, the row Kinds.ABOVE, the texts (a text number i is the reference 1000000 + i) -/
def xnest : List (String × Nat × MethodName × String) := [("WarmChairs", 9, yX1_init, "WarmChairs"), ("WarmChairs", 25, yX5_init, "WarmChairs"), ("WarmChairs", 48, yX0_init, "WarmChairs"), ("WarmChairs", 72, yX4_init, "WarmChairs"), ("WarmChairs$Evening", 11, yX1_init, "WarmChairs"), ("WarmChairs$House", 55, yX6_exchange, "WarmChairs"), ("WarmChairs$Kinds", 9, yX6_within, "WarmChairs")]
def xstr : List (String × Nat × String × List Int32) := [("WarmChairs", 73, "warm 3 + fat + more ; first minute ; costs stood ;", [119, 97, 114, 109, 32, 51, 32, 43, 32, 102, 97, 116, 32, 43, 32, 109, 111, 114, 101, 32, 59, 32, 102, 105, 114, 115, 116, 32, 109, 105, 110, 117, 116, 101, 32, 59, 32, 99, 111, 115, 116, 115, 32, 115, 116, 111, 111, 100, 32, 59]), ("WarmChairs$Tape", 95, "fat", [102, 97, 116]), ("WarmChairs$Tape", 101, "more", [109, 111, 114, 101]), ("WarmChairs$Tape", 103, "sat", [115, 97, 116]), ("WarmChairs$Tape", 105, "stood", [115, 116, 111, 111, 100]), ("WarmChairs$Tape", 107, "minute", [109, 105, 110, 117, 116, 101]), ("WarmChairs$Tape", 109, "number", [110, 117, 109, 98, 101, 114]), ("WarmChairs$Tape", 110, "warm", [119, 97, 114, 109]), ("WarmChairs$Tape", 112, "first", [102, 105, 114, 115, 116]), ("WarmChairs$Tape", 114, "costs", [99, 111, 115, 116, 115]), ("WarmChairs$Tape", 116, "or", [111, 114]), ("WarmChairs$Tape", 118, "and", [97, 110, 100]), ("WarmChairs$Tape", 120, "not", [110, 111, 116])]
def xsat (i : Nat) : String × Nat × String × List Int32 := xstr.getD i ("", 0, "", [])
def aboveF (j : Nat) : Int32 := ([-1, 0, 0, 1, 2, 0] : List Int32).getD j 0
def XN (A : Nat → Prop) (ad : Nat → Nat) (U : State) : Prop :=
  ((∀ q ∈ xnest, va_Nw (.methodLinkNest q.1 q.2.1 q.2.2.1 q.2.2.2) U) ∧ va_AO "WarmChairs$Law" U ∧ va_AO "WarmChairs$Sheet" U ∧ va_Nw (.castable "[I" "java/lang/Cloneable") U) ∧
  (∃ t : Nat, va_Z "WarmChairs$Kinds" "ABOVE" "[I" (.ref t) A U U.heap ∧ va_T .int t 6 (fun j => .int (aboveF j)) A U U.heap) ∧
  vk_S 13 (xstr.map (fun q => q.2.2.2.length)) (xstr.map (fun q => q.2.2.2)) (fun i => ad (1000000 + i)) (fun i => ad (2000000 + i)) A U U.heap ∧
  (∀ i, i < 13 → vk_R (xsat i).1 (xsat i).2.1 (xsat i).2.2.1 (ad (1000000 + i)) U) ∧
  va_Z "java/lang/String" "COMPACT_STRINGS" "Z" (.int 1) A U U.heap ∧ (va_Z "jdk/internal/util/Preconditions" "SIOOBE_FORMATTER" "Ljava/util/function/BiFunction;" .null A U U.heap ∨ va_Z "jdk/internal/util/Preconditions" "SIOOBE_FORMATTER" "Ljava/util/function/BiFunction;" (.ref (ad 3000000)) A U U.heap)
theorem XN.go {A B : Nat → Prop} {ad : Nat → Nat} {s U : State} (h : XN A ad s) (hAB : ∀ q, B q → A q) (hq : ∀ a : Nat, a < s.heap.size → ¬ A a → U.heap[a]? = s.heap[a]?) (hW : s.WarmedH U.vm) : XN B ad U := by
  obtain ⟨h1, ⟨t, h2, h3⟩, h4, h5, h6, h7⟩ := h
  exact ⟨⟨fun q hm => va_Nw.warmM hW (h1.1 q hm), h1.2.1.moved hW.alike, h1.2.2.1.moved hW.alike, va_Nw.warmC hW h1.2.2.2⟩, ⟨t, ((h2.kept hq).narrow hAB).moved hW.alike, ((h3.kept hq).narrow hAB).moved hW.alike⟩, ((h4.kept hq).narrow hAB).moved hW.alike, fun i hi => vk_R.warm hW (h5 i hi), ((h6.kept hq).narrow hAB).moved hW.alike, h7.imp (fun h => ((h.kept hq).narrow hAB).moved hW.alike) (fun h => ((h.kept hq).narrow hAB).moved hW.alike)⟩
theorem XN.blind {A : Nat → Prop} {ad : Nat → Nat} {U V : State} (h : XN A ad U) (hh : V.heap = U.heap) (hv : V.vm = U.vm) : XN A ad V := by
  obtain ⟨h1, ⟨t, h2, h3⟩, h4, h5, h6, h7⟩ := h
  have ha : U.vm.Alike V.vm := by rw [hv]; exact Vm.Alike.refl _
  unfold XN
  rw [hh]
  exact ⟨⟨fun q hm => va_Nw.same rfl hv.symm (h1.1 q hm), h1.2.1.moved ha, h1.2.2.1.moved ha, va_Nw.same rfl hv.symm h1.2.2.2⟩, ⟨t, h2.moved ha, h3.moved ha⟩, h4.moved ha, fun i hi => vk_R.same hv (h5 i hi), h6.moved ha, h7.imp (fun h => h.moved ha) (fun h => h.moved ha)⟩
theorem XN.ad {A : Nat → Prop} {ad ad' : Nat → Nat} {U : State} (h : XN A ad U) (he : ∀ i, 1000000 ≤ i → ad' i = ad i) : XN A ad' U := by
  have e : (fun i => ad' (1000000 + i)) = (fun i => ad (1000000 + i)) := funext fun i => he _ (by omega)
  have e2 : (fun i => ad' (2000000 + i)) = (fun i => ad (2000000 + i)) := funext fun i => he _ (by omega)
  have e3 : ad' 3000000 = ad 3000000 := he _ (by omega)
  obtain ⟨h1, h2, h4, h5, h6, h7⟩ := h
  refine ⟨h1, h2, by rw [e, e2]; exact h4, fun i hi => ?_, h6, by rw [e3]; exact h7⟩
  rw [he _ (by omega)]
  exact h5 i hi
theorem XN.narrow {A B : Nat → Prop} {ad : Nat → Nat} {U : State} (h : XN A ad U) (hAB : ∀ q, B q → A q) : XN B ad U := by
  obtain ⟨h1, ⟨t, h2, h3⟩, h4, h5, h6, h7⟩ := h
  exact ⟨h1, ⟨t, h2.narrow hAB, h3.narrow hAB⟩, h4.narrow hAB, h5, h6.narrow hAB, h7.imp (fun h => h.narrow hAB) (fun h => h.narrow hAB)⟩
/-- which addresses an ending may have: the same where nothing is made, else the same for what was there -/
def XG (mc n0 : Nat) (ad0 ad : Nat → Nat) : Prop := (mc = 0 → ad = ad0) ∧ ∀ i, (i < n0 ∨ 1000000 ≤ i) → ad i = ad0 i
def XQ (D : va_G) (cy : Nat → ClassId) (mc n0 : Nat) (ad0 : Nat → Nat) (A : Nat → Prop) (Q : Option Value → List va_E → Prop) : Array Value → State → Outcome → State → Prop := fun _ st oc t =>
  (∃ (r : Option Value) (w' : List va_E) (ad : Nat → Nat), oc = .returned (r.map (xt ad)) ∧ Q r w' ∧ XG mc n0 ad0 ad ∧ n0 ≤ w'.length ∧ va_P (D) vwCl (xw cy ad w') t.heap ∧ va_K D vwCl (xty cy) t ∧ va_D A (xw cy ad w')) ∧ va_F A st t
def xrm (d mc ms : Nat) : Room := { frames := d, cells := mc, slots := ms, locals := 64 * d }
def XC (M : XM) (z : Nat × Nat × Nat × Nat) (p : Program) (s : State) (m : MethodId) (args : Array Value) (meth : Method) (c : Code) (D : va_G) (cy : Nat → ClassId) (A : Nat → Prop) : Prop :=
  p.tables.exec = Jvm.exec ∧ c.code = M.2.1 ∧ meth.sig.returnType = M.2.2.2.1 ∧ meth.locks = false ∧ c.maxLocals = M.2.2.1 ∧ s.vm.findClass M.2.2.2.2.2.1 = some m.cls ∧ (∀ w ∈ bigw, w.before args s = true) ∧ va_K D vwCl (xty cy) s ∧ (∀ q, s.heap.size ≤ q → A q) ∧ s.methodNamed? M.1 = some m ∧ s.vm.method? m = some meth
def XH (M : XM) (z : Nat × Nat × Nat × Nat) (s : State) (D : va_G) (cy : Nat → ClassId) (A : Nat → Prop) (n0 : Nat) (ad0 ad : Nat → Nat) (lv : List (Nat × Value)) (w : List va_E) (H : Heap) (locs : List Loc) (ls : Array Slot) : Prop :=
  va_P D vwCl (xw cy ad w) H ∧ va_D A (xw cy ad w) ∧ va_S A s.heap H locs ∧ lv_has ls M.2.2.1 (xl ad lv) ∧ (XG z.1 n0 ad0 ad ∧ XN A ad s) ∧ n0 ≤ w.length ∧ z.2.2.1 ≤ z.1 ∧ z.2.2.2 ≤ z.2.1
def WW (M : XM) (d : Nat) (Q : Option Value → List va_E → Prop) (z : Nat × Nat × Nat × Nat) (pc : Nat) (lv : List (Nat × Value)) (st : List Value) (w : List va_E) : Prop :=
  okM M → ∀ ⦃p : Program⦄ ⦃l : Launch⦄ ⦃e : Env⦄ ⦃s : State⦄ ⦃m : MethodId⦄ ⦃args : Array Value⦄ ⦃below : List Frame⦄ ⦃meth : Method⦄ ⦃c : Code⦄ ⦃D : va_G⦄ ⦃cy : Nat → ClassId⦄ ⦃A : Nat → Prop⦄ ⦃n0 : Nat⦄ ⦃ad0 : Nat → Nat⦄,
    XC M z p s m args meth c D cy A → ∀ ⦃ad : Nat → Nat⦄ ⦃H : Heap⦄ ⦃locs : List Loc⦄ ⦃ls : Array Slot⦄, XH M z s D cy A n0 ad0 ad lv w H locs ls →
    W p l e (xrm d z.1 z.2.1) s m args below meth c H locs z.2.2.1 z.2.2.2 (MQ below (XQ D cy z.1 n0 ad0 A Q) args s z.1 z.2.1 A) (F0 m pc ls (st.map (xt ad)))
/-- a method's words -/
def xws (M : XM) : List Cond := .code M.1 M.2.1 M.2.2.1 M.2.2.2.1 :: bigw
def Co (M : XM) (d mc ms : Nat) (av : List Value) (w : List va_E) (Q : Option Value → List va_E → Prop) : Prop :=
  ∀ (l : Launch) (D : va_G) (cy : Nat → ClassId) (ad : Nat → Nat) (sz : Nat), Met l M.1 (xws M) (xrm d mc ms)
    (va_Pc (av.map (xt ad)) (fun U => U.heap.size = sz ∧ va_P D vwCl (xw cy ad w) U.heap ∧ va_K D vwCl (xty cy) U ∧ va_D (fun _ => True) (xw cy ad w) ∧ XN (va_A (xw cy ad w) sz) ad U))
    (XQ D cy mc w.length ad (va_A (xw cy ad w) sz) Q) mc ms (va_A (xw cy ad w) sz)
theorem lv_args_xt (ad : Nat → Nat) : ∀ (vs : List Value) (i : Nat), lv_args i (vs.map (xt ad)) = xl ad (lv_args i vs)
  | [], _ => rfl
  | v :: vs, i => by
    simp only [List.map_cons, lv_args, xl, xt_cat, List.map_cons]
    rw [lv_args_xt ad vs]
    rfl
theorem lg_sl_xt (ad : Nat → Nat) : ∀ (vs : List Value), (lg_sl (vs.map (xt ad))).length = (lg_sl vs).length
  | [] => rfl
  | v :: vs => by
    have h := lg_sl_xt ad vs
    simp only [lg_sl, List.map_cons, List.flatMap_cons, List.length_append, xt_cat] at h ⊢
    rw [h]
    split <;> rfl
theorem Co.of {M : XM} {d mc ms : Nat} {av : List Value} {w : List va_E} {Q : Option Value → List va_E → Prop} (hM : okM M) (hn : Nat.ble (lg_sl av).length M.2.2.1 = true)
    (h : WW M d Q (mc, ms, 0, 0) 0 (lv_args 0 av) [] w) : Co M d mc ms av w Q := by
  intro l D cy ad sz
  refine Met.ofW (cc := M.2.1) (maxL := M.2.2.1) (ret := M.2.2.2.1) hM.2.2.2.2.1 rfl ?_
  intro p e s m args below meth c s₁ B hml hv
  obtain ⟨rfl, hsz, hP, hK, hD0, hN⟩ := hv
  subst hsz
  have hts := atoms_spec (ws := xws M) B.pre
  have hown : s.vm.findClass M.2.2.2.2.2.1 = some m.cls := by rw [← hM.2.2.2.1]; exact findClass_of_methodNamed B.named
  have hl := lv_entry (av.map (xt ad)) (n := M.2.2.1) (by rw [lg_sl_xt]; exact Nat.le_of_ble_eq_true hn)
  rw [lv_args_xt] at hl
  rw [lg_entry_eq]
  exact h hM (n0 := w.length) (ad0 := ad) (D := D) (cy := cy) ⟨B.exec, B.bytes, B.returns, B.notSynchronized, hml, hown, fun w hw => hts w (List.mem_cons_of_mem _ hw), hK, fun q hq => Or.inr hq, B.named, B.method⟩
    ⟨hP, hD0.self, va_S.rf, hl, ⟨⟨fun _ => rfl, fun _ _ => rfl⟩, hN⟩, Nat.le_refl _, Nat.zero_le _, Nat.zero_le _⟩
/-! looking up -/
def xlk : List (Nat × Value) → Nat → Option Value
  | [], _ => none
  | q :: r, k => match Nat.beq q.1 k with
    | true => some q.2
    | false => xlk r k
theorem xlk_mem : ∀ {lv : List (Nat × Value)} {k : Nat} {v : Value}, xlk lv k = some v → (k, v) ∈ lv
  | [], k, v, h => by cases h
  | q :: r, k, v, h => by
    unfold xlk at h
    split at h
    · next hb =>
      cases h
      rw [← Nat.eq_of_beq_eq_true hb]
      exact List.mem_cons_self
    · exact List.mem_cons_of_mem _ (xlk_mem h)
theorem xlk_at {ls : Array Slot} {n : Nat} {ad : Nat → Nat} {lv : List (Nat × Value)} {k : Nat} {v : Value} (hl : lv_has ls n (xl ad lv)) (h : xlk lv k = some v) : ls[k]? = some (.val (xt ad v)) :=
  hl.2.2 (k, xt ad v) (List.mem_map.mpr ⟨(k, v), xlk_mem h, rfl⟩)
def xput (lv : List (Nat × Value)) (i : Nat) (v : Value) : List (Nat × Value) := (i, v) :: lv.filter (fun q => !(q.1 == i) && !(q.1 + 1 == i && q.2.category == 2))
theorem xput_xl (ad : Nat → Nat) (lv : List (Nat × Value)) (i : Nat) (v : Value) : (i, xt ad v) :: (xl ad lv).filter (fun q => !(q.1 == i) && !(q.1 + 1 == i && q.2.category == 2)) = xl ad (xput lv i v) := by
  simp only [xl, xput, List.map_cons, List.filter_map]
  congr 2
  apply List.filter_congr
  intro q _
  simp [Function.comp, xt_cat]
def xputl (lv : List (Nat × Value)) (i : Nat) (v : Value) : List (Nat × Value) := (i, v) :: lv.filter (fun q => !(q.1 == i) && (!(q.1 == i + 1) && !(q.1 + 1 == i && q.2.category == 2)))
theorem xputl_xl (ad : Nat → Nat) (lv : List (Nat × Value)) (i : Nat) (v : Value) : (i, xt ad v) :: (xl ad lv).filter (fun q => !(q.1 == i) && (!(q.1 == i + 1) && !(q.1 + 1 == i && q.2.category == 2))) = xl ad (xputl lv i v) := by
  simp only [xl, xputl, List.map_cons, List.filter_map]
  congr 2
  apply List.filter_congr
  intro q _
  simp [Function.comp, xt_cat]
theorem xpc {M : XM} {a pc len : Nat} {i : Instr} (hM : okM M) (h : M.2.2.2.2.1[a]? = some (pc, i, len)) : decode M.2.1 pc = .ok (i, len) := by
  have h1 := List.all_eq_true.mp hM.2.1 _ (List.mem_of_getElem? h)
  simp only [Bool.and_eq_true, decide_eq_true_eq] at h1
  exact h1.1
