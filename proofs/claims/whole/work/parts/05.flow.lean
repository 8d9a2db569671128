section
variable {M : XM} {d : Nat} {Q : Option Value → List va_E → Prop} {z : Nat × Nat × Nat × Nat} {pc : Nat} {lv : List (Nat × Value)} {st : List Value} {w : List va_E}
theorem ww_icmp_eq (a : Nat) {x y : Int32} {off : Int} {tgt : Nat} (hq : M.2.2.2.2.1[a]? = some (pc, .if_icmp .eq off, 3)) (ht : (pc : Int) + off = (tgt : Int)) (kt : x = y → WW M d Q z tgt lv st w) (kf : ¬ x = y → WW M d Q z (pc + 3) lv st w) : WW M d Q z pc lv (.int y :: .int x :: st) w := by
  intro hM p l e s m args below meth c D cy A n0 ad0 C ad H locs ls X
  exact lv_icmp_eq C.1 C.2.1 (xpc hM hq) ht (fun h => kt h hM C X) (fun h => kf h hM C X)
theorem ww_if_eq (a : Nat) {x : Int32} {off : Int} {tgt : Nat} (hq : M.2.2.2.2.1[a]? = some (pc, .ifCond .eq off, 3)) (ht : (pc : Int) + off = (tgt : Int)) (kt : x = 0 → WW M d Q z tgt lv st w) (kf : ¬ x = 0 → WW M d Q z (pc + 3) lv st w) : WW M d Q z pc lv (.int x :: st) w := by
  intro hM p l e s m args below meth c D cy A n0 ad0 C ad H locs ls X
  exact lv_if_eq C.1 C.2.1 (xpc hM hq) ht (fun h => kt h hM C X) (fun h => kf h hM C X)
theorem ww_icmp_ne (a : Nat) {x y : Int32} {off : Int} {tgt : Nat} (hq : M.2.2.2.2.1[a]? = some (pc, .if_icmp .ne off, 3)) (ht : (pc : Int) + off = (tgt : Int)) (kt : ¬ x = y → WW M d Q z tgt lv st w) (kf : x = y → WW M d Q z (pc + 3) lv st w) : WW M d Q z pc lv (.int y :: .int x :: st) w := by
  intro hM p l e s m args below meth c D cy A n0 ad0 C ad H locs ls X
  exact lv_icmp_ne C.1 C.2.1 (xpc hM hq) ht (fun h => kt h hM C X) (fun h => kf h hM C X)
theorem ww_if_ne (a : Nat) {x : Int32} {off : Int} {tgt : Nat} (hq : M.2.2.2.2.1[a]? = some (pc, .ifCond .ne off, 3)) (ht : (pc : Int) + off = (tgt : Int)) (kt : ¬ x = 0 → WW M d Q z tgt lv st w) (kf : x = 0 → WW M d Q z (pc + 3) lv st w) : WW M d Q z pc lv (.int x :: st) w := by
  intro hM p l e s m args below meth c D cy A n0 ad0 C ad H locs ls X
  exact lv_if_ne C.1 C.2.1 (xpc hM hq) ht (fun h => kt h hM C X) (fun h => kf h hM C X)
theorem ww_icmp_lt (a : Nat) {x y : Int32} {off : Int} {tgt : Nat} (hq : M.2.2.2.2.1[a]? = some (pc, .if_icmp .lt off, 3)) (ht : (pc : Int) + off = (tgt : Int)) (kt : x < y → WW M d Q z tgt lv st w) (kf : ¬ x < y → WW M d Q z (pc + 3) lv st w) : WW M d Q z pc lv (.int y :: .int x :: st) w := by
  intro hM p l e s m args below meth c D cy A n0 ad0 C ad H locs ls X
  exact lv_icmp_lt C.1 C.2.1 (xpc hM hq) ht (fun h => kt h hM C X) (fun h => kf h hM C X)
theorem ww_if_lt (a : Nat) {x : Int32} {off : Int} {tgt : Nat} (hq : M.2.2.2.2.1[a]? = some (pc, .ifCond .lt off, 3)) (ht : (pc : Int) + off = (tgt : Int)) (kt : x < 0 → WW M d Q z tgt lv st w) (kf : ¬ x < 0 → WW M d Q z (pc + 3) lv st w) : WW M d Q z pc lv (.int x :: st) w := by
  intro hM p l e s m args below meth c D cy A n0 ad0 C ad H locs ls X
  exact lv_if_lt C.1 C.2.1 (xpc hM hq) ht (fun h => kt h hM C X) (fun h => kf h hM C X)
theorem ww_icmp_ge (a : Nat) {x y : Int32} {off : Int} {tgt : Nat} (hq : M.2.2.2.2.1[a]? = some (pc, .if_icmp .ge off, 3)) (ht : (pc : Int) + off = (tgt : Int)) (kt : y ≤ x → WW M d Q z tgt lv st w) (kf : ¬ y ≤ x → WW M d Q z (pc + 3) lv st w) : WW M d Q z pc lv (.int y :: .int x :: st) w := by
  intro hM p l e s m args below meth c D cy A n0 ad0 C ad H locs ls X
  exact lv_icmp_ge C.1 C.2.1 (xpc hM hq) ht (fun h => kt h hM C X) (fun h => kf h hM C X)
theorem ww_if_ge (a : Nat) {x : Int32} {off : Int} {tgt : Nat} (hq : M.2.2.2.2.1[a]? = some (pc, .ifCond .ge off, 3)) (ht : (pc : Int) + off = (tgt : Int)) (kt : 0 ≤ x → WW M d Q z tgt lv st w) (kf : ¬ 0 ≤ x → WW M d Q z (pc + 3) lv st w) : WW M d Q z pc lv (.int x :: st) w := by
  intro hM p l e s m args below meth c D cy A n0 ad0 C ad H locs ls X
  exact lv_if_ge C.1 C.2.1 (xpc hM hq) ht (fun h => kt h hM C X) (fun h => kf h hM C X)
theorem ww_icmp_gt (a : Nat) {x y : Int32} {off : Int} {tgt : Nat} (hq : M.2.2.2.2.1[a]? = some (pc, .if_icmp .gt off, 3)) (ht : (pc : Int) + off = (tgt : Int)) (kt : y < x → WW M d Q z tgt lv st w) (kf : ¬ y < x → WW M d Q z (pc + 3) lv st w) : WW M d Q z pc lv (.int y :: .int x :: st) w := by
  intro hM p l e s m args below meth c D cy A n0 ad0 C ad H locs ls X
  exact lv_icmp_gt C.1 C.2.1 (xpc hM hq) ht (fun h => kt h hM C X) (fun h => kf h hM C X)
theorem ww_if_gt (a : Nat) {x : Int32} {off : Int} {tgt : Nat} (hq : M.2.2.2.2.1[a]? = some (pc, .ifCond .gt off, 3)) (ht : (pc : Int) + off = (tgt : Int)) (kt : 0 < x → WW M d Q z tgt lv st w) (kf : ¬ 0 < x → WW M d Q z (pc + 3) lv st w) : WW M d Q z pc lv (.int x :: st) w := by
  intro hM p l e s m args below meth c D cy A n0 ad0 C ad H locs ls X
  exact lv_if_gt C.1 C.2.1 (xpc hM hq) ht (fun h => kt h hM C X) (fun h => kf h hM C X)
theorem ww_icmp_le (a : Nat) {x y : Int32} {off : Int} {tgt : Nat} (hq : M.2.2.2.2.1[a]? = some (pc, .if_icmp .le off, 3)) (ht : (pc : Int) + off = (tgt : Int)) (kt : x ≤ y → WW M d Q z tgt lv st w) (kf : ¬ x ≤ y → WW M d Q z (pc + 3) lv st w) : WW M d Q z pc lv (.int y :: .int x :: st) w := by
  intro hM p l e s m args below meth c D cy A n0 ad0 C ad H locs ls X
  exact lv_icmp_le C.1 C.2.1 (xpc hM hq) ht (fun h => kt h hM C X) (fun h => kf h hM C X)
theorem ww_if_le (a : Nat) {x : Int32} {off : Int} {tgt : Nat} (hq : M.2.2.2.2.1[a]? = some (pc, .ifCond .le off, 3)) (ht : (pc : Int) + off = (tgt : Int)) (kt : x ≤ 0 → WW M d Q z tgt lv st w) (kf : ¬ x ≤ 0 → WW M d Q z (pc + 3) lv st w) : WW M d Q z pc lv (.int x :: st) w := by
  intro hM p l e s m args below meth c D cy A n0 ad0 C ad H locs ls X
  exact lv_if_le C.1 C.2.1 (xpc hM hq) ht (fun h => kt h hM C X) (fun h => kf h hM C X)
theorem ww_lv (ks : List Nat) {lv' : List (Nat × Value)} (h : lv_pick lv ks = lv') (kk : WW M d Q z pc lv' st w) : WW M d Q z pc lv st w := by
  intro hM p l e s m args below meth c D cy A n0 ad0 C ad H locs ls X
  obtain ⟨hP, hD, hS, hl, hG⟩ := X
  refine kk hM C ⟨hP, hD, hS, lv_sub hl ks ?_, hG⟩
  rw [← h]
  simp only [lv_pick, xl, List.map_filterMap, List.getElem?_map]
theorem ww_topi {x : Int32} (y : Int32) (h : x = y) (kk : WW M d Q z pc lv (.int y :: st) w) : WW M d Q z pc lv (.int x :: st) w := h ▸ kk
theorem ww_fin {r : Option Value} {D : va_G} {cy : Nat → ClassId} {A : Nat → Prop} {n0 : Nat} {ad0 ad : Nat → Nat} {s t : State} {args : Array Value} {H : Heap} {locs : List Loc} {ls : Array Slot} (hq : Q r w) (hK : va_K D vwCl (xty cy) s) (X : XH M z s D cy A n0 ad0 ad lv w H locs ls) (ht : t.heap = H) (hW : s.WarmedH t.vm) : XQ D cy z.1 n0 ad0 A Q args s (.returned (r.map (xt ad))) t :=
  ⟨⟨r, w, ad, rfl, hq, X.2.2.2.2.1.1, X.2.2.2.2.2.1, by rw [ht]; exact X.1, va_K.moved hW.alike hK, X.2.1⟩, X.2.2.1.F ht⟩
theorem ww_iret (a : Nat) {v : Int32} (hq : M.2.2.2.2.1[a]? = some (pc, .ireturn, 1)) (hr : M.2.2.2.1 = some .int) (h : Q (some (.int v)) w) : WW M d Q z pc lv [.int v] w := by
  intro hM p l e s m args below meth c D cy A n0 ad0 C ad H locs ls X
  obtain ⟨hx, hb, hr2, hlk, hml, hown, hts, hK, hA, hnm, hmt⟩ := id C
  refine W.widen X.2.2.2.2.2.2.1 X.2.2.2.2.2.2.2 ?_
  exact W.iret (v := v) hx hb (hr2.trans hr) (fun t ht hW => ww_fin (r := some (.int v)) h hK X ht hW) X.2.2.1.2.2 (xpc hM hq) hlk
theorem ww_zret (a : Nat) {v : Int32} {ty : FieldType} (hq : M.2.2.2.2.1[a]? = some (pc, .ireturn, 1)) (hr : M.2.2.2.1 = some ty) (hn : narrow ty (.int v) = .int v) (h : Q (some (.int v)) w) : WW M d Q z pc lv [.int v] w := by
  intro hM p l e s m args below meth c D cy A n0 ad0 C ad H locs ls X
  obtain ⟨hx, hb, hr2, hlk, hml, hown, hts, hK, hA, hnm, hmt⟩ := id C
  refine W.widen X.2.2.2.2.2.2.1 X.2.2.2.2.2.2.2 ?_
  exact W.zret (v := v) hx hb (hr2.trans hr) hn (fun t ht hW => ww_fin (r := some (.int v)) h hK X ht hW) X.2.2.1.2.2 (xpc hM hq) hlk
theorem ww_lret (a : Nat) {v : Int64} (hq : M.2.2.2.2.1[a]? = some (pc, .lreturn, 1)) (hr : M.2.2.2.1 = some .long) (h : Q (some (.long v)) w) : WW M d Q z pc lv [.long v] w := by
  intro hM p l e s m args below meth c D cy A n0 ad0 C ad H locs ls X
  obtain ⟨hx, hb, hr2, hlk, hml, hown, hts, hK, hA, hnm, hmt⟩ := id C
  refine W.widen X.2.2.2.2.2.2.1 X.2.2.2.2.2.2.2 ?_
  exact W.lret (v := v) hx hb (hr2.trans hr) (fun t ht hW => ww_fin (r := some (.long v)) h hK X ht hW) X.2.2.1.2.2 (xpc hM hq) hlk
theorem ww_aret (a : Nat) {v : Nat} {ty : FieldType} (hq : M.2.2.2.2.1[a]? = some (pc, .areturn, 1)) (hr : M.2.2.2.1 = some ty) (hrt : (∃ n, ty = .object n) ∨ ∃ t, ty = .array t) (h : Q (some (.ref v)) w) : WW M d Q z pc lv [.ref v] w := by
  intro hM p l e s m args below meth c D cy A n0 ad0 C ad H locs ls X
  obtain ⟨hx, hb, hr2, hlk, hml, hown, hts, hK, hA, hnm, hmt⟩ := id C
  refine W.widen X.2.2.2.2.2.2.1 X.2.2.2.2.2.2.2 ?_
  exact W.aret (v := .ref (ad v)) hx hb (hr2.trans hr) hrt (Or.inr ⟨_, rfl⟩) (fun t ht hW => ww_fin (r := some (.ref v)) h hK X ht hW) X.2.2.1.2.2 (xpc hM hq) hlk
theorem ww_vret (a : Nat) (hq : M.2.2.2.2.1[a]? = some (pc, .return_, 1)) (hr : M.2.2.2.1 = none) (h : Q none w) : WW M d Q z pc lv [] w := by
  intro hM p l e s m args below meth c D cy A n0 ad0 C ad H locs ls X
  obtain ⟨hx, hb, hr2, hlk, hml, hown, hts, hK, hA, hnm, hmt⟩ := id C
  refine W.widen X.2.2.2.2.2.2.1 X.2.2.2.2.2.2.2 ?_
  exact W.vret hx hb (hr2.trans hr) (fun t ht hW => ww_fin (r := none) h hK X ht hW) X.2.2.1.2.2 (xpc hM hq) hlk
end
/-- what the tables must say of a call: virtual, static -/
def okV (own : String) (idx : Nat) (y : MethodName) (n : Nat) : Bool := mb (.methodLink own idx y) && (mb (.instanceMethod y) && (mb (.selects y.cls y y) && (mb (.initialized y.cls) && (decide (y.cls ≠ "java/lang/invoke/MethodHandle") && (decide (y.cls ≠ "java/lang/invoke/VarHandle") && decide ((parseMethodDescriptor y.desc).map (fun d => d.parameters.length) = some n))))))
def okS (own : String) (idx : Nat) (y : MethodName) (n : Nat) : Bool := mb (.methodLink own idx y) && (mb (.static y) && (mb (.initialized y.cls) && (decide (y.cls ≠ "java/lang/invoke/MethodHandle") && (decide (y.cls ≠ "java/lang/invoke/VarHandle") && decide ((parseMethodDescriptor y.desc).map (fun d => d.parameters.length) = some n)))))
/-- which values stay the same while cells come: their references are below n -/
def xsc (n : Nat) (v : Value) : Bool := match v with
  | .ref i => Nat.ble (i + 1) n
  | _ => true
theorem xsc_eq {n : Nat} {ad ad' : Nat → Nat} (h : ∀ i, i < n → ad' i = ad i) {v : Value} (hv : xsc n v = true) : xt ad' v = xt ad v := by
  cases v with
  | ref i => simp only [xt]; rw [h i (Nat.le_of_ble_eq_true hv)]
  | _ => rfl
theorem xsc_st {n : Nat} {ad ad' : Nat → Nat} (h : ∀ i, i < n → ad' i = ad i) {st : List Value} (hv : st.all (xsc n) = true) : st.map (xt ad') = st.map (xt ad) :=
  List.map_congr_left (fun v hm => xsc_eq h (List.all_eq_true.mp hv v hm))
theorem xsc_lv {n : Nat} {ad ad' : Nat → Nat} (h : ∀ i, i < n → ad' i = ad i) {lv : List (Nat × Value)} (hv : lv.all (fun q => xsc n q.2) = true) : xl ad' lv = xl ad lv :=
  List.map_congr_left (fun q hm => by rw [xsc_eq h (List.all_eq_true.mp hv q hm)])
section
variable {M M' : XM} {d d' mc ms : Nat} {Q Q' : Option Value → List va_E → Prop} {z : Nat × Nat × Nat × Nat} {pc : Nat} {lv : List (Nat × Value)} {rest av : List Value} {w : List va_E}
theorem ww_back {p : Program} {l : Launch} {e : Env} {s : State} {m : MethodId} {args : Array Value} {below : List Frame} {meth : Method} {c : Code} {D : va_G} {cy : Nat → ClassId} {A : Nat → Prop} {n0 : Nat} {ad0 ad : Nat → Nat} {H : Heap} {locs : List Loc} {ls : Array Slot} {st : List Value} {ar : Array Value}
    (hM : okM M) (C : XC M z p s m args meth c D cy A) (X : XH M z s D cy A n0 ad0 ad lv w H locs ls) (hcl : z.2.2.1 + mc ≤ z.1) (hsl : z.2.2.2 + ms ≤ z.2.1) (hsc : mc = 0 ∨ (rest.all (xsc w.length) = true ∧ lv.all (fun q => xsc w.length q.2) = true))
    (hr : va_Run p l e (xrm d z.1 z.2.1) s m args below meth c H locs z.2.2.1 z.2.2.2 mc ms (F0 m pc ls st) (rest.map (xt ad)) (XQ D cy mc w.length ad (va_A (xw cy ad w) H.size) Q' ar) (va_A (xw cy ad w) H.size))
    (kk : ∀ (r : Option Value) (w' : List va_E), Q' r w' → WW M d Q (z.1, z.2.1, z.2.2.1 + mc, z.2.2.2 + ms) (pc + 3) lv (r.toList ++ rest) w') :
    W p l e (xrm d z.1 z.2.1) s m args below meth c H locs z.2.2.1 z.2.2.2 (MQ below (XQ D cy z.1 n0 ad0 A Q) args s z.1 z.2.1 A) (F0 m pc ls st) := by
  obtain ⟨hx, hb, hr2, hlk, hml, hown, hts, hK, hA, hnm, hmt⟩ := id C
  obtain ⟨hP, hD, hS, hlv, hG, hn0, hz1, hz2⟩ := X
  have hFc : ∀ q, va_A (xw cy ad w) H.size q → A q := by
    intro q hq
    rcases hq with ⟨k, e, hk⟩ | hq
    · exact hD.2 k (q, e) hk
    · exact hA q (Nat.le_trans hS.1 hq)
  intro T hT X0
  obtain ⟨v, st₀, t, T', L, h0, X', hL, e1, e2, ⟨⟨r, w', ad', hv, hq, hG', hn', hP', hK', hD'⟩, hz, hk⟩, stp⟩ := hr T hT X0
  have hv2 : v = r.map (xt ad') := by cases hv; rfl
  subst hv2
  rw [h0] at hz hk
  have had : ∀ i, i < w.length → ad' i = ad i := fun i hi => hG'.2 i (Or.inl hi)
  have hrest : rest.map (xt ad') = rest.map (xt ad) := by
    rcases hsc with h | h
    · rw [hG'.1 h]
    · exact xsc_st had h.1
  have hlv' : xl ad' lv = xl ad lv := by
    rcases hsc with h | h
    · rw [hG'.1 h]
    · exact xsc_lv had h.2
  have hS' : va_S A s.heap t.heap (locs ++ L) := by
    refine ⟨Nat.le_trans hS.1 hz, fun q h1 h2 => ?_, fun q hq => ?_⟩
    · rw [hk q (Nat.lt_of_lt_of_le h1 hS.1) (fun z => h2 (hFc q z))]
      exact hS.2.1 q h1 h2
    · rcases List.mem_append.mp hq with h | h
      · exact hS.2.2 q h
      · exact hFc _ (hL q h)
  have hGn : XG z.1 n0 ad0 ad' := by
    refine ⟨fun h => ?_, fun i hi => ?_⟩
    · have : mc = 0 := by omega
      rw [hG'.1 this]
      exact hG.1.1 h
    · rw [hG'.2 i (hi.imp (fun h => Nat.lt_of_lt_of_le h hn0) id)]
      exact hG.1.2 i hi
  have hal : s.vm.Alike t.vm := by rw [← e2]; exact X'.warmed.alike
  obtain ⟨t2, a1, b1⟩ := kk r w' hq hM (l := l) (e := e) (below := below) (n0 := n0) (ad0 := ad0) C (ad := ad') (H := t.heap) (locs := locs ++ L) (ls := ls) ⟨hP', hD'.weaken (fun _ q _ h => hFc q.1 h), hS', by rw [hlv']; exact hlv, ⟨hGn, hG.2.ad (fun i hi => hG'.2 i (Or.inr hi))⟩, Nat.le_trans hn0 hn', hcl, hsl⟩ T' e1 X'
  refine ⟨t2, stp t2 ?_, b1⟩
  have he : (r.map (xt ad')).toList ++ rest.map (xt ad) = (r.toList ++ rest).map (xt ad') := by
    rw [← hrest]
    cases r <;> simp
  rw [he]
  exact a1
theorem xw_pre {D : va_G} {cy : Nat → ClassId} {ad : Nat → Nat} {s : State} {A : Nat → Prop} {H : Heap} {locs : List Loc} (hP : va_P D vwCl (xw cy ad w) H) (hK : va_K D vwCl (xty cy) s) (hD : va_D A (xw cy ad w)) (hS : va_S A s.heap H locs) (hA : ∀ q, s.heap.size ≤ q → A q) (hN : XN A ad s) : FrameBlind (va_Pc (av.map (xt ad)) (fun U => U.heap.size = H.size ∧ va_P D vwCl (xw cy ad w) U.heap ∧ va_K D vwCl (xty cy) U ∧ va_D (fun _ => True) (xw cy ad w) ∧ XN (va_A (xw cy ad w) H.size) ad U)) ∧ ∀ U : State, U.heap = H → s.WarmedH U.vm → (va_Pc (av.map (xt ad)) (fun U => U.heap.size = H.size ∧ va_P D vwCl (xw cy ad w) U.heap ∧ va_K D vwCl (xty cy) U ∧ va_D (fun _ => True) (xw cy ad w) ∧ XN (va_A (xw cy ad w) H.size) ad U)) (av.map (xt ad)).toArray U :=
  ⟨fun a U g mk q => by obtain ⟨q0, q1, qP, qK, qD, qN⟩ := q; exact ⟨q0, q1, qP, va_K.moved (u := U) (U := U.calling g mk a) (Vm.Alike.refl U.vm) qK, qD, qN.blind rfl rfl⟩,
   fun U hU hW => ⟨rfl, by rw [hU], by rw [hU]; exact hP, va_K.moved hW.alike hK, hD.weaken (fun _ _ _ _ => trivial), hN.go (fun q hq => by
      rcases hq with ⟨k, e, hk⟩ | hq
      · exact hD.2 k (q, e) hk
      · exact hA q (Nat.le_trans hS.1 hq)) (fun a h1 h2 => by rw [hU]; exact hS.2.1 a h1 h2) hW⟩⟩
theorem xws_good {M : XM} (hM : okM M) : GoodIn bigw (xws M) := good_in (fun w hw => by
  rcases List.mem_cons.mp hw with h | h
  · rw [h]; exact hM.2.2.1
  · exact h)
theorem ww_callV (a : Nat) {b ci idx n : Nat} {fs : List Value} (hM' : okM M') (hc : Co M' d' mc ms (.ref b :: av) w Q') (hok : okV M.2.2.2.2.2.1 idx M'.1 n = true) (hn : av.length = n) (hcl : z.2.2.1 + mc ≤ z.1) (hsl : z.2.2.2 + ms ≤ z.2.1) (hsc : mc = 0 ∨ (rest.all (xsc w.length) = true ∧ lv.all (fun q => xsc w.length q.2) = true))
    (hd : d' + 1 ≤ d) {st : List Value} (hst : st = av.reverse ++ .ref b :: rest) (hrm : (rest.map fun v => v.category).sum ≤ 8) (hb : w[b]? = some (.inr (ci, fs))) {r : vw_C} (hci : vwCl[ci]? = some r) (hcls : r.1 = M'.1.cls) (hq : M.2.2.2.2.1[a]? = some (pc, .invokevirtual idx, 3))
    (kk : ∀ (r : Option Value) (w' : List va_E), Q' r w' → WW M d Q (z.1, z.2.1, z.2.2.1 + mc, z.2.2.2 + ms) (pc + 3) lv (r.toList ++ rest) w') : WW M d Q z pc lv st w := by
  subst hst
  intro hM p l e s m args below meth c D cy A n0 ad0 C ad H locs ls X
  obtain ⟨hx, hbb, hr2, hlk, hml, hown, hts, hK, hA, hnm, hmt⟩ := id C
  simp only [okV, Bool.and_eq_true, decide_eq_true_eq] at hok
  obtain ⟨o1, o2, o3, o4, o5, o6, o7⟩ := hok
  have hpre := xw_pre (av := .ref b :: av) X.1 hK X.2.1 X.2.2.1 hA X.2.2.2.2.1.2
  refine ww_back hM C X hcl hsl hsc (ar := ((Value.ref b :: av).map (xt ad)).toArray) ?_ kk
  refine va_runV (own := M.2.2.2.2.2.1) (C := M'.1.cls) (Ts := bigw) (As := av.map (xt ad)) (b := ad b) (nL := M.2.2.1) (cc := M.2.1) ⟨hx, hbb, hml, hown, hts⟩ (hc l D cy ad H.size) (index := idx) (n := n) (bytes := M'.2.1) (maxL := M'.2.2.1) (ret := M'.2.2.2.1)
    ⟨callB_of (ws' := bigw) n hts (xws_good hM') rfl rfl rfl (hts _ (mb_in o4)) (hts _ (mb_in o1)) ⟨o5, o6, o7⟩ ⟨hd, ?_⟩, hts _ (mb_in o2), hts _ (mb_in o3)⟩
    ⟨hpre.1, ?_, hpre.2⟩ rfl (by rw [List.length_map]; exact hn) X.2.2.2.1.1 (by simp [xt]) (lv_room (by simpa [Function.comp_def, xt_cat] using hrm)) (xpc hM hq) ⟨hcl, hsl⟩
  · have := hM'.2.2.2.2.2
    show 8 + (M'.2.2.1 + 11) + 64 * d' ≤ 64 * d
    omega
  · have := va_recv hK X.1 (ci := ci) (q0 := b) hci (xw_at hb)
    rw [hcls] at this
    exact this
theorem ww_callS (a : Nat) {idx n : Nat} (hM' : okM M') (hc : Co M' d' mc ms av w Q') (hok : okS M.2.2.2.2.2.1 idx M'.1 n = true) (hn : av.length = n) (hcl : z.2.2.1 + mc ≤ z.1) (hsl : z.2.2.2 + ms ≤ z.2.1) (hsc : mc = 0 ∨ (rest.all (xsc w.length) = true ∧ lv.all (fun q => xsc w.length q.2) = true))
    (hd : d' + 1 ≤ d) {st : List Value} (hst : st = av.reverse ++ rest) (hrm : (rest.map fun v => v.category).sum ≤ 8) (hq : M.2.2.2.2.1[a]? = some (pc, .invokestatic idx, 3))
    (kk : ∀ (r : Option Value) (w' : List va_E), Q' r w' → WW M d Q (z.1, z.2.1, z.2.2.1 + mc, z.2.2.2 + ms) (pc + 3) lv (r.toList ++ rest) w') : WW M d Q z pc lv st w := by
  subst hst
  intro hM p l e s m args below meth c D cy A n0 ad0 C ad H locs ls X
  obtain ⟨hx, hbb, hr2, hlk, hml, hown, hts, hK, hA, hnm, hmt⟩ := id C
  simp only [okS, Bool.and_eq_true, decide_eq_true_eq] at hok
  obtain ⟨o1, o2, o4, o5, o6, o7⟩ := hok
  have hpre := xw_pre (av := av) X.1 hK X.2.1 X.2.2.1 hA X.2.2.2.2.1.2
  refine ww_back hM C X hcl hsl hsc (ar := (av.map (xt ad)).toArray) ?_ kk
  refine va_runS (own := M.2.2.2.2.2.1) (Ts := bigw) (As := av.map (xt ad)) (nL := M.2.2.1) (cc := M.2.1) ⟨hx, hbb, hml, hown, hts⟩ (hc l D cy ad H.size) (index := idx) (n := n) (bytes := M'.2.1) (maxL := M'.2.2.1) (ret := M'.2.2.2.1)
    ⟨callB_of (ws' := bigw) n hts (xws_good hM') rfl rfl rfl (hts _ (mb_in o4)) (hts _ (mb_in o1)) ⟨o5, o6, o7⟩ ⟨hd, ?_⟩, hts _ (mb_in o2)⟩
    ⟨hpre.1, hpre.2⟩ rfl (by rw [List.length_map]; exact hn) X.2.2.2.1.1 (by simp) (lv_room (by simpa [Function.comp_def, xt_cat] using hrm)) (xpc hM hq) ⟨hcl, hsl⟩
  have := hM'.2.2.2.2.2
  show 8 + (M'.2.2.1 + 11) + 64 * d' ≤ 64 * d
  omega
end
