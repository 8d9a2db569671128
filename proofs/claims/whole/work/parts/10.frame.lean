/-! THE FRAME RULE: a contract over a few cells holds over any world that has them, at places rh -/
def xr (rh : List Nat) (i : Nat) : Nat := rh.getD i i
theorem xt_comp (f g : Nat → Nat) (v : Value) : xt f (xt g v) = xt (fun i => f (g i)) v := by cases v <;> rfl
theorem xe_comp (cy : Nat → ClassId) (f g : Nat → Nat) (e : va_E) : xe cy f (xe (fun k => k) g e) = xe cy (fun i => f (g i)) e := by
  cases e with
  | inl x =>
    obtain ⟨k, n, a⟩ := x
    simp only [xe, Sum.inl.injEq, Prod.mk.injEq, true_and]
    rcases a with f1 | f2 | f3 | f4 | f5 <;> simp [xa, Function.comp_def]
  | inr o =>
    obtain ⟨ci, fs⟩ := o
    simp [xe, xt_comp, Function.comp_def]
def xgr (g : Nat → Nat) : List va_E → List Nat → List va_E → List va_E
  | w, i :: is, e :: es => xgr g (w.set i (xe (fun k => k) g e)) is es
  | w, _, _ => w
theorem xgr_len (g : Nat → Nat) : ∀ (is : List Nat) (w es : List va_E), (xgr g w is es).length = w.length
  | [], w, es => by cases es <;> rfl
  | i :: is, w, [] => rfl
  | i :: is, w, e :: es => by simp only [xgr]; rw [xgr_len g is]; simp
theorem xgr_out (g : Nat → Nat) (k : Nat) : ∀ (is : List Nat) (w es : List va_E), k ∉ is → (xgr g w is es)[k]? = w[k]?
  | [], w, es, _ => by cases es <;> rfl
  | i :: is, w, [], _ => rfl
  | i :: is, w, e :: es, h => by
    simp only [List.mem_cons, not_or] at h
    simp only [xgr]
    rw [xgr_out g k is _ es h.2, List.getElem?_set_ne (fun q => h.1 q.symm)]
theorem xgr_in (g : Nat → Nat) (k : Nat) : ∀ (is : List Nat) (w es : List va_E) (j : Nat) (e : va_E), va_nd is = true → is[j]? = some k → es[j]? = some e → k < w.length → (xgr g w is es)[k]? = some (xe (fun k => k) g e)
  | [], w, es, j, e, _, h, _, _ => by simp at h
  | i :: is, w, [], j, e, _, _, h, _ => by simp at h
  | i :: is, w, e1 :: es, j, e, hn, h1, h2, hk => by
    simp only [xgr]
    match j, h1, h2 with
    | 0, h1, h2 =>
      simp only [List.getElem?_cons_zero, Option.some.injEq] at h1 h2
      subst h1; subst h2
      rw [xgr_out g i is _ es]
      · rw [List.getElem?_set_self hk]
      · intro hm
        obtain ⟨j, hj⟩ := List.getElem?_of_mem hm
        have := va_nd_inj (i :: is) hn 0 (j + 1) i rfl (by simpa using hj)
        omega
    | j + 1, h1, h2 =>
      simp only [List.getElem?_cons_succ] at h1 h2
      refine xgr_in g k is _ es j e ?_ h1 h2 (by simpa using hk)
      simp only [va_nd, Bool.and_eq_true] at hn
      exact hn.2
theorem xw_inv {cy : Nat → ClassId} {ad : Nat → Nat} {w : List va_E} {k : Nat} {q : Nat × va_E} (h : (xw cy ad w)[k]? = some q) : ∃ e, w[k]? = some e ∧ q = (ad k, xe cy ad e) := by
  simp only [xw, List.getElem?_mapIdx, Option.map_eq_some_iff] at h
  obtain ⟨e, h1, h2⟩ := h
  exact ⟨e, h1, h2.symm⟩
theorem xr_sub {rh : List Nat} {w wsub : List va_E} (hs : rh.map (fun i => w[i]?) = wsub.map (fun e => some (xe (fun k => k) (xr rh) e))) {k : Nat} {e : va_E} (h : wsub[k]? = some e) : rh[k]? = some (xr rh k) ∧ w[xr rh k]? = some (xe (fun k => k) (xr rh) e) := by
  have h1 : (rh.map (fun i => w[i]?))[k]? = some (some (xe (fun k => k) (xr rh) e)) := by rw [hs, List.getElem?_map, h]; rfl
  rw [List.getElem?_map] at h1
  cases hi : rh[k]? with
  | none => rw [hi] at h1; cases h1
  | some i =>
    rw [hi] at h1
    have hx : xr rh k = i := by simp [xr, List.getD_eq_getElem?_getD, hi]
    rw [hx]
    exact ⟨rfl, Option.some.inj h1⟩
theorem Co.frame {M : XM} {d : Nat} {av : List Value} {wsub w : List va_E} {Q : Option Value → List va_E → Prop} (rh : List Nat) (h : Co M d 0 0 av wsub Q)
    (hs : rh.map (fun i => w[i]?) = wsub.map (fun e => some (xe (fun k => k) (xr rh) e))) (hn : va_nd rh = true) (hlr : rh.length ≤ 1000000 := by exact Nat.le_of_ble_eq_true rfl) :
    Co M d 0 0 (av.map (xt (xr rh))) w (fun r w' => ∃ (r0 : Option Value) (w0 : List va_E), Q r0 w0 ∧ r = r0.map (xt (xr rh)) ∧ w' = xgr (xr rh) w rh w0) := by
  intro l D cy ad sz
  have hlen : rh.length = wsub.length := by have := congrArg List.length hs; simpa using this
  have hA : ∀ q, va_A (xw cy (fun i => ad (xr rh i)) wsub) sz q → va_A (xw cy ad w) sz q := by
    intro q hq
    rcases hq with ⟨k, e, hk⟩ | hq
    · obtain ⟨e1, h1, h2⟩ := xw_inv hk
      cases h2
      exact Or.inl ⟨xr rh k, _, xw_at (xr_sub hs h1).2⟩
    · exact Or.inr hq
  refine Jvm.Free.MetFree.mono (h l D cy (fun i => ad (xr rh i)) sz) ?_ (fun _ _ _ _ _ h => h) ?_
  · rintro a s ⟨rfl, hsz, hP, hK, hD, hN⟩
    refine ⟨by simp [Function.comp_def, xt_comp], hsz, fun k q hk => ?_, hK, ⟨fun i j p q hi hj hpq => ?_, fun _ _ _ => trivial⟩, (hN.narrow hA).ad (fun i hi => ?_)⟩
    · obtain ⟨e1, h1, rfl⟩ := xw_inv hk
      have h3 := hP _ _ (xw_at (xr_sub hs h1).2)
      rw [xe_comp] at h3
      exact h3
    · obtain ⟨e1, h1, rfl⟩ := xw_inv hi
      obtain ⟨e2, h2, rfl⟩ := xw_inv hj
      have a1 := xr_sub hs h1
      have a2 := xr_sub hs h2
      have := hD.1 _ _ _ _ (xw_at a1.2) (xw_at a2.2) hpq
      exact va_nd_inj rh hn i j (xr rh i) a1.1 (by rw [this]; exact a2.1)
    · show ad (xr rh i) = ad i
      unfold xr
      rw [List.getD_eq_getElem?_getD, List.getElem?_eq_none (by omega)]
      rfl
  · rintro a s o t ⟨rfl, hsz, hP, hK, hD, hN⟩ ⟨⟨⟨r, w', ad', ho, hq, hG, hw', hP', hK', hD'⟩, hF⟩, L, hL1, hL2⟩
    have had : ad' = fun i => ad (xr rh i) := hG.1 rfl
    subst had
    refine ⟨⟨⟨r.map (xt (xr rh)), xgr (xr rh) w rh w', ad, ?_, ⟨r, w', hq, rfl, rfl⟩, ⟨fun _ => rfl, fun _ _ => rfl⟩, ?_, ?_, hK', ?_⟩, hF.1, fun q h1 h2 => hF.2 q h1 (fun h3 => h2 (hA q h3))⟩, L, hL1, fun q hq => hA _ (hL2 q hq)⟩
    · rw [ho]
      cases r <;> simp [xt_comp]
    · rw [xgr_len]
      exact Nat.le_refl _
    · intro k q hk
      obtain ⟨e1, h1, rfl⟩ := xw_inv hk
      have hkl : k < w.length := by
        have := (List.getElem?_eq_some_iff.mp h1).1
        rwa [xgr_len] at this
      by_cases hm : k ∈ rh
      · obtain ⟨j, hj⟩ := List.getElem?_of_mem hm
        have hjl : j < w'.length := by
          have := (List.getElem?_eq_some_iff.mp hj).1
          omega
        have hjx : xr rh j = k := by simp [xr, List.getD_eq_getElem?_getD, hj]
        have h2 := xgr_in (xr rh) k rh w w' j w'[j] hn hj (List.getElem?_eq_getElem hjl) hkl
        rw [h1] at h2
        cases h2
        have h3 := hP' j _ (xw_at (List.getElem?_eq_getElem hjl))
        rw [hjx] at h3
        rw [xe_comp]
        exact h3
      · rw [xgr_out _ _ _ _ _ hm] at h1
        have h2 := hP k _ (xw_at h1)
        refine va_at.kept h2 (hF.2 _ ?_ ?_)
        · exact h2.lt
        · intro h3
          rcases h3 with ⟨j, e, hj⟩ | h3
          · obtain ⟨e2, h4, h5⟩ := xw_inv hj
            have e6 : ad k = ad (xr rh j) := congrArg Prod.fst h5
            have a1 := xr_sub hs h4
            have := hD.1 _ _ _ _ (xw_at h1) (xw_at a1.2) e6
            exact hm (this ▸ List.mem_of_getElem? a1.1)
          · have := h2.lt
            rw [hsz] at this
            exact absurd h3 (Nat.not_le.mpr this)
    · refine ⟨fun i j p q hi hj hpq => ?_, fun k q hk => ?_⟩
      · obtain ⟨e1, h1, rfl⟩ := xw_inv hi
        obtain ⟨e2, h2, rfl⟩ := xw_inv hj
        have hil : i < w.length := by
          have := (List.getElem?_eq_some_iff.mp h1).1
          rwa [xgr_len] at this
        have hjl : j < w.length := by
          have := (List.getElem?_eq_some_iff.mp h2).1
          rwa [xgr_len] at this
        exact hD.1 i j _ _ (xw_at (List.getElem?_eq_getElem hil)) (xw_at (List.getElem?_eq_getElem hjl)) hpq
      · obtain ⟨e1, h1, rfl⟩ := xw_inv hk
        have hkl : k < w.length := by
          have := (List.getElem?_eq_some_iff.mp h1).1
          rwa [xgr_len] at this
        exact Or.inl ⟨k, _, xw_at (List.getElem?_eq_getElem hkl)⟩
theorem Co.imp {M : XM} {d mc ms : Nat} {av : List Value} {w : List va_E} {Q Q' : Option Value → List va_E → Prop} (h : Co M d mc ms av w Q) (hQ : ∀ r w', Q r w' → Q' r w') : Co M d mc ms av w Q' := by
  intro l D cy ad sz
  refine Jvm.Free.MetFree.mono (h l D cy ad sz) (fun _ _ h => h) (fun _ _ _ _ _ h => h) ?_
  rintro a s o t - ⟨⟨⟨r, w', ad', ho, hq, h2⟩, hF⟩, hL⟩
  exact ⟨⟨⟨r, w', ad', ho, hQ _ _ hq, h2⟩, hF⟩, hL⟩
