/-! calls in the law's own frame: one fixed context -/
section
variable {M M' : XM} {d d' mc ms : Nat} {Q Q' : Option Value → List va_E → Prop} {z : Nat × Nat × Nat × Nat} {pc : Nat} {lv : List (Nat × Value)} {rest av : List Value} {w : List va_E}
theorem w_back {p : Program} {l : Launch} {e : Env} {s : State} {m : MethodId} {args : Array Value} {below : List Frame} {meth : Method} {c : Code} {D : va_G} {cy : Nat → ClassId} {A : Nat → Prop} {n0 : Nat} {ad0 ad : Nat → Nat} {H : Heap} {locs : List Loc} {ls : Array Slot} {st : List Value} {ar : Array Value}
    (hM : okM M) (C : XC M z p s m args meth c D cy A) (X : XH M z s D cy A n0 ad0 ad lv w H locs ls) (hcl : z.2.2.1 + mc ≤ z.1) (hsl : z.2.2.2 + ms ≤ z.2.1) (hsc : mc = 0 ∨ (rest.all (xsc w.length) = true ∧ lv.all (fun q => xsc w.length q.2) = true))
    (hr : va_Run p l e (xrm d z.1 z.2.1) s m args below meth c H locs z.2.2.1 z.2.2.2 mc ms (F0 m pc ls st) (rest.map (xt ad)) (XQ D cy mc w.length ad (va_A (xw cy ad w) H.size) Q' ar) (va_A (xw cy ad w) H.size))
    (kk : ∀ (r : Option Value) (w' : List va_E) (ad' : Nat → Nat) (H' : Heap) (locs' : List Loc), Q' r w' → XH M (z.1, z.2.1, z.2.2.1 + mc, z.2.2.2 + ms) s D cy A n0 ad0 ad' lv w' H' locs' ls → W p l e (xrm d z.1 z.2.1) s m args below meth c H' locs' (z.2.2.1 + mc) (z.2.2.2 + ms) (MQ below (XQ D cy z.1 n0 ad0 A Q) args s z.1 z.2.1 A) (F0 m (pc + 3) ls ((r.toList ++ rest).map (xt ad')))) :
    W p l e (xrm d z.1 z.2.1) s m args below meth c H locs z.2.2.1 z.2.2.2 (MQ below (XQ D cy z.1 n0 ad0 A Q) args s z.1 z.2.1 A) (F0 m pc ls st) := by
  obtain ⟨hx, hb, hr2, hlk, hml, hown, hts, hK, hA, hnm, hmt⟩ := id C
  obtain ⟨hP, hD, hS, hlv, hG, hn0, hz1, hz2⟩ := X
  have hFc : ∀ q, va_A (xw cy ad w) H.size q → A q := by
    intro q hq
    rcases hq with ⟨k, e, hk⟩ | hq
    · exact hD.2 k (q, e) hk
    · exact hA q (Nat.le_trans hS.1 hq)
  intro T hT X0
  obtain ⟨v, st₀, t, T', L, h0, X', hL, e1, e2, ⟨⟨r, w', ad', hv, hq, hG', hn', hP', hK', hD'⟩, hz, hk⟩, stp⟩ := hr T hT X0
  have hv2 : v = r.map (xt ad') := by cases hv; rfl
  subst hv2
  rw [h0] at hz hk
  have had : ∀ i, i < w.length → ad' i = ad i := fun i hi => hG'.2 i (Or.inl hi)
  have hrest : rest.map (xt ad') = rest.map (xt ad) := by
    rcases hsc with h | h
    · rw [hG'.1 h]
    · exact xsc_st had h.1
  have hlv' : xl ad' lv = xl ad lv := by
    rcases hsc with h | h
    · rw [hG'.1 h]
    · exact xsc_lv had h.2
  have hS' : va_S A s.heap t.heap (locs ++ L) := by
    refine ⟨Nat.le_trans hS.1 hz, fun q h1 h2 => ?_, fun q hq => ?_⟩
    · rw [hk q (Nat.lt_of_lt_of_le h1 hS.1) (fun z => h2 (hFc q z))]
      exact hS.2.1 q h1 h2
    · rcases List.mem_append.mp hq with h | h
      · exact hS.2.2 q h
      · exact hFc _ (hL q h)
  have hGn : XG z.1 n0 ad0 ad' := by
    refine ⟨fun h => ?_, fun i hi => ?_⟩
    · have : mc = 0 := by omega
      rw [hG'.1 this]
      exact hG.1.1 h
    · rw [hG'.2 i (hi.imp (fun h => Nat.lt_of_lt_of_le h hn0) id)]
      exact hG.1.2 i hi
  have hal : s.vm.Alike t.vm := by rw [← e2]; exact X'.warmed.alike
  obtain ⟨t2, a1, b1⟩ := kk r w' ad' t.heap (locs ++ L) hq ⟨hP', hD'.weaken (fun _ q _ h => hFc q.1 h), hS', by rw [hlv']; exact hlv, ⟨hGn, hG.2.ad (fun i hi => hG'.2 i (Or.inr hi))⟩, Nat.le_trans hn0 hn', hcl, hsl⟩ T' e1 X'
  refine ⟨t2, stp t2 ?_, b1⟩
  have he : (r.map (xt ad')).toList ++ rest.map (xt ad) = (r.toList ++ rest).map (xt ad') := by
    rw [← hrest]
    cases r <;> simp
  rw [he]
  exact a1
theorem w_callV (a : Nat) {p : Program} {l : Launch} {e : Env} {s : State} {m : MethodId} {args : Array Value} {below : List Frame} {meth : Method} {c : Code} {D : va_G} {cy : Nat → ClassId} {A : Nat → Prop} {n0 : Nat} {ad0 ad : Nat → Nat} {H : Heap} {locs : List Loc} {ls : Array Slot} (hM : okM M) (C : XC M z p s m args meth c D cy A) (X : XH M z s D cy A n0 ad0 ad lv w H locs ls)  {b ci idx n : Nat} {fs : List Value} (hM' : okM M') (hc : Co M' d' mc ms (.ref b :: av) w Q') (hok : okV M.2.2.2.2.2.1 idx M'.1 n = true) (hn : av.length = n) (hcl : z.2.2.1 + mc ≤ z.1) (hsl : z.2.2.2 + ms ≤ z.2.1) (hsc : mc = 0 ∨ (rest.all (xsc w.length) = true ∧ lv.all (fun q => xsc w.length q.2) = true))
    (hd : d' + 1 ≤ d) {st : List Value} (hst : st = av.reverse ++ .ref b :: rest) (hrm : (rest.map fun v => v.category).sum ≤ 8) (hb : w[b]? = some (.inr (ci, fs))) {r : vw_C} (hci : vwCl[ci]? = some r) (hcls : r.1 = M'.1.cls) (hq : M.2.2.2.2.1[a]? = some (pc, .invokevirtual idx, 3))
    (kk : ∀ (r : Option Value) (w' : List va_E) (ad' : Nat → Nat) (H' : Heap) (locs' : List Loc), Q' r w' → XH M (z.1, z.2.1, z.2.2.1 + mc, z.2.2.2 + ms) s D cy A n0 ad0 ad' lv w' H' locs' ls → W p l e (xrm d z.1 z.2.1) s m args below meth c H' locs' (z.2.2.1 + mc) (z.2.2.2 + ms) (MQ below (XQ D cy z.1 n0 ad0 A Q) args s z.1 z.2.1 A) (F0 m (pc + 3) ls ((r.toList ++ rest).map (xt ad')))) :
    W p l e (xrm d z.1 z.2.1) s m args below meth c H locs z.2.2.1 z.2.2.2 (MQ below (XQ D cy z.1 n0 ad0 A Q) args s z.1 z.2.1 A) (F0 m pc ls (st.map (xt ad))) := by
  subst hst
  obtain ⟨hx, hbb, hr2, hlk, hml, hown, hts, hK, hA, hnm, hmt⟩ := id C
  simp only [okV, Bool.and_eq_true, decide_eq_true_eq] at hok
  obtain ⟨o1, o2, o3, o4, o5, o6, o7⟩ := hok
  have hpre := xw_pre (av := .ref b :: av) X.1 hK X.2.1 X.2.2.1 hA X.2.2.2.2.1.2
  refine w_back hM C X hcl hsl hsc (ar := ((Value.ref b :: av).map (xt ad)).toArray) ?_ kk
  refine va_runV (own := M.2.2.2.2.2.1) (C := M'.1.cls) (Ts := bigw) (As := av.map (xt ad)) (b := ad b) (nL := M.2.2.1) (cc := M.2.1) ⟨hx, hbb, hml, hown, hts⟩ (hc l D cy ad H.size) (index := idx) (n := n) (bytes := M'.2.1) (maxL := M'.2.2.1) (ret := M'.2.2.2.1)
    ⟨callB_of (ws' := bigw) n hts (xws_good hM') rfl rfl rfl (hts _ (mb_in o4)) (hts _ (mb_in o1)) ⟨o5, o6, o7⟩ ⟨hd, ?_⟩, hts _ (mb_in o2), hts _ (mb_in o3)⟩
    ⟨hpre.1, ?_, hpre.2⟩ rfl (by rw [List.length_map]; exact hn) X.2.2.2.1.1 (by simp [xt]) (lv_room (by simpa [Function.comp_def, xt_cat] using hrm)) (xpc hM hq) ⟨hcl, hsl⟩
  · have := hM'.2.2.2.2.2
    show 8 + (M'.2.2.1 + 11) + 64 * d' ≤ 64 * d
    omega
  · have := va_recv hK X.1 (ci := ci) (q0 := b) hci (xw_at hb)
    rw [hcls] at this
    exact this
end
