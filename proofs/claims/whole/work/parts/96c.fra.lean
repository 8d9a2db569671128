/-! the frame rule for what makes cells: a constructor over its own small world holds in any world -/
def xrA (rh : List Nat) (n K i : Nat) : Nat := if i < rh.length then rh.getD i i else if i < K then n + (i - rh.length) else i
/-- all references lie below n, or are texts -/
def xeC (n : Nat) (e : va_E) : Prop := match e with
  | .inl (_, _, .inr (.inr (.inr (.inr f)))) => ∀ j x, f j = some x → x < n ∨ 1000000 ≤ x
  | .inl _ => True
  | .inr (_, fs) => ∀ v ∈ fs, ∀ i, v = .ref i → i < n ∨ 1000000 ≤ i
theorem xe_cgC {cy : Nat → ClassId} {f g : Nat → Nat} {n : Nat} (h : ∀ i, (i < n ∨ 1000000 ≤ i) → f i = g i) {e : va_E} (he : xeC n e) : xe cy f e = xe cy g e := by
  match e, he with
  | .inl (_, _, .inl _), _ => rfl
  | .inl (_, _, .inr (.inl _)), _ => rfl
  | .inl (_, _, .inr (.inr (.inl _))), _ => rfl
  | .inl (_, _, .inr (.inr (.inr (.inl _)))), _ => rfl
  | .inl (k, m, .inr (.inr (.inr (.inr r)))), he =>
    have hf : (fun j => (r j).map f) = (fun j => (r j).map g) := funext fun j => by
      cases hj : r j with
      | none => rfl
      | some x => simp [h x (he j x hj)]
    simp only [xe, xa, hf]
  | .inr (ci, fs), he =>
    have hf : fs.map (xt f) = fs.map (xt g) := List.map_congr_left (fun v hv => by
      cases v with
      | ref i => simp [xt, h i (he _ hv i rfl)]
      | _ => rfl)
    simp only [xe, hf]
theorem xe_cgS {cy : Nat → ClassId} {f g : Nat → Nat} {a b : Nat} (h : ∀ i, ¬ (a ≤ i ∧ i < b) → f i = g i) {e : va_E} (he : ∀ m, a ≤ m → m < b → xeS m e) : xe cy f e = xe cy g e := by
  match e, he with
  | .inl (_, _, .inl _), _ => rfl
  | .inl (_, _, .inr (.inl _)), _ => rfl
  | .inl (_, _, .inr (.inr (.inl _))), _ => rfl
  | .inl (_, _, .inr (.inr (.inr (.inl _)))), _ => rfl
  | .inl (k, m, .inr (.inr (.inr (.inr r)))), he =>
    have hf : (fun j => (r j).map f) = (fun j => (r j).map g) := funext fun j => by
      cases hj : r j with
      | none => rfl
      | some x =>
        have hx : ¬ (a ≤ x ∧ x < b) := fun q => he x q.1 q.2 j hj
        simp [h x hx]
    simp only [xe, xa, hf]
  | .inr (ci, fs), he =>
    have hf : fs.map (xt f) = fs.map (xt g) := List.map_congr_left (fun v hv => by
      cases v with
      | ref i =>
        have hx : ¬ (a ≤ i ∧ i < b) := fun q => he i q.1 q.2 _ hv rfl
        simp [xt, h i hx]
      | _ => rfl)
    simp only [xe, hf]
theorem Co.frQ {M : XM} {d mc ms K : Nat} {av : List Value} {wsub w : List va_E} {Q : Option Value → List va_E → Prop} (rh : List Nat) (h : Co M d mc ms av wsub Q) (hmc : mc ≠ 0)
    (hs : rh.map (fun i => w[i]?) = wsub.map (fun e => some (xe (fun k => k) (xr rh) e))) (hn : va_nd rh = true) (hge : rh.length ≤ K) (hl0 : K ≤ 1000000) (hlw : w.length + (K - rh.length) ≤ 1000000)
    (hQ : ∀ r w', Q r w' → r = none ∧ w'.length = K ∧ ∀ e ∈ w', xeC K e) (hw : ∀ m, w.length ≤ m → m < 1000000 → ∀ e ∈ w, xeS m e) :
    Co M d mc ms (av.map (xt (xr rh))) w (fun r w1 => r = none ∧ ∃ w', Q none w' ∧ w1 = xgr (xrA rh w.length K) w rh (w'.take rh.length) ++ (w'.drop rh.length).map (xe (fun k => k) (xrA rh w.length K))) := by
  intro l D cy ad sz
  have hlen : rh.length = wsub.length := by have := congrArg List.length hs; simpa using this
  have hA : ∀ q, va_A (xw cy (fun i => ad (xr rh i)) wsub) sz q → va_A (xw cy ad w) sz q := by
    intro q hq
    rcases hq with ⟨k, e, hk⟩ | hq
    · obtain ⟨e1, h1, h2⟩ := xw_inv hk
      cases h2
      exact Or.inl ⟨xr rh k, _, xw_at (xr_sub hs h1).2⟩
    · exact Or.inr hq
  have hsub : ∀ i, i < rh.length → ∃ e, wsub[i]? = some e := fun i hi => ⟨wsub[i], List.getElem?_eq_getElem (by omega)⟩
  refine Jvm.Free.MetFree.mono (h l D cy (fun i => ad (xr rh i)) sz) ?_ (fun _ _ _ _ _ h => h) ?_
  · rintro a s ⟨rfl, hsz, hP, hK, hD, hN⟩
    refine ⟨by simp [Function.comp_def, xt_comp], hsz, fun k q hk => ?_, hK, ⟨fun i j p q hi hj hpq => ?_, fun _ _ _ => trivial⟩, (hN.narrow hA).ad (fun i hi => ?_)⟩
    · obtain ⟨e1, h1, rfl⟩ := xw_inv hk
      have h3 := hP _ _ (xw_at (xr_sub hs h1).2)
      rw [xe_comp] at h3
      exact h3
    · obtain ⟨e1, h1, rfl⟩ := xw_inv hi
      obtain ⟨e2, h2, rfl⟩ := xw_inv hj
      have a1 := xr_sub hs h1
      have a2 := xr_sub hs h2
      have := hD.1 _ _ _ _ (xw_at a1.2) (xw_at a2.2) hpq
      exact va_nd_inj rh hn i j (xr rh i) a1.1 (by rw [this]; exact a2.1)
    · show ad (xr rh i) = ad i
      unfold xr
      rw [List.getD_eq_getElem?_getD, List.getElem?_eq_none (by omega)]
      rfl
  · rintro a s o t ⟨rfl, hsz, hP, hK, hD, hN⟩ ⟨⟨⟨r, w', ad', ho, hq, hG, hw', hP', hK', hD'⟩, hF⟩, L, hL1, hL2⟩
    obtain ⟨hr, hKl, hcl⟩ := hQ r w' hq
    subst hr hKl
    have hAD : ∃ AD : Nat → Nat, AD = fun j => if w.length ≤ j ∧ j < w.length + (w'.length - rh.length) then ad' (j - w.length + rh.length) else ad j := ⟨_, rfl⟩
    obtain ⟨AD, hAD⟩ := hAD
    have ad_old : ∀ j, ¬ (w.length ≤ j ∧ j < w.length + (w'.length - rh.length)) → AD j = ad j := fun j hj => by rw [hAD]; exact if_neg hj
    have ad_new : ∀ j, w.length ≤ j → j < w.length + (w'.length - rh.length) → AD j = ad' (j - w.length + rh.length) := fun j h1 h2 => by rw [hAD]; exact if_pos ⟨h1, h2⟩
    have hxl : ∀ i, i < rh.length → xrA rh w.length w'.length i = xr rh i ∧ xr rh i < w.length ∧ ad' i = ad (xr rh i) := by
      intro i hi
      obtain ⟨e, he⟩ := hsub i hi
      refine ⟨?_, (List.getElem?_eq_some_iff.mp (xr_sub hs he).2).1, hG.2 i (Or.inl (by omega))⟩
      unfold xrA xr
      rw [if_pos hi]
    have F1 : ∀ i, (i < w'.length ∨ 1000000 ≤ i) → AD (xrA rh w.length w'.length i) = ad' i := by
      intro i hi
      rcases Nat.lt_or_ge i rh.length with g | g
      · obtain ⟨a1, a2, a3⟩ := hxl i g
        rw [a1, ad_old _ (by omega), a3]
      · rcases Nat.lt_or_ge i w'.length with g2 | g2
        · have hx : xrA rh w.length w'.length i = w.length + (i - rh.length) := by
            unfold xrA
            rw [if_neg (by omega), if_pos g2]
          rw [hx, ad_new _ (by omega) (by omega)]
          exact congrArg ad' (by omega)
        · have hx : xrA rh w.length w'.length i = i := by
            unfold xrA
            rw [if_neg (by omega), if_neg (by omega)]
          have hi : 1000000 ≤ i := by omega
          rw [hx, ad_old _ (by omega), hG.2 i (Or.inr hi)]
          show ad i = ad (xr rh i)
          unfold xr
          rw [List.getD_eq_getElem?_getD, List.getElem?_eq_none (by omega)]
          rfl
    have hxe : ∀ e ∈ w', xe cy AD (xe (fun k => k) (xrA rh w.length w'.length) e) = xe cy ad' e := by
      intro e he
      rw [xe_comp]
      exact xe_cgC F1 (hcl e he)
    have hWl : (xgr (xrA rh w.length w'.length) w rh (w'.take rh.length)).length = w.length := xgr_len _ _ _ _
    -- the cells of the new world
    have cell : ∀ k e, (xgr (xrA rh w.length w'.length) w rh (w'.take rh.length) ++ (w'.drop rh.length).map (xe (fun k => k) (xrA rh w.length w'.length)))[k]? = some e →
        (k < w.length ∧ k ∉ rh ∧ w[k]? = some e) ∨ (∃ j, ∃ hj : j < w'.length, AD k = ad' j ∧ xe cy AD e = xe cy ad' w'[j] ∧ ((k < w.length ∧ j < rh.length ∧ xr rh j = k) ∨ (w.length ≤ k ∧ rh.length ≤ j ∧ j = k - w.length + rh.length))) := by
      intro k e hk
      rcases Nat.lt_or_ge k w.length with g | g
      · rw [List.getElem?_append_left (by omega)] at hk
        by_cases hm : k ∈ rh
        · obtain ⟨j, hj⟩ := List.getElem?_of_mem hm
          have hjl : j < rh.length := (List.getElem?_eq_some_iff.mp hj).1
          have hjx : xr rh j = k := by simp [xr, List.getD_eq_getElem?_getD, hj]
          have htk : (w'.take rh.length)[j]? = some w'[j] := by
            rw [List.getElem?_take, if_pos hjl]
            exact List.getElem?_eq_getElem (by omega)
          have h2 := xgr_in (xrA rh w.length w'.length) k rh w (w'.take rh.length) j w'[j] hn hj htk g
          rw [hk] at h2
          cases h2
          refine Or.inr ⟨j, by omega, ?_, hxe _ (List.getElem_mem _), Or.inl ⟨g, hjl, hjx⟩⟩
          rw [ad_old k (by omega), ← hjx]
          exact (hxl j hjl).2.2.symm
        · rw [xgr_out _ _ _ _ _ hm] at hk
          exact Or.inl ⟨g, hm, hk⟩
      · rw [List.getElem?_append_right (by omega), hWl, List.getElem?_map, List.getElem?_drop] at hk
        cases hq : w'[rh.length + (k - w.length)]? with
        | none => rw [hq] at hk; cases hk
        | some e1 =>
          rw [hq] at hk
          have hlt := (List.getElem?_eq_some_iff.mp hq).1
          have heq := (List.getElem?_eq_some_iff.mp hq).2
          injection hk with hk
          subst hk
          refine Or.inr ⟨rh.length + (k - w.length), hlt, ?_, ?_, Or.inr ⟨g, by omega, by omega⟩⟩
          · rw [ad_new k g (by omega)]
            exact congrArg ad' (by omega)
          · rw [heq]
            exact hxe _ (List.mem_of_getElem? hq)
    have old_lt : ∀ k e, w[k]? = some e → ad k < sz := fun k e hk => by
      have h2 := hP k _ (xw_at hk)
      have := h2.lt
      rw [hsz] at this
      exact this
    have hfree : ∀ j, rh.length ≤ j → j < w'.length → sz ≤ ad' j := by
      intro j hj1 hj2
      rcases hD'.2 j _ (xw_at (List.getElem?_eq_getElem hj2)) with ⟨k, e, hk⟩ | hq
      · obtain ⟨e1, h1, h2⟩ := xw_inv hk
        have hkl : k < rh.length := by have := (List.getElem?_eq_some_iff.mp h1).1; omega
        have e6 : ad' j = ad (xr rh k) := congrArg Prod.fst h2
        have hk' : k < w'.length := by omega
        have e7 : ad' k = ad' j := by rw [(hxl k hkl).2.2, e6]
        have := hD'.1 k j _ _ (xw_at (List.getElem?_eq_getElem hk')) (xw_at (List.getElem?_eq_getElem hj2)) e7
        omega
      · exact hq
    refine ⟨⟨⟨none, _, AD, ho, ⟨rfl, w', hq, rfl⟩, ⟨fun h => absurd h hmc, fun i hi => ad_old i (by omega)⟩, by rw [List.length_append, hWl]; omega, ?_, hK', ?_⟩, hF.1, fun q h1 h2 => hF.2 q h1 (fun h3 => h2 (hA q h3))⟩, L, hL1, fun q hq => hA _ (hL2 q hq)⟩
    · intro k q hk
      obtain ⟨e1, h1, rfl⟩ := xw_inv hk
      rcases cell k e1 h1 with ⟨g, hm, hwk⟩ | ⟨j, hj, ha, hx, -⟩
      · have h2 := hP k _ (xw_at hwk)
        rw [ad_old k (by omega), xe_cgS (f := AD) (g := ad) (a := w.length) (b := w.length + (w'.length - rh.length)) (fun i hi => ad_old i hi) (fun m m1 m2 => hw m m1 (by omega) _ (List.mem_of_getElem? hwk))]
        refine va_at.kept h2 (hF.2 _ ?_ ?_)
        · exact h2.lt
        · intro h3
          rcases h3 with ⟨j, e, hj⟩ | h3
          · obtain ⟨e2, h4, h5⟩ := xw_inv hj
            have e6 : ad k = ad (xr rh j) := congrArg Prod.fst h5
            have a1 := xr_sub hs h4
            have := hD.1 _ _ _ _ (xw_at hwk) (xw_at a1.2) e6
            exact hm (this ▸ List.mem_of_getElem? a1.1)
          · exact absurd h3 (Nat.not_le.mpr (old_lt k _ hwk))
      · rw [ha, hx]
        exact hP' j _ (xw_at (List.getElem?_eq_getElem hj))
    · refine ⟨fun i j p q hi hj hpq => ?_, fun k q hk => ?_⟩
      · obtain ⟨e1, h1, rfl⟩ := xw_inv hi
        obtain ⟨e2, h2, rfl⟩ := xw_inv hj
        have hpq : AD i = AD j := hpq
        -- the cell below w.length at k, as the old world has it
        have oldc : ∀ k, k < w.length → ∃ e, w[k]? = some e := fun k hk => ⟨w[k], List.getElem?_eq_getElem hk⟩
        rcases Nat.lt_or_ge i w.length with gi | gi <;> rcases Nat.lt_or_ge j w.length with gj | gj
        · obtain ⟨u1, hu1⟩ := oldc i gi
          obtain ⟨u2, hu2⟩ := oldc j gj
          rw [ad_old i (by omega), ad_old j (by omega)] at hpq
          exact hD.1 i j _ _ (xw_at hu1) (xw_at hu2) hpq
        · exfalso
          obtain ⟨u1, hu1⟩ := oldc i gi
          rcases cell j e2 h2 with ⟨g, -, -⟩ | ⟨y, hy, ha, -, ⟨g, -, -⟩ | ⟨-, g2, -⟩⟩
          · omega
          · omega
          · have := hfree y g2 hy
            have := old_lt i _ hu1
            rw [ad_old i (by omega), ha] at hpq
            omega
        · exfalso
          obtain ⟨u1, hu1⟩ := oldc j gj
          rcases cell i e1 h1 with ⟨g, -, -⟩ | ⟨y, hy, ha, -, ⟨g, -, -⟩ | ⟨-, g2, -⟩⟩
          · omega
          · omega
          · have := hfree y g2 hy
            have := old_lt j _ hu1
            rw [ad_old j (by omega), ha] at hpq
            omega
        · rcases cell i e1 h1 with ⟨g, -, -⟩ | ⟨y, hy, ha, -, ⟨g, -, -⟩ | ⟨-, g2, g3⟩⟩
          · omega
          · omega
          · rcases cell j e2 h2 with ⟨g, -, -⟩ | ⟨y', hy', ha', -, ⟨g, -, -⟩ | ⟨-, g2', g3'⟩⟩
            · omega
            · omega
            · rw [ha, ha'] at hpq
              have := hD'.1 y y' _ _ (xw_at (List.getElem?_eq_getElem hy)) (xw_at (List.getElem?_eq_getElem hy')) hpq
              omega
      · obtain ⟨e1, h1, rfl⟩ := xw_inv hk
        rcases cell k e1 h1 with ⟨g, -, hwk⟩ | ⟨j, hj, ha, -, -⟩
        · have h9 : va_A (xw cy ad w) sz (AD k) := by rw [ad_old k (by omega)]; exact Or.inl ⟨k, _, xw_at hwk⟩
          exact h9
        · have h3 := hD'.2 j _ (xw_at (List.getElem?_eq_getElem hj))
          have h9 : va_A (xw cy ad w) sz (AD k) := by rw [ha]; exact hA _ h3
          exact h9
/-- where it is known what comes -/
theorem Co.frA {M : XM} {d mc ms : Nat} {av : List Value} {wsub w w0 : List va_E} (rh : List Nat) (h : Co M d mc ms av wsub (fun r w' => r = none ∧ w' = w0)) (hmc : mc ≠ 0)
    (hs : rh.map (fun i => w[i]?) = wsub.map (fun e => some (xe (fun k => k) (xr rh) e))) (hn : va_nd rh = true) (hge : rh.length ≤ w0.length) (hl0 : w0.length ≤ 1000000) (hlw : w.length + (w0.length - rh.length) ≤ 1000000)
    (hcl : ∀ e ∈ w0, xeC w0.length e) (hw : ∀ m, w.length ≤ m → m < 1000000 → ∀ e ∈ w, xeS m e) :
    Co M d mc ms (av.map (xt (xr rh))) w (fun r w' => r = none ∧ w' = xgr (xrA rh w.length w0.length) w rh (w0.take rh.length) ++ (w0.drop rh.length).map (xe (fun k => k) (xrA rh w.length w0.length))) :=
  (Co.frQ rh h hmc hs hn hge hl0 hlw (fun r w' q => ⟨q.1, by rw [q.2], by rw [q.2]; exact hcl⟩) hw).imp (fun r w1 q => by
    obtain ⟨hr, w', ⟨-, rfl⟩, hw1⟩ := q
    exact ⟨hr, hw1⟩)
