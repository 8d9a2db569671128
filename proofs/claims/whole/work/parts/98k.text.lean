/-! a text comes on both sides -/
theorem TI_new {T : List va_E} {K : Nat} {sy : SY} {md : Nat → Option va_E} {cn : Nat} {cd en : Nat → Int32} {e : Nat → Nat} {s1 : Nat → (Nat → Int32) → Int32} (hT : TI T K sy md) (h1 : 1 ≤ K) (h6 : K < 6) (hl : LW cn en e) (hs : ∀ part f, sayV cd e part f = s1 part f) : TI (T ++ [.inr (2, [.ref (48 + T.length + 1), .ref (48 + T.length + 2), .ref (48 + T.length + 3)]), iA cn cd, iA 3 en, iA 40 (fun _ => 0)]) (K + 1) (syN sy K s1) md := by
  obtain ⟨⟨h0, h99⟩, hl2, hmd, hx, hlen⟩ := hT
  rw [Nat.add_comm 48 T.length]
  have hlb : lb (K + 1) = lb K + 4 := by
    unfold lb
    rw [if_neg (by omega), if_neg (by omega)]
    omega
  have h33 := lb_1 h1
  refine ⟨⟨by omega, fun t q f => ?_⟩, fun t ht => ?_, fun j hj => ?_, fun e0 he n hn => ?_, ?_⟩
  · unfold syN
    split
    · rw [← hs]
      exact sayV_bd _ _ _ _
    · exact h99 t q f
  · by_cases e1 : t = K
    · subst e1
      have hs1 : syN sy t s1 t = s1 := if_pos rfl
      rw [hs1, ← hlen]
      refine ⟨cn, cd, en, fun _ => 0, e, ?_, ?_, ?_, ?_, hl, hs⟩
      · rw [List.getElem?_append_right (Nat.le_refl _), Nat.sub_self]; rfl
      · rw [List.getElem?_append_right (by omega), Nat.add_sub_cancel_left]; rfl
      · rw [List.getElem?_append_right (by omega), Nat.add_sub_cancel_left]; rfl
      · rw [List.getElem?_append_right (by omega), Nat.add_sub_cancel_left]; rfl
    · have hs1 : syN sy K s1 t = sy t := if_neg e1
      rw [hs1]
      obtain ⟨nc, cd', en', stk, e', a0, a1, a2, a3, a4, a5⟩ := hl2 t (by omega)
      have hb : ∀ (R : List va_E) (i : Nat) (x : va_E), T[i]? = some x → (T ++ R)[i]? = some x := fun R i x h => by
        rw [List.getElem?_append_left (List.getElem?_eq_some_iff.mp h).1]
        exact h
      exact ⟨nc, cd', en', stk, e', hb _ _ _ a0, hb _ _ _ a1, hb _ _ _ a2, hb _ _ _ a3, a4, a5⟩
  · rw [List.getElem?_append_left (by omega)]
    exact hmd j hj
  · rw [List.length_append] at hn
    have hn : 48 + (T.length + 4) ≤ n := hn
    rcases List.mem_append.mp he with h | h
    · exact hx e0 h n (by omega)
    · simp only [List.mem_cons, List.not_mem_nil, or_false] at h
      rcases h with rfl | rfl | rfl | rfl
      · intro v hv
        simp only [List.mem_cons, List.not_mem_nil, or_false] at hv
        rcases hv with rfl | rfl | rfl
        · intro q; have h7 : T.length + 48 + 1 = n := Value.ref.inj q; omega
        · intro q; have h7 : T.length + 48 + 2 = n := Value.ref.inj q; omega
        · intro q; have h7 : T.length + 48 + 3 = n := Value.ref.inj q; omega
      · exact trivial
      · exact trivial
      · exact trivial
  · rw [List.length_append, hlen, hlb]
    rfl
theorem TXO_new {tx : Nat → Option Nat} {K : Nat} {T R : List va_E} (hX : TXO tx K T) (hl : T.length = lb K) (hR : R.length = 4) : TXO (va_up tx K (some (48 + T.length))) (K + 1) (T ++ R) := by
  refine ⟨fun t ht => ?_, fun j n hn => ?_⟩
  · by_cases e1 : t = K
    · subst e1
      rw [va_up_s, hl, Nat.add_comm]
    · rw [va_up_n e1]
      exact hX.1 t (by omega)
  · rw [List.length_append, hR] at hn
    by_cases e1 : j = K
    · rw [e1, va_up_s]
      intro q
      have := Option.some.inj q
      omega
    · rw [va_up_n e1]
      exact hX.2 j n (by omega)
set_option maxHeartbeats 2000000 in
set_option maxRecDepth 100000 in
theorem st_text : STP Value.int INB M_X6_text M_X7_text 0 := by
  refine ⟨45, 4, 4, 206, by decide, by decide, by decide, by decide, ?_⟩
  intro w hw
  refine hw (STw Value.int INB M_X6_text M_X7_text 0 45 4 4 206) ?_
  intro fr lo fa ki mo P C k sty wset wfor pfr plo pfa pki pmo ppe pch psty pwset pwfor plaw plent bytes tcodes tends N ta0 tcn tpl tok efr elo efa eki emo epe ech esty ewset ewfor elaw elent on was sat stood rose firsts waits till sitter names satOn risen pict brs bst row brow kept asked so sz ce tx T K sy cd sr wi1 ho1 ki1 mo1 sz2 pe1 ch1 ru1 g J KF hH hN hI hS hX hL hT ho zs hz
  obtain ⟨hP, hC, hk, hmo, hwf, hki⟩ := id hH
  obtain rfl := zs0 hz
  have hK6 : K ≤ 6 := hT.1.1
  have hlb : lb K ≤ 53 := by unfold lb; split <;> omega
  refine ⟨_, x_text fr lo fa ki mo (nI P) (nI C) sty wset wfor (nI k) (-1) pfr plo pfa pki pmo ppe pch psty pwset pwfor plaw plent bytes tcodes tends tcn tpl tok efr elo efa eki emo epe ech esty ewset ewfor elaw elent on was sat stood rose firsts waits till sitter names satOn risen pict brs bst row brow kept asked so sz ce tx T N ta0 K hN hK6 hT.2.2.2.1 hX.2 (by have := hT.2.2.2.2; omega), fun r w' hq => ?_⟩
  have hrf := txt_rf (B := bytes) (N := N) hN ta0 tok tends tcodes
  rcases hq with ⟨hc, hr, hw'⟩ | ⟨hc, hc2, hr, hw'⟩ | ⟨hc, hc2, hr, hw'⟩
  · refine ⟨_, hr, step_end (J0 := (JR P C k N K pict pe1 ch1 ru1 J)) (K0 := (KR fr lo fa ki mo sty wset wfor bytes cd sr wi1 ho1 ki1 mo1 so sz2 g KF)) (fun _ => rfl) hw' hT (Co.wd (m_text bytes cd sr (KF 27) (KF 28) (J 23) (J 24) (J 25) (J 26) (J 29) (J 30) (J 31) (JR P C k N K pict pe1 ch1 ru1 J) (KR fr lo fa ki mo sty wset wfor bytes cd sr wi1 ho1 ki1 mo1 so sz2 g KF) N K hN hK6 ho) V_r) (fun r0 w0 hq0 => ?_)⟩
    rcases hq0 with ⟨hd, hr0, hw0⟩ | ⟨b, O2, sr', he, hm, op, pt, bg, tk, vl, ou, hd, hq1, hsr, hr0, hw0⟩ | ⟨O2, L2, he, hm, op, pt, bg, tk, vl, ou, hd, hq1, hr0, hw0⟩
    · exact ⟨hr0, INB_mk hH hN hI hS hX hL hT (hw0.trans R_r) ho⟩
    · exact absurd hc (Nat.ne_of_lt hd)
    · exact absurd hc (Nat.ne_of_lt hd)
  · have hw' : w' = wC fr lo fa ki mo (nI P) (nI C) sty wset wfor (nI k) (-1) pfr plo pfa pki pmo ppe pch psty pwset pwfor plaw plent bytes ((isT bytes N ta0 tok tends tcodes).2.2.cd) ((isT bytes N ta0 tok tends tcodes).2.1) (nI 0) (nI (isT bytes N ta0 tok tends tcodes).2.2.ta) (nI (isT bytes N ta0 tok tends tcodes).2.2.cn) (nI (isT bytes N ta0 tok tends tcodes).2.2.pl) ((isT bytes N ta0 tok tends tcodes).2.2.tk) efr elo efa eki emo epe ech esty ewset ewfor elaw elent on was sat stood rose firsts waits till sitter names satOn risen pict (nI K) brs bst row brow kept asked so sz ce tx T := by rw [nI_0]; exact hw'
    refine ⟨_, hr, step_end (J0 := (JR P C k N K pict pe1 ch1 ru1 J)) (K0 := (KR fr lo fa ki mo sty wset wfor bytes cd sr wi1 ho1 ki1 mo1 so sz2 g KF)) (fun _ => rfl) hw' hT (Co.wd (m_text bytes cd sr (KF 27) (KF 28) (J 23) (J 24) (J 25) (J 26) (J 29) (J 30) (J 31) (JR P C k N K pict pe1 ch1 ru1 J) (KR fr lo fa ki mo sty wset wfor bytes cd sr wi1 ho1 ki1 mo1 so sz2 g KF) N K hN hK6 ho) V_r) (fun r0 w0 hq0 => ?_)⟩
    rcases hq0 with ⟨hd, hr0, hw0⟩ | ⟨b, O2, sr', he, hm, op, pt, bg, tk, vl, ou, hd, hq1, hsr, hr0, hw0⟩ | ⟨O2, L2, he, hm, op, pt, bg, tk, vl, ou, hd, hq1, hr0, hw0⟩
    · exact absurd hd (Nat.ne_of_lt hc)
    · have h1 := hrf.1 b hq1
      have hw0 : w0 = wMr bytes (cdB cd (200 * K) O2) sr' (KF 27) he (nI 0) (nI K) pt bg tk vl hm op ou (JR P C k N K pict pe1 ch1 ru1 J) (KR fr lo fa ki mo sty wset wfor bytes cd sr wi1 ho1 ki1 mo1 so sz2 g KF) := by rw [nI_0]; exact hw0
      exact ⟨by rw [hr0, h1.2], INB_mk hH (Nat.zero_le _) hI hS hX (ML_cg (fun x hx => cdB_lt _ x hx) hsr hL) hT (hw0.trans R_r) ho⟩
    · exact absurd (hrf.2 O2 L2 hq1).1 hc2
  · have hw' : w' = wC fr lo fa ki mo (nI P) (nI C) sty wset wfor (nI k) (-1) pfr plo pfa pki pmo ppe pch psty pwset pwfor plaw plent bytes ((isT bytes N ta0 tok tends tcodes).2.2.cd) ((isT bytes N ta0 tok tends tcodes).2.1) (nI 0) (nI (isT bytes N ta0 tok tends tcodes).2.2.ta) (nI (isT bytes N ta0 tok tends tcodes).2.2.cn) (nI (isT bytes N ta0 tok tends tcodes).2.2.pl) ((isT bytes N ta0 tok tends tcodes).2.2.tk) efr elo efa eki emo epe ech esty ewset ewfor elaw elent on was sat stood rose firsts waits till sitter names satOn risen pict (nI (K + 1)) brs bst row brow kept asked so sz ce (va_up tx K (some (48 + T.length))) (T ++ [.inr (2, [.ref (48 + T.length + 1), .ref (48 + T.length + 2), .ref (48 + T.length + 3)]), iA (isT bytes N ta0 tok tends tcodes).2.2.cn (isT bytes N ta0 tok tends tcodes).2.2.cd, iA 3 (isT bytes N ta0 tok tends tcodes).2.1, iA 40 (fun _ => 0)]) := by rw [nI_0]; exact hw'
    cases hrr : rfR bytes N 3 0 [] 0 [] with
    | inl b => exact absurd ((hrf.1 b hrr).1.symm.trans hc2) (by decide)
    | inr OL =>
      obtain ⟨O', L'⟩ := OL
      obtain ⟨-, Oc, hO, hcn, hcd, h160, hseg⟩ := hrf.2 O' L' hrr
      obtain ⟨e, he1, he2, he3⟩ := new_law (c := tcodes) (cd := cd) (sr := sr) hc hseg h160
      have hT2 := TI_new (cn := (isT bytes N ta0 tok tends tcodes).2.2.cn) (cd := (isT bytes N ta0 tok tends tcodes).2.2.cd) (en := (isT bytes N ta0 tok tends tcodes).2.1) (e := fun j => e (j + 1)) (s1 := fun part f => sayV (cdP tcodes Oc) (fun j => e (j + 1)) part f) hT (by omega) hc (by rw [hcn]; exact he2) (fun part f => by rw [hcd])
      refine ⟨_, hr, step_end (J0 := (JR P C k N K pict pe1 ch1 ru1 J)) (K0 := (KR fr lo fa ki mo sty wset wfor bytes cd sr wi1 ho1 ki1 mo1 so sz2 g KF)) (fun _ => rfl) hw' hT2 (Co.wd (m_text bytes cd sr (KF 27) (KF 28) (J 23) (J 24) (J 25) (J 26) (J 29) (J 30) (J 31) (JR P C k N K pict pe1 ch1 ru1 J) (KR fr lo fa ki mo sty wset wfor bytes cd sr wi1 ho1 ki1 mo1 so sz2 g KF) N K hN hK6 ho) V_r) (fun r0 w0 hq0 => ?_)⟩
      rcases hq0 with ⟨hd, hr0, hw0⟩ | ⟨b, O2, sr', he, hm, op, pt, bg, tk, vl, ou, hd, hq1, hsr, hr0, hw0⟩ | ⟨O2, L2, he, hm, op, pt, bg, tk, vl, ou, hd, hq1, hr0, hw0⟩
      · exact absurd hd (Nat.ne_of_lt hc)
      · exact absurd (hrr.symm.trans hq1) (fun q => by cases q)
      · have e2 := Sum.inr.inj (hrr.symm.trans hq1)
        obtain ⟨rfl, rfl⟩ : O' = O2 ∧ L' = L2 := ⟨congrArg Prod.fst e2, congrArg Prod.snd e2⟩
        subst hO
        have hw0 : w0 = wMr bytes (cdB cd (200 * K) (Oc.map cC)) (srL sr (4 * K) L') (KF 27) he (nI 0) (nI (K + 1)) pt bg tk vl hm op ou (JR P C k N K pict pe1 ch1 ru1 J) (KR fr lo fa ki mo sty wset wfor bytes cd sr wi1 ho1 ki1 mo1 so sz2 g KF) := by rw [nI_0]; exact hw0
        exact ⟨hr0, INB_mk (HOK_K hH (Nat.le_succ K)) (Nat.zero_le _) (IMG_K hI (Nat.le_succ K)) hS (TXO_new hX hT.2.2.2.2 rfl) (ML_new hc (fun x hx => cdB_lt _ x hx) (fun x hx => srL_lt _ x hx) hL he1 he3 (fun q f => sayV_bd _ _ _ _)) hT2 (hw0.trans R_r) ho⟩
