/-! both constructors: the invariant holds at the start -/
theorem wiF_0 : wiF (fun _ => 0) (fun _ => 0) (fun _ => 0) = fun _ => 0 := by
  funext j
  unfold wiF
  split
  · rfl
  · split <;> rfl
theorem kmF_0 : kmF (fun _ => 0) (fun _ => 0) = fun _ => 0 := by
  funext j
  unfold kmF
  split <;> rfl
theorem txN_52 {m : Nat} (hm : 52 ≤ m) : ∀ j, txN 6 j ≠ some m := by
  intro j q
  unfold txN at q
  split at q
  · have := Option.some.inj q; omega
  · cases q
theorem shR_52 {m : Nat} (hm : 52 ≤ m) : ∀ j, shR j ≠ some m := by
  intro j q
  unfold shR at q
  split at q
  · have := Option.some.inj q; omega
  · split at q
    · have := Option.some.inj q; omega
    · split at q
      · have := Option.some.inj q; omega
      · split at q
        · have := Option.some.inj q; omega
        · cases q
theorem xrA_M : xrA [52] 53 29 = xr rhM := by
  funext i
  by_cases h : i < 29
  · have key : ∀ i, i < 29 → xrA [52] 53 29 i = xr rhM i := by decide
    exact key i h
  · unfold xrA xr
    rw [if_neg (by simp; omega), if_neg h, List.getD_eq_getElem?_getD, List.getElem?_eq_none (by simp [rhM]; omega)]
    rfl
set_option maxHeartbeats 8000000 in
set_option maxRecDepth 100000 in
theorem w0_R (cd sr he : Nat → Int32) (pt bg tk vl hm op ou : Int32) : wMr (dfB 50) cd sr woT he 0 (nI 1) pt bg tk vl hm op ou Jst Kst = wRf (fun _ => 0) (fun _ => 0) (fun _ => 0) (fun _ => 0) (fun _ => 0) 0 0 0 0 1 9 (dfB 50) cd sr (fun _ => 0) (fun _ => 0) (fun _ => 0) (fun _ => 0) (fun _ => -1) (fun _ => 0) (fun _ _ => 0) 0 1 0 0 0 0 (fun i0 => if i0 = 23 then pt else if i0 = 24 then bg else if i0 = 25 then tk else if i0 = 26 then vl else if i0 = 29 then hm else if i0 = 30 then op else if i0 = 31 then ou else Jst i0) (fun i0 => if i0 = 27 then woT else if i0 = 28 then he else Kst i0) := by
  show _ = wM (JR 0 0 0 0 1 0 0 0 0 (fun i0 => if i0 = 23 then pt else if i0 = 24 then bg else if i0 = 25 then tk else if i0 = 26 then vl else if i0 = 29 then hm else if i0 = 30 then op else if i0 = 31 then ou else Jst i0)) (KK (wiF (fun _ => 0) (fun _ => 0) (fun _ => 0)) (fun _ => 0) (fun _ => 0) (hoF 0 1 9) (dfB 50) cd sr (fun _ => 0) (fun _ => 0) (kmF (fun _ => 0) (fun _ => 0)) (fun _ => -1) (fun _ => 0) (ceF (fun _ _ => 0)) (fun i0 => if i0 = 27 then woT else if i0 = 28 then he else Kst i0))
  rw [wiF_0, kmF_0]
  rfl
set_option maxHeartbeats 8000000 in
set_option maxRecDepth 100000 in
theorem w1_S {m : Nat} (hm : 52 ≤ m) : ∀ e ∈ (wC (fun _ => 0) (fun _ => 0) (fun _ => 0) (fun _ => 0) (fun _ => 0) 0 0 0 1 9 0 (-1) (fun _ => 0) (fun _ => 0) (fun _ => 0) (fun _ => 0) (fun _ => 0) 0 0 0 1 9 0 (-1) (dfB 50) ((isT (dfB 50) 50 0 (-1) (fun _ => 0) (fun _ => 0)).2.2.cd) ((isT (dfB 50) 50 0 (-1) (fun _ => 0) (fun _ => 0)).2.1) 0 (nI (isT (dfB 50) 50 0 (-1) (fun _ => 0) (fun _ => 0)).2.2.ta) (nI (isT (dfB 50) 50 0 (-1) (fun _ => 0) (fun _ => 0)).2.2.cn) (nI (isT (dfB 50) 50 0 (-1) (fun _ => 0) (fun _ => 0)).2.2.pl) ((isT (dfB 50) 50 0 (-1) (fun _ => 0) (fun _ => 0)).2.2.tk) (fun _ => 0) (fun _ => 0) (fun _ => 0) (fun _ => 0) (fun _ => 0) 0 0 0 1 9 0 (-1) (fun _ => 0) (fun _ => 0) (fun _ => 0) (fun _ => 0) (fun _ => 0) (fun _ => 0) (fun _ => 0) (fun _ => 0) (fun _ => 0) (fun _ => 0) 0 0 0 1 0 0 (fun _ => 0) (fun _ => 0) (fun _ => 0) (fun _ => 0) (fun _ => -1) (fun _ => 0) (fun _ _ => 0) (txN 6) ([.inr (2, [.ref 49, .ref 50, .ref 51]), iA (isT (dfB 50) 50 0 (-1) (fun _ => 0) (fun _ => 0)).2.2.cn (isT (dfB 50) 50 0 (-1) (fun _ => 0) (fun _ => 0)).2.2.cd, iA 3 (isT (dfB 50) 50 0 (-1) (fun _ => 0) (fun _ => 0)).2.1, iA 40 (fun _ => 0)])), xeS m e :=
  List.forall_mem_cons.mpr ⟨xeB_ok (m := 52) rfl hm, List.forall_mem_cons.mpr ⟨xeB_ok (m := 52) rfl hm, List.forall_mem_cons.mpr ⟨trivial, List.forall_mem_cons.mpr ⟨trivial, List.forall_mem_cons.mpr ⟨trivial, List.forall_mem_cons.mpr ⟨trivial, List.forall_mem_cons.mpr ⟨trivial, List.forall_mem_cons.mpr ⟨xeB_ok (m := 52) rfl hm, List.forall_mem_cons.mpr ⟨trivial, List.forall_mem_cons.mpr ⟨trivial, List.forall_mem_cons.mpr ⟨trivial, List.forall_mem_cons.mpr ⟨trivial, List.forall_mem_cons.mpr ⟨trivial, List.forall_mem_cons.mpr ⟨xeB_ok (m := 52) rfl hm, List.forall_mem_cons.mpr ⟨trivial, List.forall_mem_cons.mpr ⟨trivial, List.forall_mem_cons.mpr ⟨trivial, List.forall_mem_cons.mpr ⟨txN_52 hm, List.forall_mem_cons.mpr ⟨shR_52 hm, List.forall_mem_cons.mpr ⟨xeB_ok (m := 52) rfl hm, List.forall_mem_cons.mpr ⟨xeB_ok (m := 52) rfl hm, List.forall_mem_cons.mpr ⟨trivial, List.forall_mem_cons.mpr ⟨trivial, List.forall_mem_cons.mpr ⟨trivial, List.forall_mem_cons.mpr ⟨trivial, List.forall_mem_cons.mpr ⟨trivial, List.forall_mem_cons.mpr ⟨trivial, List.forall_mem_cons.mpr ⟨trivial, List.forall_mem_cons.mpr ⟨trivial, List.forall_mem_cons.mpr ⟨trivial, List.forall_mem_cons.mpr ⟨trivial, List.forall_mem_cons.mpr ⟨trivial, List.forall_mem_cons.mpr ⟨trivial, List.forall_mem_cons.mpr ⟨trivial, List.forall_mem_cons.mpr ⟨trivial, List.forall_mem_cons.mpr ⟨trivial, List.forall_mem_cons.mpr ⟨trivial, List.forall_mem_cons.mpr ⟨trivial, List.forall_mem_cons.mpr ⟨trivial, List.forall_mem_cons.mpr ⟨trivial, List.forall_mem_cons.mpr ⟨xeB_ok (m := 52) rfl hm, List.forall_mem_cons.mpr ⟨trivial, List.forall_mem_cons.mpr ⟨xeB_ok (m := 52) rfl hm, List.forall_mem_cons.mpr ⟨trivial, List.forall_mem_cons.mpr ⟨xeB_ok (m := 52) rfl hm, List.forall_mem_cons.mpr ⟨trivial, List.forall_mem_cons.mpr ⟨xeB_ok (m := 52) rfl hm, List.forall_mem_cons.mpr ⟨trivial, List.forall_mem_cons.mpr ⟨xeB_ok (m := 52) rfl hm, List.forall_mem_cons.mpr ⟨trivial, List.forall_mem_cons.mpr ⟨trivial, List.forall_mem_cons.mpr ⟨trivial, List.forall_mem_nil _⟩⟩⟩⟩⟩⟩⟩⟩⟩⟩⟩⟩⟩⟩⟩⟩⟩⟩⟩⟩⟩⟩⟩⟩⟩⟩⟩⟩⟩⟩⟩⟩⟩⟩⟩⟩⟩⟩⟩⟩⟩⟩⟩⟩⟩⟩⟩⟩⟩⟩⟩⟩
set_option maxHeartbeats 8000000 in
set_option maxRecDepth 100000 in
theorem TI_start {cn : Nat} {c0 en : Nat → Int32} {e : Nat → Nat} {s1 : Nat → (Nat → Int32) → Int32} {w0 : List va_E} (h29 : w0.length = 29) (hD : ∀ x ∈ w0, xeD 29 x) (hl : LW cn en e) (hs : ∀ part f, sayV c0 e part f = s1 part f) (h99 : SY99 (syN (fun _ _ _ => 0) 0 s1)) : TI ([.inr (2, [.ref 49, .ref 50, .ref 51]), iA cn c0, iA 3 en, iA 40 (fun _ => 0)] ++ w0.map (fun x => xe (fun k => k) (xr rhM) x)) 1 (syN (fun _ _ _ => 0) 0 s1) (mdOf w0) := by
  refine ⟨⟨by decide, h99⟩, fun t ht => ?_, fun j hj => ?_, fun x hx n hn => ?_, ?_⟩
  · obtain rfl : t = 0 := by omega
    exact ⟨cn, c0, en, fun _ => 0, e, rfl, rfl, rfl, rfl, hl, hs⟩
  · rw [List.getElem?_append_right (by show 4 ≤ j + 4; omega)]
    show (w0.map _)[j + 4 - 4]? = _
    rw [Nat.add_sub_cancel, List.getElem?_map]
    rfl
  · rw [List.length_append, List.length_map, h29] at hn
    have hn : 48 + (4 + 29) ≤ n := hn
    rcases List.mem_append.mp hx with h | h
    · simp only [List.mem_cons, List.not_mem_nil, or_false] at h
      rcases h with rfl | rfl | rfl | rfl
      · exact xeB_ok (m := 52) rfl (by omega)
      · exact trivial
      · exact trivial
      · exact trivial
    · obtain ⟨x0, h0, rfl⟩ := List.mem_map.mp h
      exact xeM_S (hD x0 h0) (by omega)
  · rw [List.length_append, List.length_map, h29]
    rfl
set_option maxHeartbeats 16000000 in
set_option maxRecDepth 100000 in
theorem inv_start : START INB := by
  refine ⟨46, 51, 938, _, by decide, by decide, by decide, x_init, fun r w' hq => ?_⟩
  obtain ⟨rfl, hw'⟩ := hq
  have hS52 : ∀ m, 52 ≤ m → ∀ e ∈ w', xeS m e := by
    intro m hm
    rw [hw']
    exact w1_S hm
  have hlen : w'.length = 52 := by rw [hw']; rfl
  have h2 := Co.frQ (K := 29) (w := w' ++ [.inr (6, fsX7)]) [52] x_minit (by decide) (by
        show [(w' ++ [(.inr (6, fsX7) : va_E)])[52]?] = _
        rw [List.getElem?_append_right (by omega), hlen]
        rfl) rfl (by decide) (by decide) (by rw [List.length_append, hlen]; decide)
      (fun r w0 hq => by
        obtain ⟨rfl, O', L', he, hm, op, pt, bg, tk, vl, ou, -, rfl⟩ := hq
        exact ⟨rfl, rfl, List.forall_mem_cons.mpr ⟨xeC_ok rfl, List.forall_mem_cons.mpr ⟨trivial, List.forall_mem_cons.mpr ⟨trivial, List.forall_mem_cons.mpr ⟨trivial, List.forall_mem_cons.mpr ⟨trivial, List.forall_mem_cons.mpr ⟨trivial, List.forall_mem_cons.mpr ⟨trivial, List.forall_mem_cons.mpr ⟨trivial, List.forall_mem_cons.mpr ⟨trivial, List.forall_mem_cons.mpr ⟨trivial, List.forall_mem_cons.mpr ⟨trivial, List.forall_mem_cons.mpr ⟨trivial, List.forall_mem_cons.mpr ⟨trivial, List.forall_mem_cons.mpr ⟨trivial, List.forall_mem_cons.mpr ⟨trivial, List.forall_mem_cons.mpr ⟨trivial, List.forall_mem_cons.mpr ⟨trivial, List.forall_mem_cons.mpr ⟨trivial, List.forall_mem_cons.mpr ⟨trivial, List.forall_mem_cons.mpr ⟨trivial, List.forall_mem_cons.mpr ⟨trivial, List.forall_mem_cons.mpr ⟨trivial, List.forall_mem_cons.mpr ⟨trivial, List.forall_mem_cons.mpr ⟨trivial, List.forall_mem_cons.mpr ⟨trivial, List.forall_mem_cons.mpr ⟨trivial, List.forall_mem_cons.mpr ⟨trivial, List.forall_mem_cons.mpr ⟨trivial, List.forall_mem_cons.mpr ⟨trivial, List.forall_mem_nil _⟩⟩⟩⟩⟩⟩⟩⟩⟩⟩⟩⟩⟩⟩⟩⟩⟩⟩⟩⟩⟩⟩⟩⟩⟩⟩⟩⟩⟩⟩)
      (fun m hm _ e he => by
        rw [List.length_append, hlen] at hm
        rcases List.mem_append.mp he with h | h
        · exact hS52 m (by have : 52 + 1 ≤ m := hm; omega) e h
        · simp only [List.mem_cons, List.not_mem_nil, or_false] at h
          rw [h]
          exact xeB_ok (m := 52) rfl (by have : 52 + 1 ≤ m := hm; omega))
  refine ⟨rfl, hlen, hS52 52 (Nat.le_refl _), 5, 28, 2231, _, by decide, by decide, by decide, h2, ?_⟩
  · intro r2 w2 hq
    obtain ⟨rfl, w0, ⟨-, O', L', he, hm, op, pt, bg, tk, vl, ou, hrr, hw0⟩, hw2⟩ := hq
    refine ⟨rfl, ?_⟩
    obtain ⟨-, Oc, hO, hcn, hcd, h160, hseg⟩ := (txt_rf (B := dfB 50) (N := 50) (by decide) 0 (-1) (fun _ => 0) (fun _ => 0)).2 O' L' hrr
    obtain ⟨e, he1, he2, he3⟩ := new_law (c := fun _ => 0) (cd := fun _ => 0) (sr := fun _ => 0) (t := 0) (by decide) hseg h160
    subst hO
    have hL0 : ML (fun _ => 0) (fun _ => 0) 0 (fun _ _ _ => 0) := ⟨by decide, fun _ _ _ => ⟨by show (0 : Int32) ≤ 0; decide, by show (0 : Int32) ≤ 99; decide⟩, fun t ht => absurd ht (Nat.not_lt_zero t)⟩
    have hL1 := ML_new (t := 0) (s1 := fun part f => sayV (cdP (fun _ => 0) Oc) (fun j => e (j + 1)) part f) (by decide) (fun x hx => cdB_lt (cd0 := fun _ => 0) (Oc.map cC) x hx) (fun x hx => srL_lt (sr0 := fun _ => 0) L' x hx) hL0 he1 he3 (fun q f => sayV_bd _ _ _ _)
    have hl53 : (w' ++ [(.inr (6, fsX7) : va_E)]).length = 53 := by rw [List.length_append, hlen]; rfl
    rw [hl53, xrA_M] at hw2
    have hw2 : w2 = wC (fun _ => 0) (fun _ => 0) (fun _ => 0) (fun _ => 0) (fun _ => 0) 0 0 0 1 9 0 (-1) (fun _ => 0) (fun _ => 0) (fun _ => 0) (fun _ => 0) (fun _ => 0) 0 0 0 1 9 0 (-1) (dfB 50) ((isT (dfB 50) 50 0 (-1) (fun _ => 0) (fun _ => 0)).2.2.cd) ((isT (dfB 50) 50 0 (-1) (fun _ => 0) (fun _ => 0)).2.1) 0 (nI (isT (dfB 50) 50 0 (-1) (fun _ => 0) (fun _ => 0)).2.2.ta) (nI (isT (dfB 50) 50 0 (-1) (fun _ => 0) (fun _ => 0)).2.2.cn) (nI (isT (dfB 50) 50 0 (-1) (fun _ => 0) (fun _ => 0)).2.2.pl) ((isT (dfB 50) 50 0 (-1) (fun _ => 0) (fun _ => 0)).2.2.tk) (fun _ => 0) (fun _ => 0) (fun _ => 0) (fun _ => 0) (fun _ => 0) 0 0 0 1 9 0 (-1) (fun _ => 0) (fun _ => 0) (fun _ => 0) (fun _ => 0) (fun _ => 0) (fun _ => 0) (fun _ => 0) (fun _ => 0) (fun _ => 0) (fun _ => 0) 0 0 0 1 0 0 (fun _ => 0) (fun _ => 0) (fun _ => 0) (fun _ => 0) (fun _ => -1) (fun _ => 0) (fun _ _ => 0) (txN 6) ([.inr (2, [.ref 49, .ref 50, .ref 51]), iA (isT (dfB 50) 50 0 (-1) (fun _ => 0) (fun _ => 0)).2.2.cn (isT (dfB 50) 50 0 (-1) (fun _ => 0) (fun _ => 0)).2.2.cd, iA 3 (isT (dfB 50) 50 0 (-1) (fun _ => 0) (fun _ => 0)).2.1, iA 40 (fun _ => 0)] ++ (wMr (dfB 50) (cdB (fun _ => 0) (200 * 0) (Oc.map cC)) (srL (fun _ => 0) (4 * 0) L') woT he 0 (nI 1) pt bg tk vl hm op ou Jst Kst).map (fun x => xe (fun k => k) (xr rhM) x)) := by
      rw [hw2, hw0, hw']
      generalize isT (dfB 50) 50 0 (-1) (fun _ => 0) (fun _ => 0) = R
      rfl
    rw [hw2]
    intro M hM
    refine hM (fun _ => 0) (fun _ => 0) (fun _ => 0) (fun _ => 0) (fun _ => 0) 0 0 0 0 1 9 (fun _ => 0) (fun _ => 0) (fun _ => 0) (fun _ => 0) (fun _ => 0) 0 0 0 1 9 0 (-1) (dfB 50) ((isT (dfB 50) 50 0 (-1) (fun _ => 0) (fun _ => 0)).2.2.cd) ((isT (dfB 50) 50 0 (-1) (fun _ => 0) (fun _ => 0)).2.1) 0 ((isT (dfB 50) 50 0 (-1) (fun _ => 0) (fun _ => 0)).2.2.ta) (nI (isT (dfB 50) 50 0 (-1) (fun _ => 0) (fun _ => 0)).2.2.cn) (nI (isT (dfB 50) 50 0 (-1) (fun _ => 0) (fun _ => 0)).2.2.pl) ((isT (dfB 50) 50 0 (-1) (fun _ => 0) (fun _ => 0)).2.2.tk) (fun _ => 0) (fun _ => 0) (fun _ => 0) (fun _ => 0) (fun _ => 0) 0 0 0 1 9 0 (-1) (fun _ => 0) (fun _ => 0) (fun _ => 0) (fun _ => 0) (fun _ => 0) (fun _ => 0) (fun _ => 0) (fun _ => 0) (fun _ => 0) (fun _ => 0) 0 0 0 0 0 (fun _ => 0) (fun _ => 0) (fun _ => 0) (fun _ => 0) (fun _ => -1) (fun _ => 0) (fun _ _ => 0) (txN 6) ([.inr (2, [.ref 49, .ref 50, .ref 51]), iA (isT (dfB 50) 50 0 (-1) (fun _ => 0) (fun _ => 0)).2.2.cn (isT (dfB 50) 50 0 (-1) (fun _ => 0) (fun _ => 0)).2.2.cd, iA 3 (isT (dfB 50) 50 0 (-1) (fun _ => 0) (fun _ => 0)).2.1, iA 40 (fun _ => 0)] ++ (wMr (dfB 50) (cdB (fun _ => 0) (200 * 0) (Oc.map cC)) (srL (fun _ => 0) (4 * 0) L') woT he 0 (nI 1) pt bg tk vl hm op ou Jst Kst).map (fun x => xe (fun k => k) (xr rhM) x)) 1 (syN (fun _ _ _ => 0) 0 (fun part f => sayV (cdP (fun _ => 0) Oc) (fun j => e (j + 1)) part f)) (cdB (fun _ => 0) (200 * 0) (Oc.map cC)) (srL (fun _ => 0) (4 * 0) L') (fun _ => 0) (fun _ => 0) (fun _ => 0) (fun _ => 0) (fun _ => 0) 0 0 0 (fun _ _ => 0) (fun i0 => if i0 = 23 then pt else if i0 = 24 then bg else if i0 = 25 then tk else if i0 = 26 then vl else if i0 = 29 then hm else if i0 = 30 then op else if i0 = 31 then ou else Jst i0) (fun i0 => if i0 = 27 then woT else if i0 = 28 then he else Kst i0) ?_ (by decide) (Or.inl rfl) ?_ ?_ hL1 ?_ (fun j hj => rfl)
    · exact ⟨by decide, by decide, by decide, fun c _ => sm_0 9, ⟨9, by decide, rfl⟩, fun c _ => sm_0 5⟩
    · exact ⟨fun s _ => sm_0 40, fun s _ => sm_0 40, fun s _ h => absurd rfl h⟩
    · refine ⟨fun t ht => ?_, fun j n hn => txN_52 (by have : 48 + 33 ≤ n := hn; omega) j⟩
      obtain rfl : t = 0 := by omega
      rfl
    · have h9 := TI_start (cn := (isT (dfB 50) 50 0 (-1) (fun _ => 0) (fun _ => 0)).2.2.cn) (c0 := (isT (dfB 50) 50 0 (-1) (fun _ => 0) (fun _ => 0)).2.2.cd) (en := (isT (dfB 50) 50 0 (-1) (fun _ => 0) (fun _ => 0)).2.1) (e := fun j => e (j + 1)) (s1 := fun part f => sayV (cdP (fun _ => 0) Oc) (fun j => e (j + 1)) part f) (w0 := wMr (dfB 50) (cdB (fun _ => 0) (200 * 0) (Oc.map cC)) (srL (fun _ => 0) (4 * 0) L') woT he 0 (nI 1) pt bg tk vl hm op ou Jst Kst) rfl (fun x hx => by rw [w0_R] at hx; exact wM_D _ _ x hx) (by rw [hcn]; exact he2) (fun part f => by rw [hcd]) hL1.2.1
      rw [w0_R] at h9
      rw [w0_R]
      exact h9
