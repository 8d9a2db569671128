/-! a text: both sides read it alike -/
theorem cdP_at {c0 : Nat → Int32} : ∀ (O : List Int32) (c : Int32), cdP c0 (c :: O) O.length = c := fun O c => pk_us
theorem cdP_lt {c0 : Nat → Int32} (O : List Int32) (c : Int32) {x : Nat} (h : x < O.length) : cdP c0 (c :: O) x = cdP c0 O x := pk_un (by omega)
theorem cdP_inj {c0 : Nat → Int32} : ∀ (O O' : List Int32), O.length = O'.length → (∀ x, x < O.length → cdP c0 O x = cdP c0 O' x) → O = O'
  | [], [], _, _ => rfl
  | [], c :: O', h, _ => by cases h
  | c :: O, [], h, _ => by cases h
  | c :: O, c' :: O', h, hx => by
    have hl : O.length = O'.length := Nat.succ.inj h
    have h1 : c = c' := by
      have := hx O.length (Nat.lt_succ_self _)
      rw [cdP_at, hl, cdP_at] at this
      exact this
    have h2 : O = O' := cdP_inj O O' hl (fun x h => by
      have := hx x (Nat.lt_succ_of_lt h)
      rw [cdP_lt O c h, cdP_lt O' c' (by omega)] at this
      exact this)
    rw [h1, h2]
/-- what n parts, from part k on, laid -/
def SegR : Nat → Nat → (Nat → Int32) → List Int32 → List Nat → (Nat → Int32) → List Int32 → List Nat → Prop
  | 0, _, E, Oc, L, E', Oc', L' => E' = E ∧ Oc' = Oc ∧ L' = Oc.length :: L
  | n + 1, k, E, Oc, L, E', Oc', L' => ∃ D, GdE 31 D ∧ SegR n (k + 1) (upd E k (nI (D ++ Oc).length)) (D ++ Oc) (Oc.length :: L) E' Oc' L'
section
variable {B c0 : Nat → Int32} {N : Nat}
theorem pt_rf (hN : N ≤ 160) : ∀ (n k : Nat) (E : Nat → Int32) (s : TS) (Oc : List Int32) (p : Nat) (L : List Nat), tkS s = lkF B N p → p ≤ N → Oc.length ≤ p → s.cn = Oc.length → s.cd = cdP c0 Oc →
    (∀ b, rfR B N n k (Oc.map cC) p L = .inl b → (ptR B N n k E s).1 = false ∧ (ptR B N n k E s).2.2.ta = b) ∧
    (∀ O' L', rfR B N n k (Oc.map cC) p L = .inr (O', L') → (ptR B N n k E s).1 = true ∧ ∃ Oc', O' = Oc'.map cC ∧ (ptR B N n k E s).2.2.cn = Oc'.length ∧ (ptR B N n k E s).2.2.cd = cdP c0 Oc' ∧ Oc'.length ≤ 160 ∧ SegR n k E Oc L (ptR B N n k E s).2.1 Oc' L') := by
  intro n
  induction n with
  | zero =>
    intro k E s Oc p L hs hp hO hcn hcd
    have htk : s.tk = (lkF B N p).2.2 := congrArg (fun q => q.2.2) hs
    have hta : s.ta = (lkF B N p).2.1 := congrArg (fun q => q.2.1) hs
    by_cases he : (lkF B N p).2.2 = -1
    · rw [rf_e he]
      refine ⟨fun b h => (by cases h), fun O' L' h => ?_⟩
      injection h with h
      injection h with h1 h2
      subst h1 h2
      refine ⟨?_, Oc, rfl, hcn, hcd, by omega, rfl, rfl, ?_⟩
      · show decide (s.tk = -1) = true
        rw [htk, he]
        rfl
      · rw [List.length_map]
    · rw [rf_n he]
      refine ⟨fun b h => ?_, fun O' L' h => (by cases h)⟩
      injection h with h
      refine ⟨?_, hta.trans h⟩
      show decide (s.tk = -1) = false
      rw [htk]
      exact decide_eq_false he
  | succ n ih =>
    intro k E s Oc p L hs hp hO hcn hcd
    have htk : s.tk = (lkF B N p).2.2 := congrArg (fun q => q.2.2) hs
    have hta : s.ta = (lkF B N p).2.1 := congrArg (fun q => q.2.1) hs
    have hpl : s.pl = (lkF B N p).1 := congrArg (fun q => q.1) hs
    obtain ⟨k1, k2, k3, k4⟩ := lkF_gt (B := B) hp
    by_cases hw : (lkF B N p).2.2 = -10 - nI k
    · have hps : psS B N ((-10) - nI k) s = (true, lkS B N s) := by unfold psS; rw [if_pos (htk.trans hw)]
      have hs1 : tkS (lkS B N s) = lkF B N (lkF B N p).1 := by
        show lkF B N s.pl = _
        rw [hpl]
      obtain ⟨l1, l2, l3, l4⟩ := lkF_gt (B := B) (N := N) k3
      have hpos := lk_pos (B := B) hp
      have hIv : IvR B c0 N Oc [] (lkS B N s) := by
        refine ⟨hcn, hcd, ?_, ?_, ?_, ?_⟩
        · show Oc.length + 0 ≤ (lkF B N s.pl).2.1
          rw [hpl]; omega
        · show (lkF B N s.pl).1 ≤ N
          rw [hpl]; exact l3
        · show (lkF B N s.pl).2.1 ≤ N
          rw [hpl]; exact l2
        · show (lkF B N s.pl).2.2 = -1 ∨ (lkF B N s.pl).2.1 < (lkF B N s.pl).1
          rw [hpl]; exact l4
      obtain ⟨f1, f2⟩ := (lv_all (B := B) (c0 := c0) hN 5).2.2 [] rfl rfl (lkS B N s) Oc hIv trivial
      have hgd := (gd_all (B := B) (N := N) (c0 := c0) 5).2.2 (lkS B N s) Oc hcn hcd
      have hpt : ptR B N (n + 1) k E s = if ((rdL B N 5).2.2 (lkS B N s)).1 = true then
          (if (psS B N (-5) ((rdL B N 5).2.2 (lkS B N s)).2).1 = true then ptR B N n (k + 1) (upd E k (nI ((rdL B N 5).2.2 (lkS B N s)).2.cn)) (psS B N (-5) ((rdL B N 5).2.2 (lkS B N s)).2).2
          else (false, upd E k (nI ((rdL B N 5).2.2 (lkS B N s)).2.cn), (psS B N (-5) ((rdL B N 5).2.2 (lkS B N s)).2).2))
          else (false, E, ((rdL B N 5).2.2 (lkS B N s)).2) := by
        simp only [ptR]
        rw [hps, if_pos rfl]
      rw [hpt]
      rw [hs1] at f1 f2
      generalize (rdL B N 5).2.2 (lkS B N s) = r at f1 f2 hgd ⊢
      cases hr : r.1 with
      | false =>
        rw [if_neg (by exact Bool.false_ne_true), rf_y hw (f1 hr)]
        refine ⟨fun b h => ?_, fun O' L' h => (by cases h)⟩
        injection h with h
        exact ⟨rfl, h⟩
      | true =>
        rw [if_pos rfl]
        obtain ⟨O2, hi2, ht2, hy2⟩ := f2 hr
        obtain ⟨D, hD, d1, d2⟩ := hgd hr
        have hO2 : O2 = D ++ Oc := cdP_inj (c0 := c0) O2 (D ++ Oc) (hi2.1.symm.trans d1) (fun x _ => by rw [← hi2.2.1, d2])
        by_cases h5 : r.2.tk = -5
        · have hps2 : psS B N (-5) r.2 = (true, lkS B N r.2) := by unfold psS; rw [if_pos h5]
          rw [hps2, if_pos rfl]
          have hY : Yv B N (some true) [] (Oc.map cC) (lkF B N (lkF B N p).1) = .inr (O2.map cC, r.2.pl) := by
            rcases hy2 with ⟨a, b⟩ | ⟨-, a, -⟩
            · rw [b, show tkS r.2 = (r.2.pl, r.2.ta, -5) by unfold tkS; rw [h5], Yv_semi hi2.2.2.2.1]
              rfl
            · rw [h5] at a
              exact absurd a (by unfold cmT; decide)
          rw [rf_go hw hY]
          have hlt : r.2.ta < r.2.pl := hi2.2.2.2.2.2.resolve_left (by rw [h5]; decide)
          have h9 := hi2.2.2.1
          have h9 : O2.length + 0 ≤ r.2.ta := h9
          obtain ⟨i1, i2⟩ := ih (k + 1) (upd E k (nI r.2.cn)) (lkS B N r.2) O2 r.2.pl ((Oc.map cC).length :: L) rfl hi2.2.2.2.1 (by omega) hi2.1 hi2.2.1
          refine ⟨i1, fun O' L' h => ?_⟩
          obtain ⟨j1, Oc', j2, j3, j4, j5, j6⟩ := i2 O' L' h
          refine ⟨j1, Oc', j2, j3, j4, j5, D, hD, ?_⟩
          rw [← hO2, ← hi2.1]
          rw [List.length_map] at j6
          exact j6
        · have hps2 : psS B N (-5) r.2 = (false, r.2) := by unfold psS; rw [if_neg h5]
          rw [hps2, if_neg (by exact Bool.false_ne_true)]
          have hY : Yv B N (some true) [] (Oc.map cC) (lkF B N (lkF B N p).1) = .inl r.2.ta := by
            rcases hy2 with ⟨a, b⟩ | ⟨-, -, b⟩
            · rw [b]
              show Yv B N none [] (O2.map cC) (r.2.pl, r.2.ta, r.2.tk) = _
              by_cases h4 : r.2.tk = -4
              · rw [h4, Yv_close hi2.2.2.2.1]
                rfl
              · refine Yv_nos hi2.2.2.2.1 h5 h4 ?_
                obtain ⟨n1, n2, n3, n4, n5, n6, n7⟩ := a
                unfold sgR
                rw [if_neg n1, if_neg n2, if_neg n3, if_neg n4, if_neg n5, if_neg n6, if_neg n7]
            · exact b
          rw [rf_y hw hY]
          refine ⟨fun b h => ?_, fun O' L' h => (by cases h)⟩
          injection h with h
          exact ⟨rfl, h⟩
    · have hps : psS B N ((-10) - nI k) s = (false, s) := by unfold psS; rw [if_neg (fun e => hw (htk.symm.trans e))]
      have hpt : ptR B N (n + 1) k E s = (false, E, s) := by
        simp only [ptR]
        rw [hps, if_neg (by exact Bool.false_ne_true)]
      rw [hpt, rf_k hw]
      refine ⟨fun b h => ?_, fun O' L' h => (by cases h)⟩
      injection h with h
      exact ⟨rfl, hta.trans h⟩
/-- the component's text against the reference's -/
theorem txt_rf (hN : N ≤ 160) (a : Nat) (t : Int32) (E c : Nat → Int32) :
    (∀ b, rfR B N 3 0 [] 0 [] = .inl b → (isT B N a t E c).1 = false ∧ (isT B N a t E c).2.2.ta = b) ∧
    (∀ O' L', rfR B N 3 0 [] 0 [] = .inr (O', L') → (isT B N a t E c).1 = true ∧ ∃ Oc', O' = Oc'.map cC ∧ (isT B N a t E c).2.2.cn = Oc'.length ∧ (isT B N a t E c).2.2.cd = cdP c Oc' ∧ Oc'.length ≤ 160 ∧ SegR 3 0 E [] [] (isT B N a t E c).2.1 Oc' L') :=
  pt_rf hN 3 0 E (lkS B N (txS a t c)) [] 0 [] rfl (Nat.zero_le _) (Nat.zero_le _) rfl rfl
end
