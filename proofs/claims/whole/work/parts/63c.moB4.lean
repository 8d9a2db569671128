/-- people as they come -/
abbrev OS : Type := (Nat → Int32) × (Nat → Int32) × (Nat → Int32) × Nat
def one1 (t : OS) (a b c : Int32) : OS := if mOne a b c ∧ t.2.2.2 < 5 then (upd t.1 t.2.2.2 a, upd t.2.1 t.2.2.2 b, upd t.2.2.1 t.2.2.2 c, t.2.2.2 + 1) else t
def oneV (P : Nat) (a b c : Int32) : Int32 := if mOne a b c then (if P < 5 then nI P else -4) else -2
theorem one1_le {t : OS} {a b c : Int32} (h : t.2.2.2 ≤ 5) : (one1 t a b c).2.2.2 ≤ 5 := by
  unfold one1
  split
  · next q => show t.2.2.2 + 1 ≤ 5; omega
  · exact h
theorem oneV_neg {P : Nat} {a b c : Int32} (hP : P ≤ 5) : oneV P a b c < 0 ↔ ¬ (mOne a b c ∧ P < 5) := by
  unfold oneV
  by_cases h : mOne a b c
  · rw [if_pos h]
    by_cases h2 : P < 5
    · rw [if_pos h2]
      exact ⟨fun q => absurd q (nI_pos (by omega)), fun q => absurd ⟨h, h2⟩ q⟩
    · rw [if_neg h2]
      exact ⟨fun _ q => h2 q.2, fun _ => by decide⟩
  · rw [if_neg h]
    exact ⟨fun _ q => h q.1, fun _ => by decide⟩
def obR (cl : Nat → Int32) (size from_ : Int32) : Nat → Nat → OS → Int32 → Int32 × OS
  | 0, _, t, came => (came, t)
  | n + 1, k, t, came => if shHas size (from_ + nI (3 * k)) 3 then obR cl size from_ n (k + 1) (one1 t (cl (from_ + nI (3 * k)).toNatClampNeg) (cl ((from_ + nI (3 * k)).toNatClampNeg + 1)) (cl ((from_ + nI (3 * k)).toNatClampNeg + 2))) (if mOne (cl (from_ + nI (3 * k)).toNatClampNeg) (cl ((from_ + nI (3 * k)).toNatClampNeg + 1)) (cl ((from_ + nI (3 * k)).toNatClampNeg + 2)) ∧ t.2.2.2 < 5 then came + 1 else came) else (-12, t)
theorem has3 {size x : Int32} (hz : sm 40 size) (h : shHas size x 3) : ∃ q : Nat, q + 3 ≤ 40 ∧ x = nI q := by
  obtain ⟨s, hs, rfl⟩ := hz
  obtain ⟨h0, -, h2, h3⟩ := h
  obtain ⟨q, hq, rfl⟩ := nI_of (Int32.not_lt.mpr h0)
  rw [nI_leI hq (by omega)] at h2
  rw [pk_sub h2, show (3 : Int32) = nI 3 from rfl, nI_leI (by omega) (by omega)] at h3
  exact ⟨q, by omega, rfl⟩
theorem has_iff {size from_ : Int32} {k : Nat} (hz : sm 40 size) (hk : k ≤ 5) (hf : k = 0 ∨ 0 ≤ from_) : shHas size (from_ + nI (3 * k)) 3 ↔ ¬ (from_ < 0) ∧ ¬ (from_ + nI (3 * k) < from_) ∧ from_ + nI (3 * k) ≤ size - 3 := by
  obtain ⟨s, hs, rfl⟩ := hz
  by_cases h0 : from_ < 0
  · have hk0 : k = 0 := by
      rcases hf with h | h
      · exact h
      · exact absurd h0 (Int32.not_lt.mpr h)
    subst hk0
    have e : from_ + nI (3 * 0) = from_ := by rw [Nat.mul_zero, nI_0]; simp
    rw [e]
    exact ⟨fun h => absurd h0 (Int32.not_lt.mpr h.1), fun h => absurd h0 h.1⟩
  · obtain ⟨a, ha, rfl⟩ := nI_of h0
    by_cases hb : a + 3 * k < 2 ^ 31
    · rw [nI_add]
      have e3 : (nI s - 3).toInt = (s : Int) - 3 := by rw [show (3 : Int32) = nI 3 from rfl, pk_sub_toInt (by omega) (by omega)]; rfl
      constructor
      · intro h
        obtain ⟨-, -, h2, h3⟩ := h
        rw [nI_leI (by omega) (by omega)] at h2
        rw [pk_sub h2, show (3 : Int32) = nI 3 from rfl, nI_leI (by omega) (by omega)] at h3
        refine ⟨h0, nI_nlt (by omega) (by omega), ?_⟩
        rw [Int32.le_iff_toInt_le, e3, nI_toInt (by omega)]
        omega
      · intro h
        have h3 := h.2.2
        rw [Int32.le_iff_toInt_le, e3, nI_toInt (by omega)] at h3
        refine ⟨nI_pos' (by omega), by decide, nI_le (by omega) (by omega), ?_⟩
        rw [pk_sub (by omega), show (3 : Int32) = nI 3 from rfl]
        exact nI_le (by omega) (by omega)
    · have e1 : (nI a + nI (3 * k)).toInt = (a : Int) + 3 * k - 4294967296 := by
        rw [Int32.toInt_add, nI_toInt ha, nI_toInt (by omega), Int.bmod_def]
        rw [if_neg (by omega)]
        omega
      constructor
      · intro h
        have h1 := h.1
        rw [Int32.le_iff_toInt_le, e1] at h1
        have z0 : (0 : Int32).toInt = 0 := rfl
        omega
      · intro h
        have h1 := h.2.1
        rw [Int32.lt_iff_toInt_lt, e1, nI_toInt ha] at h1
        omega
theorem m_one (ki mo ho cd sr stk names till sitter on was sat stood rose turn : Nat → Int32) (ch ru lent : Int32) (J : Nat → Int32) (K : Nat → Nat → Int32) (fr lo fa : Nat → Int32) (P : Nat) (hP : P ≤ 5) (a b c : Int32) : Co M_X7_one 1 0 0 [.ref 0, .int a, .int b, .int c] (wMv (wiF fr lo fa) ki mo ho cd sr stk names till sitter on was sat stood rose turn (nI P) ch ru lent J K) (Qi (oneV P a b c) (wMv (wiF (one1 (fr, lo, fa, P) a b c).1 (one1 (fr, lo, fa, P) a b c).2.1 (one1 (fr, lo, fa, P) a b c).2.2.1) ki mo ho cd sr stk names till sitter on was sat stood rose turn (nI (one1 (fr, lo, fa, P) a b c).2.2.2) ch ru lent J K)) := by
  refine (c_X7_one ki mo ho cd sr stk names till sitter on was sat stood rose turn ch ru lent J K fr lo fa P hP a b c).imp ?_
  rintro r w' (⟨h, rfl, rfl⟩ | ⟨h, rfl, rfl⟩ | ⟨h, rfl, rfl⟩)
  · have e1 : oneV P a b c = -2 := by unfold oneV; rw [if_neg h]
    have e2 : one1 (fr, lo, fa, P) a b c = (fr, lo, fa, P) := if_neg (fun q => h q.1)
    rw [e1, e2]
    exact ⟨rfl, rfl⟩
  · have e1 : oneV P a b c = -4 := by unfold oneV; rw [if_pos h.1, if_neg (by omega)]
    have e2 : one1 (fr, lo, fa, P) a b c = (fr, lo, fa, P) := if_neg (fun q => absurd q.2 (by have := h.2; show ¬ P < 5; omega))
    rw [e1, e2]
    exact ⟨rfl, rfl⟩
  · have e1 : oneV P a b c = nI P := by unfold oneV; rw [if_pos h.1, if_pos h.2]
    have e2 : one1 (fr, lo, fa, P) a b c = (upd fr P a, upd lo P b, upd fa P c, P + 1) := if_pos h
    rw [e1, e2]
    exact ⟨rfl, rfl⟩
set_option maxHeartbeats 4000000 in
set_option maxRecDepth 100000 in
theorem l_X7_onesBy_63 {Q : Option Value → List va_E → Prop} {d : Nat} (hd : 2 ≤ d) (ki mo ho cd sr so sz stk names till sitter on was sat stood rose turn : Nat → Int32) (ch ru lent : Int32) (J : Nat → Int32) (K : Nat → Nat → Int32) (g : Nat → Nat → Int32)  (s S : Nat) (sort fm : Int32) (V : Int32 × OS) (hs : s < 4) (hS : S ≤ 5) (hsz : ∀ s, s < 4 → sm 40 (sz s)) (hQ : Q (some (.int V.1)) (wMf (wiF V.2.1 V.2.2.1 V.2.2.2.1) ki mo ho cd sr so sz (ceF g) stk names till sitter on was sat stood rose turn (nI V.2.2.2.2) ch ru lent J K)) :
    ∀ (n i : Nat) (t : OS) (came : Int32), i ≤ S → S + 1 ≤ i + n → t.2.2.2 ≤ 5 → (i = 0 ∨ 0 ≤ fm) → obR (g s) (sz s) fm (S - i) i t came = V → WW M_X7_onesBy d Q xz 63 [(0, .ref 0), (1, .int (nI s)), (2, .int sort), (3, .int fm), (4, .int (nI S)), (5, .int came), (6, .int (nI i))] [] (wMf (wiF t.1 t.2.1 t.2.2.1) ki mo ho cd sr so sz (ceF g) stk names till sitter on was sat stood rose turn (nI t.2.2.2) ch ru lent J K) := by
  intro n
  induction n with
  | zero => intro i; intros; omega
  | succ n ih =>
    intro i t came hi hn ht hf hv
    refine ww_run 37 2 (pc' := 67) (lv' := [(0, .ref 0), (1, .int (nI s)), (2, .int sort), (3, .int fm), (4, .int (nI S)), (5, .int came), (6, .int (nI i))]) (st' := [.int (nI S), .int (nI i)]) (w' := wMf (wiF t.1 t.2.1 t.2.2.1) ki mo ho cd sr so sz (ceF g) stk names till sitter on was sat stood rose turn (nI t.2.2.2) ch ru lent J K) (Ps := []) rfl trivial ?_
    refine ww_icmp_ge 39 rfl (tgt := 161) rfl (fun c1 => ?_) (fun c1 => ?_)
    · have c1 : S ≤ i := (nI_leI (a := S) (b := i) (by omega) (by omega)).mp c1
      refine ww_run 94 1 (pc' := 163) (lv' := [(0, .ref 0), (1, .int (nI s)), (2, .int sort), (3, .int fm), (4, .int (nI S)), (5, .int came), (6, .int (nI i))]) (st' := [.int came]) (w' := wMf (wiF t.1 t.2.1 t.2.2.1) ki mo ho cd sr so sz (ceF g) stk names till sitter on was sat stood rose turn (nI t.2.2.2) ch ru lent J K) (Ps := []) rfl trivial ?_
      refine ww_iret 95 rfl rfl ?_
      obtain rfl : i = S := by omega
      rw [Nat.sub_self] at hv
      simp only [obR] at hv
      subst hv
      exact hQ
    · have c1 : ¬ S ≤ i := fun q => c1 ((nI_leI (a := S) (b := i) (by omega) (by omega)).mpr q)
      refine ww_run 40 7 (pc' := 79) (lv' := [(7, .int (fm + (3 * (nI i)))), (0, .ref 0), (1, .int (nI s)), (2, .int sort), (3, .int fm), (4, .int (nI S)), (5, .int came), (6, .int (nI i))]) (st' := [.int fm]) (w' := wMf (wiF t.1 t.2.1 t.2.2.1) ki mo ho cd sr so sz (ceF g) stk names till sitter on was sat stood rose turn (nI t.2.2.2) ch ru lent J K) (Ps := []) rfl trivial ?_
      rw [show (3 : Int32) * nI i = nI (3 * i) from pk_mul 3 i]
      refine ww_if_lt 47 rfl (tgt := 101) rfl (fun c2 => ?_) (fun c2 => ?_)
      · refine ww_run 59 1 (pc' := 103) (lv' := [(7, .int (fm + (nI (3 * i)))), (0, .ref 0), (1, .int (nI s)), (2, .int sort), (3, .int fm), (4, .int (nI S)), (5, .int came), (6, .int (nI i))]) (st' := [.int (-12)]) (w' := wMf (wiF t.1 t.2.1 t.2.2.1) ki mo ho cd sr so sz (ceF g) stk names till sitter on was sat stood rose turn (nI t.2.2.2) ch ru lent J K) (Ps := []) rfl trivial ?_
        refine ww_iret 60 rfl rfl ?_
        have hn3 : ¬ shHas (sz s) (fm + nI (3 * i)) 3 := fun z => by
          have z := (has_iff (hsz s hs) (by omega) hf).mp z
          obtain ⟨z1, z2, z3⟩ := z
          first | exact z1 c2 | exact z2 c2 | exact c2 z3
        rw [show S - i = (S - (i + 1)) + 1 by omega] at hv
        simp only [obR] at hv
        rw [if_neg hn3] at hv
        subst hv
        exact hQ
      · refine ww_run 48 2 (pc' := 85) (lv' := [(7, .int (fm + (nI (3 * i)))), (0, .ref 0), (1, .int (nI s)), (2, .int sort), (3, .int fm), (4, .int (nI S)), (5, .int came), (6, .int (nI i))]) (st' := [.int fm, .int (fm + (nI (3 * i)))]) (w' := wMf (wiF t.1 t.2.1 t.2.2.1) ki mo ho cd sr so sz (ceF g) stk names till sitter on was sat stood rose turn (nI t.2.2.2) ch ru lent J K) (Ps := []) rfl trivial ?_
        refine ww_icmp_lt 50 rfl (tgt := 101) rfl (fun c3 => ?_) (fun c3 => ?_)
        · refine ww_run 59 1 (pc' := 103) (lv' := [(7, .int (fm + (nI (3 * i)))), (0, .ref 0), (1, .int (nI s)), (2, .int sort), (3, .int fm), (4, .int (nI S)), (5, .int came), (6, .int (nI i))]) (st' := [.int (-12)]) (w' := wMf (wiF t.1 t.2.1 t.2.2.1) ki mo ho cd sr so sz (ceF g) stk names till sitter on was sat stood rose turn (nI t.2.2.2) ch ru lent J K) (Ps := []) rfl trivial ?_
          refine ww_iret 60 rfl rfl ?_
          have hn3 : ¬ shHas (sz s) (fm + nI (3 * i)) 3 := fun z => by
            have z := (has_iff (hsz s hs) (by omega) hf).mp z
            obtain ⟨z1, z2, z3⟩ := z
            first | exact z1 c3 | exact z2 c3 | exact c3 z3
          rw [show S - i = (S - (i + 1)) + 1 by omega] at hv
          simp only [obR] at hv
          rw [if_neg hn3] at hv
          subst hv
          exact hQ
        · refine ww_run 51 7 (pc' := 98) (lv' := [(7, .int (fm + (nI (3 * i)))), (0, .ref 0), (1, .int (nI s)), (2, .int sort), (3, .int fm), (4, .int (nI S)), (5, .int came), (6, .int (nI i))]) (st' := [.int ((sz (nI s).toNatClampNeg) - 3), .int (fm + (nI (3 * i)))]) (w' := wMf (wiF t.1 t.2.1 t.2.2.1) ki mo ho cd sr so sz (ceF g) stk names till sitter on was sat stood rose turn (nI t.2.2.2) ch ru lent J K) (Ps := [vp_in (nI s) 4]) rfl ⟨(vp_in_nI (by omega) (by omega)), trivial⟩ ?_
          rw [nI_clamp (n := s) (by omega)]
          refine ww_icmp_le 58 rfl (tgt := 104) rfl (fun c4 => ?_) (fun c4 => ?_)
          · have hh3 : shHas (sz s) (fm + nI (3 * i)) 3 := (has_iff (hsz s hs) (by omega) hf).mpr ⟨c2, c3, c4⟩
            obtain ⟨q, hq, eq⟩ := has3 (hsz s hs) hh3
            rw [eq]
            refine ww_run 61 24 (pc' := 141) (lv' := [(8, .int ((40 * (nI s)) + (nI q))), (7, .int (nI q)), (0, .ref 0), (1, .int (nI s)), (2, .int sort), (3, .int fm), (4, .int (nI S)), (5, .int came), (6, .int (nI i))]) (st' := [.int ((ceF g) (((40 * (nI s)) + (nI q)) + 2).toNatClampNeg), .int ((ceF g) (((40 * (nI s)) + (nI q)) + 1).toNatClampNeg), .int ((ceF g) ((40 * (nI s)) + (nI q)).toNatClampNeg), .ref 0, .int came]) (w' := wMf (wiF t.1 t.2.1 t.2.2.1) ki mo ho cd sr so sz (ceF g) stk names till sitter on was sat stood rose turn (nI t.2.2.2) ch ru lent J K) (Ps := [vp_in ((40 * (nI s)) + (nI q)) 160, vp_in (((40 * (nI s)) + (nI q)) + 1) 160, vp_in (((40 * (nI s)) + (nI q)) + 2) 160]) rfl ⟨(by rw [show (40 : Int32) * nI s = nI (40 * s) from pk_mul 40 s, nI_add (40 * s) q]; exact vp_in_nI (by omega) (by omega)), (by rw [show (40 : Int32) * nI s = nI (40 * s) from pk_mul 40 s, nI_add (40 * s) q, nI_1 (40 * s + q)]; exact vp_in_nI (by omega) (by omega)), (by rw [show (40 : Int32) * nI s = nI (40 * s) from pk_mul 40 s, nI_add (40 * s) q, show nI (40 * s + q) + (2 : Int32) = nI ((40 * s + q) + 2) from nI_add (40 * s + q) 2]; exact vp_in_nI (by omega) (by omega)), trivial⟩ ?_
            rw [show (40 : Int32) * nI s = nI (40 * s) from pk_mul 40 s]
            rw [nI_add (40 * s) q]
            rw [nI_clamp (n := (40 * s + q)) (by omega)]
            rw [nI_1 (40 * s + q)]
            rw [nI_clamp (n := ((40 * s + q) + 1)) (by omega)]
            rw [show nI (40 * s + q) + (2 : Int32) = nI ((40 * s + q) + 2) from nI_add (40 * s + q) 2]
            rw [nI_clamp (n := (40 * s + q + 2)) (by omega)]
            rw [show ceF g (40 * s + q) = g s q from ceF_at (by omega), show ceF g (40 * s + q + 1) = g s (q + 1) from ceF_at (k := q + 1) (by omega), show ceF g (40 * s + q + 2) = g s (q + 2) from ceF_at (k := q + 2) (by omega)]
            refine ww_cVi 85 ok_X7_one (m_one ki mo ho cd sr stk names till sitter on was sat stood rose turn ch ru lent J (fun q => if q = 19 then so else if q = 20 then sz else if q = 21 then ceF g else K q) t.1 t.2.1 t.2.2.1 t.2.2.2 ht (g s q) (g s (q + 1)) (g s (q + 2))) lk_X7_336 rfl (by omega) (rest := [.int came]) rfl (Nat.le_of_ble_eq_true rfl) rfl rfl rfl rfl ?_
            refine ww_if_lt 86 rfl (tgt := 151) rfl (fun c5 => ?_) (fun c5 => ?_)
            · refine ww_run 89 5 (pc' := 63) (lv' := [(6, .int ((nI i) + 1)), (5, .int (came + 0)), (8, .int (nI (40 * s + q))), (7, .int (nI q)), (0, .ref 0), (1, .int (nI s)), (2, .int sort), (3, .int fm), (4, .int (nI S))]) (st' := []) (w' := wMf (wiF (one1 (t.1, t.2.1, t.2.2.1, t.2.2.2) (g s q) (g s (q + 1)) (g s (q + 2))).1 (one1 (t.1, t.2.1, t.2.2.1, t.2.2.2) (g s q) (g s (q + 1)) (g s (q + 2))).2.1 (one1 (t.1, t.2.1, t.2.2.1, t.2.2.2) (g s q) (g s (q + 1)) (g s (q + 2))).2.2.1) ki mo ho cd sr so sz (ceF g) stk names till sitter on was sat stood rose turn (nI (one1 (t.1, t.2.1, t.2.2.1, t.2.2.2) (g s q) (g s (q + 1)) (g s (q + 2))).2.2.2) ch ru lent J K) (Ps := []) rfl trivial ?_
              rw [nI_1 i]
              refine ww_lv [4, 5, 6, 7, 8, 1, 0] (lv' := [(0, .ref 0), (1, .int (nI s)), (2, .int sort), (3, .int fm), (4, .int (nI S)), (5, .int (came + 0)), (6, .int (nI (i + 1)))]) rfl ?_
              rw [show came + 0 = came from by simp]
              refine ih (i + 1) (one1 t (g s q) (g s (q + 1)) (g s (q + 2))) (came) (by omega) (by omega) (one1_le ht) (Or.inr (Int32.not_lt.mp c2)) ?_
              rw [show S - i = (S - (i + 1)) + 1 by omega] at hv
              simp only [obR] at hv
              rw [if_pos hh3, eq, nI_clamp (n := q) (by omega)] at hv
              rw [if_neg ((oneV_neg ht).mp c5)] at hv
              exact hv
            · refine ww_run 87 2 (pc' := 152) (lv' := [(8, .int (nI (40 * s + q))), (7, .int (nI q)), (0, .ref 0), (1, .int (nI s)), (2, .int sort), (3, .int fm), (4, .int (nI S)), (5, .int came), (6, .int (nI i))]) (st' := [.int 1, .int came]) (w' := wMf (wiF (one1 (t.1, t.2.1, t.2.2.1, t.2.2.2) (g s q) (g s (q + 1)) (g s (q + 2))).1 (one1 (t.1, t.2.1, t.2.2.1, t.2.2.2) (g s q) (g s (q + 1)) (g s (q + 2))).2.1 (one1 (t.1, t.2.1, t.2.2.1, t.2.2.2) (g s q) (g s (q + 1)) (g s (q + 2))).2.2.1) ki mo ho cd sr so sz (ceF g) stk names till sitter on was sat stood rose turn (nI (one1 (t.1, t.2.1, t.2.2.1, t.2.2.2) (g s q) (g s (q + 1)) (g s (q + 2))).2.2.2) ch ru lent J K) (Ps := []) rfl trivial ?_
              refine ww_run 90 4 (pc' := 63) (lv' := [(6, .int ((nI i) + 1)), (5, .int (came + 1)), (8, .int (nI (40 * s + q))), (7, .int (nI q)), (0, .ref 0), (1, .int (nI s)), (2, .int sort), (3, .int fm), (4, .int (nI S))]) (st' := []) (w' := wMf (wiF (one1 (t.1, t.2.1, t.2.2.1, t.2.2.2) (g s q) (g s (q + 1)) (g s (q + 2))).1 (one1 (t.1, t.2.1, t.2.2.1, t.2.2.2) (g s q) (g s (q + 1)) (g s (q + 2))).2.1 (one1 (t.1, t.2.1, t.2.2.1, t.2.2.2) (g s q) (g s (q + 1)) (g s (q + 2))).2.2.1) ki mo ho cd sr so sz (ceF g) stk names till sitter on was sat stood rose turn (nI (one1 (t.1, t.2.1, t.2.2.1, t.2.2.2) (g s q) (g s (q + 1)) (g s (q + 2))).2.2.2) ch ru lent J K) (Ps := []) rfl trivial ?_
              rw [nI_1 i]
              refine ww_lv [4, 5, 6, 7, 8, 1, 0] (lv' := [(0, .ref 0), (1, .int (nI s)), (2, .int sort), (3, .int fm), (4, .int (nI S)), (5, .int (came + 1)), (6, .int (nI (i + 1)))]) rfl ?_
              refine ih (i + 1) (one1 t (g s q) (g s (q + 1)) (g s (q + 2))) (came + 1) (by omega) (by omega) (one1_le ht) (Or.inr (Int32.not_lt.mp c2)) ?_
              rw [show S - i = (S - (i + 1)) + 1 by omega] at hv
              simp only [obR] at hv
              rw [if_pos hh3, eq, nI_clamp (n := q) (by omega)] at hv
              rw [if_pos (Classical.not_not.mp (fun z => c5 ((oneV_neg ht).mpr z)))] at hv
              exact hv
          · refine ww_run 59 1 (pc' := 103) (lv' := [(7, .int (fm + (nI (3 * i)))), (0, .ref 0), (1, .int (nI s)), (2, .int sort), (3, .int fm), (4, .int (nI S)), (5, .int came), (6, .int (nI i))]) (st' := [.int (-12)]) (w' := wMf (wiF t.1 t.2.1 t.2.2.1) ki mo ho cd sr so sz (ceF g) stk names till sitter on was sat stood rose turn (nI t.2.2.2) ch ru lent J K) (Ps := []) rfl trivial ?_
            refine ww_iret 60 rfl rfl ?_
            have hn3 : ¬ shHas (sz s) (fm + nI (3 * i)) 3 := fun z => by
              have z := (has_iff (hsz s hs) (by omega) hf).mp z
              obtain ⟨z1, z2, z3⟩ := z
              first | exact z1 c4 | exact z2 c4 | exact c4 z3
            rw [show S - i = (S - (i + 1)) + 1 by omega] at hv
            simp only [obR] at hv
            rw [if_neg hn3] at hv
            subst hv
            exact hQ
set_option maxHeartbeats 4000000 in
set_option maxRecDepth 100000 in
theorem m_onesBy (ki mo ho cd sr so sz stk names till sitter on was sat stood rose turn : Nat → Int32) (ch ru lent : Int32) (J : Nat → Int32) (K : Nat → Nat → Int32) (g : Nat → Nat → Int32) (fr lo fa : Nat → Int32) (P : Nat) (hP : P ≤ 5) (hsz : ∀ s, s < 4 → sm 40 (sz s)) (ss sort fm nn : Int32) : Co M_X7_onesBy 3 0 0 [.ref 0, .int ss, .int sort, .int fm, .int nn] (wMf (wiF fr lo fa) ki mo ho cd sr so sz (ceF g) stk names till sitter on was sat stood rose turn (nI P) ch ru lent J K) (fun r w' => ((¬ (mIn ss 0 3 ∧ mIn sort 0 2 ∧ mIn nn 0 5)) ∧ r = some (.int (-2)) ∧ w' = wMf (wiF fr lo fa) ki mo ho cd sr so sz (ceF g) stk names till sitter on was sat stood rose turn (nI P) ch ru lent J K) ∨ (((mIn ss 0 3 ∧ mIn sort 0 2 ∧ mIn nn 0 5) ∧ so ss.toNatClampNeg = -1) ∧ r = some (.int (-11)) ∧ w' = wMf (wiF fr lo fa) ki mo ho cd sr so sz (ceF g) stk names till sitter on was sat stood rose turn (nI P) ch ru lent J K) ∨ (((mIn ss 0 3 ∧ mIn sort 0 2 ∧ mIn nn 0 5) ∧ ¬ so ss.toNatClampNeg = -1 ∧ ¬ so ss.toNatClampNeg = sort) ∧ r = some (.int (-13)) ∧ w' = wMf (wiF fr lo fa) ki mo ho cd sr so sz (ceF g) stk names till sitter on was sat stood rose turn (nI P) ch ru lent J K) ∨ (((mIn ss 0 3 ∧ mIn sort 0 2 ∧ mIn nn 0 5) ∧ ¬ so ss.toNatClampNeg = -1 ∧ so ss.toNatClampNeg = sort) ∧ r = some (.int ((obR (g ss.toNatClampNeg) (sz ss.toNatClampNeg) fm nn.toNatClampNeg 0 (fr, lo, fa, P) 0).1)) ∧ w' = wMf (wiF (obR (g ss.toNatClampNeg) (sz ss.toNatClampNeg) fm nn.toNatClampNeg 0 (fr, lo, fa, P) 0).2.1 (obR (g ss.toNatClampNeg) (sz ss.toNatClampNeg) fm nn.toNatClampNeg 0 (fr, lo, fa, P) 0).2.2.1 (obR (g ss.toNatClampNeg) (sz ss.toNatClampNeg) fm nn.toNatClampNeg 0 (fr, lo, fa, P) 0).2.2.2.1) ki mo ho cd sr so sz (ceF g) stk names till sitter on was sat stood rose turn (nI (obR (g ss.toNatClampNeg) (sz ss.toNatClampNeg) fm nn.toNatClampNeg 0 (fr, lo, fa, P) 0).2.2.2.2) ch ru lent J K)) := by
  refine Co.of ok_X7_onesBy rfl ?_
  refine ww_run 0 3 (pc' := 3) (lv' := [(0, .ref 0), (1, .int ss), (2, .int sort), (3, .int fm), (4, .int nn)]) (st' := [.int 3, .int 0, .int ss]) (w' := wMf (wiF fr lo fa) ki mo ho cd sr so sz (ceF g) stk names till sitter on was sat stood rose turn (nI P) ch ru lent J K) (Ps := []) rfl trivial ?_
  refine ww_cSi 3 ok_X7_in (Co.fr0 (c_X7_in ss 0 3) rfl) lk_X7_108 rfl (by omega) (rest := []) rfl (Nat.le_of_ble_eq_true rfl) rfl ?_
  refine ww_if_eq 4 rfl (tgt := 28) rfl (fun c1 => ?_) (fun c1 => ?_)
  · rw [b2i_eq0] at c1
    refine ww_run 15 1 (pc' := 30) (lv' := [(0, .ref 0), (1, .int ss), (2, .int sort), (3, .int fm), (4, .int nn)]) (st' := [.int (-2)]) (w' := wMf (wiF fr lo fa) ki mo ho cd sr so sz (ceF g) stk names till sitter on was sat stood rose turn (nI P) ch ru lent J K) (Ps := []) rfl trivial ?_
    refine ww_iret 16 rfl rfl ?_
    exact Or.inl ⟨by grind, rfl, rfl⟩
  · rw [b2i_ne0] at c1
    refine ww_run 5 3 (pc' := 12) (lv' := [(0, .ref 0), (1, .int ss), (2, .int sort), (3, .int fm), (4, .int nn)]) (st' := [.int 2, .int 0, .int sort]) (w' := wMf (wiF fr lo fa) ki mo ho cd sr so sz (ceF g) stk names till sitter on was sat stood rose turn (nI P) ch ru lent J K) (Ps := []) rfl trivial ?_
    refine ww_cSi 8 ok_X7_in (Co.fr0 (c_X7_in sort 0 2) rfl) lk_X7_108 rfl (by omega) (rest := []) rfl (Nat.le_of_ble_eq_true rfl) rfl ?_
    refine ww_if_eq 9 rfl (tgt := 28) rfl (fun c2 => ?_) (fun c2 => ?_)
    · rw [b2i_eq0] at c2
      refine ww_run 15 1 (pc' := 30) (lv' := [(0, .ref 0), (1, .int ss), (2, .int sort), (3, .int fm), (4, .int nn)]) (st' := [.int (-2)]) (w' := wMf (wiF fr lo fa) ki mo ho cd sr so sz (ceF g) stk names till sitter on was sat stood rose turn (nI P) ch ru lent J K) (Ps := []) rfl trivial ?_
      refine ww_iret 16 rfl rfl ?_
      exact Or.inl ⟨by grind, rfl, rfl⟩
    · rw [b2i_ne0] at c2
      refine ww_run 10 3 (pc' := 22) (lv' := [(0, .ref 0), (1, .int ss), (2, .int sort), (3, .int fm), (4, .int nn)]) (st' := [.int 5, .int 0, .int nn]) (w' := wMf (wiF fr lo fa) ki mo ho cd sr so sz (ceF g) stk names till sitter on was sat stood rose turn (nI P) ch ru lent J K) (Ps := []) rfl trivial ?_
      refine ww_cSi 13 ok_X7_in (Co.fr0 (c_X7_in nn 0 5) rfl) lk_X7_108 rfl (by omega) (rest := []) rfl (Nat.le_of_ble_eq_true rfl) rfl ?_
      refine ww_if_ne 14 rfl (tgt := 31) rfl (fun c3 => ?_) (fun c3 => ?_)
      · rw [b2i_ne0] at c3
        obtain ⟨s, hs, rfl⟩ := s4_nI c1
        obtain ⟨S, hS, rfl⟩ := nI_of2 (M := 5) (n := 5) rfl (Int32.not_lt.mpr c3.1) c3.2
        refine ww_run 17 5 (pc' := 38) (lv' := [(0, .ref 0), (1, .int (nI s)), (2, .int sort), (3, .int fm), (4, .int (nI S))]) (st' := [.int (-1), .int (so (nI s).toNatClampNeg)]) (w' := wMf (wiF fr lo fa) ki mo ho cd sr so sz (ceF g) stk names till sitter on was sat stood rose turn (nI P) ch ru lent J K) (Ps := [vp_in (nI s) 4]) rfl ⟨(vp_in_nI (by omega) (by omega)), trivial⟩ ?_
        rw [nI_clamp (n := s) (by omega)]
        refine ww_icmp_ne 22 rfl (tgt := 44) rfl (fun c4 => ?_) (fun c4 => ?_)
        · refine ww_run 25 5 (pc' := 51) (lv' := [(0, .ref 0), (1, .int (nI s)), (2, .int sort), (3, .int fm), (4, .int (nI S))]) (st' := [.int sort, .int (so (nI s).toNatClampNeg)]) (w' := wMf (wiF fr lo fa) ki mo ho cd sr so sz (ceF g) stk names till sitter on was sat stood rose turn (nI P) ch ru lent J K) (Ps := [vp_in (nI s) 4]) rfl ⟨(vp_in_nI (by omega) (by omega)), trivial⟩ ?_
          rw [nI_clamp (n := s) (by omega)]
          refine ww_icmp_eq 30 rfl (tgt := 57) rfl (fun c5 => ?_) (fun c5 => ?_)
          · refine ww_run 33 4 (pc' := 63) (lv' := [(6, .int 0), (5, .int 0), (0, .ref 0), (1, .int (nI s)), (2, .int sort), (3, .int fm), (4, .int (nI S))]) (st' := []) (w' := wMf (wiF fr lo fa) ki mo ho cd sr so sz (ceF g) stk names till sitter on was sat stood rose turn (nI P) ch ru lent J K) (Ps := []) rfl trivial ?_
            refine ww_lv [2, 3, 4, 5, 6, 1, 0] (lv' := [(0, .ref 0), (1, .int (nI s)), (2, .int sort), (3, .int fm), (4, .int (nI S)), (5, .int 0), (6, .int 0)]) rfl ?_
            refine l_X7_onesBy_63 (by omega) ki mo ho cd sr so sz stk names till sitter on was sat stood rose turn ch ru lent J K g s S sort fm (obR (g s) (sz s) fm S 0 (fr, lo, fa, P) 0) hs hS hsz ?_ (S + 1) 0 (fr, lo, fa, P) 0 (by omega) (by omega) hP (Or.inl rfl) rfl
            refine Or.inr (Or.inr (Or.inr ⟨?_, ?_, ?_⟩))
            · (try simp only [nI_clamp (n := s) (by omega), nI_clamp (n := S) (by omega)]); exact ⟨⟨c1, c2, c3⟩, c4, c5⟩
            · first | rfl | (try simp only [nI_clamp (n := s) (by omega), nI_clamp (n := S) (by omega)])
            · first | rfl | (try simp only [nI_clamp (n := s) (by omega), nI_clamp (n := S) (by omega)])
          · refine ww_run 31 1 (pc' := 56) (lv' := [(0, .ref 0), (1, .int (nI s)), (2, .int sort), (3, .int fm), (4, .int (nI S))]) (st' := [.int (-13)]) (w' := wMf (wiF fr lo fa) ki mo ho cd sr so sz (ceF g) stk names till sitter on was sat stood rose turn (nI P) ch ru lent J K) (Ps := []) rfl trivial ?_
            refine ww_iret 32 rfl rfl ?_
            exact Or.inr (Or.inr (Or.inl ⟨by (try simp only [nI_clamp (n := s) (by omega), nI_clamp (n := S) (by omega)]); exact ⟨⟨c1, c2, c3⟩, c4, c5⟩, rfl, rfl⟩))
        · refine ww_run 23 1 (pc' := 43) (lv' := [(0, .ref 0), (1, .int (nI s)), (2, .int sort), (3, .int fm), (4, .int (nI S))]) (st' := [.int (-11)]) (w' := wMf (wiF fr lo fa) ki mo ho cd sr so sz (ceF g) stk names till sitter on was sat stood rose turn (nI P) ch ru lent J K) (Ps := []) rfl trivial ?_
          refine ww_iret 24 rfl rfl ?_
          exact Or.inr (Or.inl ⟨by (try simp only [nI_clamp (n := s) (by omega), nI_clamp (n := S) (by omega)]); exact ⟨⟨c1, c2, c3⟩, c4⟩, rfl, rfl⟩)
      · rw [b2i_eq0] at c3
        refine ww_run 15 1 (pc' := 30) (lv' := [(0, .ref 0), (1, .int ss), (2, .int sort), (3, .int fm), (4, .int nn)]) (st' := [.int (-2)]) (w' := wMf (wiF fr lo fa) ki mo ho cd sr so sz (ceF g) stk names till sitter on was sat stood rose turn (nI P) ch ru lent J K) (Ps := []) rfl trivial ?_
        refine ww_iret 16 rfl rfl ?_
        exact Or.inl ⟨by grind, rfl, rfl⟩
abbrev wMi (wi ki mo ho wi1 ho1 km1 : Nat → Int32) (pe ch ru him pe1 ch1 ru1 : Int32) (J : Nat → Int32) (K : Nat → Nat → Int32) : List va_E :=
  [.inr (6, [.int pe, .ref 1, .int ch, .ref 2, .ref 3, .ref 4, .ref 5, .int (J 7), .ref 6, .ref 7, .int (J 10), .int ru, .int him, .int pe1, .int ch1, .int ru1, .ref 8, .ref 9, .ref 10, .ref 11, .ref 12, .ref 13, .ref 14, .int (J 23), .int (J 24), .int (J 25), .int (J 26), .ref 15, .ref 16, .int (J 29), .int (J 30), .int (J 31), .ref 17, .ref 18, .ref 19, .ref 20, .ref 21, .ref 22, .ref 23, .ref 24, .ref 25, .ref 26, .int (J 42), .ref 27, .int (J 44), .int (J 45), .ref 28]),
   iA 15 wi,
   iA 6 ki,
   iA 6 mo,
   iA 3 ho,
   iA 160 (K 6),
   iA 1200 (K 8),
   iA 24 (K 9),
   iA 15 wi1,
   iA 3 ho1,
   iA 12 km1,
   iA 4 (K 19),
   iA 4 (K 20),
   iA 160 (K 21),
   iA 50 (K 22),
   iA 96 (K 27),
   iA 200 (K 28),
   iA 200 (K 32),
   iA 6 (K 33),
   iA 6 (K 34),
   iA 6 (K 35),
   iA 5 (K 36),
   iA 5 (K 37),
   iA 5 (K 38),
   iA 5 (K 39),
   iA 5 (K 40),
   iA 5 (K 41),
   iA 5 (K 43),
   iA 20 (K 46)]
/-- kinds and more, one behind the other -/
def kmF (ki mo : Nat → Int32) : Nat → Int32 := fun j => if j < 6 then ki j else mo (j - 6)
def kmI (f ki mo : Nat → Int32) (i : Nat) : Nat → Int32 := fun j => if (j < 6 ∧ j < i) ∨ (6 ≤ j ∧ j - 6 < i) then kmF ki mo j else f j
theorem kmI_0 {f ki mo : Nat → Int32} : kmI f ki mo 0 = f := by
  funext j
  unfold kmI
  rw [if_neg (by omega)]
theorem kmI_s {f ki mo : Nat → Int32} {i : Nat} (hi : i < 6) : upd (upd (kmI f ki mo i) i (ki i)) (6 + i) (mo i) = kmI f ki mo (i + 1) := by
  funext j
  unfold kmI kmF
  simp only [upd]
  by_cases h1 : j = 6 + i
  · subst h1
    rw [if_pos rfl, if_pos (by omega), if_neg (by omega), Nat.add_sub_cancel_left]
  · rw [if_neg h1]
    by_cases h2 : j = i
    · subst h2
      rw [if_pos rfl, if_pos (by omega), if_pos hi]
    · rw [if_neg h2]
      have : ((j < 6 ∧ j < i) ∨ (6 ≤ j ∧ j - 6 < i)) ↔ ((j < 6 ∧ j < i + 1) ∨ (6 ≤ j ∧ j - 6 < i + 1)) := by omega
      simp only [this]
set_option maxHeartbeats 4000000 in
set_option maxRecDepth 100000 in
theorem l_X7_image_31 {Q : Option Value → List va_E → Prop} {d : Nat} (hd : 0 ≤ d) (wi ki mo ho wi1 ho1 km1 : Nat → Int32) (pe ch ru him pe1 ch1 ru1 : Int32) (J : Nat → Int32) (K : Nat → Nat → Int32)   (KK : WW M_X7_image d Q xz 55 [(0, .ref 0), (1, .int (nI 15))] [] (wMi wi ki mo ho (mixF wi1 wi 15) ho1 km1 pe ch ru him pe1 ch1 ru1 J K)) :
    ∀ (n i : Nat) , i ≤ 15 → 15 + 1 ≤ i + n → WW M_X7_image d Q xz 31 [(0, .ref 0), (1, .int (nI i))] [] (wMi wi ki mo ho (mixF wi1 wi i) ho1 km1 pe ch ru him pe1 ch1 ru1 J K) := by
  intro n
  induction n with
  | zero => intro i; intros; omega
  | succ n ih =>
    intro i  hi hn 
    refine ww_run 17 2 (pc' := 34) (lv' := [(0, .ref 0), (1, .int (nI i))]) (st' := [.int 15, .int (nI i)]) (w' := wMi wi ki mo ho (mixF wi1 wi i) ho1 km1 pe ch ru him pe1 ch1 ru1 J K) (Ps := []) rfl trivial ?_
    refine ww_icmp_ge 19 rfl (tgt := 55) rfl (fun c1 => ?_) (fun c1 => ?_)
    · have c1 : 15 ≤ i := (nI_leI (a := 15) (b := i) (by omega) (by omega)).mp c1
      obtain rfl : i = 15 := by omega
      exact KK
    · have c1 : ¬ 15 ≤ i := fun q => c1 ((nI_leI (a := 15) (b := i) (by omega) (by omega)).mpr q)
      refine ww_run 20 10 (pc' := 31) (lv' := [(1, .int ((nI i) + 1)), (0, .ref 0)]) (st' := []) (w' := wMi wi ki mo ho (upd (mixF wi1 wi i) ((nI i).toNatClampNeg) (wi (nI i).toNatClampNeg)) ho1 km1 pe ch ru him pe1 ch1 ru1 J K) (Ps := [vp_in (nI i) 15, vp_in (nI i) 15]) rfl ⟨(vp_in_nI (by omega) (by omega)), (vp_in_nI (by omega) (by omega)), trivial⟩ ?_
      rw [nI_clamp (n := i) (by omega)]
      rw [nI_1 i]
      refine ww_lv [1, 0] (lv' := [(0, .ref 0), (1, .int (nI (i + 1)))]) rfl ?_
      rw [mixF_s rfl]
      exact ih (i + 1) (by omega) (by omega)
set_option maxHeartbeats 4000000 in
set_option maxRecDepth 100000 in
theorem l_X7_image_57 {Q : Option Value → List va_E → Prop} {d : Nat} (hd : 0 ≤ d) (wi ki mo ho wi1 ho1 km1 : Nat → Int32) (pe ch ru him pe1 ch1 ru1 : Int32) (J : Nat → Int32) (K : Nat → Nat → Int32)   (KK : WW M_X7_image d Q xz 80 [(0, .ref 0), (1, .int (nI 3))] [] (wMi wi ki mo ho wi1 (mixF ho1 ho 3) km1 pe ch ru him pe1 ch1 ru1 J K)) :
    ∀ (n i : Nat) , i ≤ 3 → 3 + 1 ≤ i + n → WW M_X7_image d Q xz 57 [(0, .ref 0), (1, .int (nI i))] [] (wMi wi ki mo ho wi1 (mixF ho1 ho i) km1 pe ch ru him pe1 ch1 ru1 J K) := by
  intro n
  induction n with
  | zero => intro i; intros; omega
  | succ n ih =>
    intro i  hi hn 
    refine ww_run 32 2 (pc' := 59) (lv' := [(0, .ref 0), (1, .int (nI i))]) (st' := [.int 3, .int (nI i)]) (w' := wMi wi ki mo ho wi1 (mixF ho1 ho i) km1 pe ch ru him pe1 ch1 ru1 J K) (Ps := []) rfl trivial ?_
    refine ww_icmp_ge 34 rfl (tgt := 80) rfl (fun c1 => ?_) (fun c1 => ?_)
    · have c1 : 3 ≤ i := (nI_leI (a := 3) (b := i) (by omega) (by omega)).mp c1
      obtain rfl : i = 3 := by omega
      exact KK
    · have c1 : ¬ 3 ≤ i := fun q => c1 ((nI_leI (a := 3) (b := i) (by omega) (by omega)).mpr q)
      refine ww_run 35 10 (pc' := 57) (lv' := [(1, .int ((nI i) + 1)), (0, .ref 0)]) (st' := []) (w' := wMi wi ki mo ho wi1 (upd (mixF ho1 ho i) ((nI i).toNatClampNeg) (ho (nI i).toNatClampNeg)) km1 pe ch ru him pe1 ch1 ru1 J K) (Ps := [vp_in (nI i) 3, vp_in (nI i) 3]) rfl ⟨(vp_in_nI (by omega) (by omega)), (vp_in_nI (by omega) (by omega)), trivial⟩ ?_
      rw [nI_clamp (n := i) (by omega)]
      rw [nI_1 i]
      refine ww_lv [1, 0] (lv' := [(0, .ref 0), (1, .int (nI (i + 1)))]) rfl ?_
      rw [mixF_s rfl]
      exact ih (i + 1) (by omega) (by omega)
set_option maxHeartbeats 4000000 in
set_option maxRecDepth 100000 in
theorem l_X7_image_82 {Q : Option Value → List va_E → Prop} {d : Nat} (hd : 0 ≤ d) (wi ki mo ho wi1 ho1 km1 : Nat → Int32) (pe ch ru him pe1 ch1 ru1 : Int32) (J : Nat → Int32) (K : Nat → Nat → Int32)   (KK : WW M_X7_image d Q xz 121 [(0, .ref 0), (1, .int (nI 6))] [] (wMi wi ki mo ho wi1 ho1 (kmI km1 ki mo 6) pe ch ru him pe1 ch1 ru1 J K)) :
    ∀ (n i : Nat) , i ≤ 6 → 6 + 1 ≤ i + n → WW M_X7_image d Q xz 82 [(0, .ref 0), (1, .int (nI i))] [] (wMi wi ki mo ho wi1 ho1 (kmI km1 ki mo i) pe ch ru him pe1 ch1 ru1 J K) := by
  intro n
  induction n with
  | zero => intro i; intros; omega
  | succ n ih =>
    intro i  hi hn 
    refine ww_run 47 2 (pc' := 85) (lv' := [(0, .ref 0), (1, .int (nI i))]) (st' := [.int 6, .int (nI i)]) (w' := wMi wi ki mo ho wi1 ho1 (kmI km1 ki mo i) pe ch ru him pe1 ch1 ru1 J K) (Ps := []) rfl trivial ?_
    refine ww_icmp_ge 49 rfl (tgt := 121) rfl (fun c1 => ?_) (fun c1 => ?_)
    · have c1 : 6 ≤ i := (nI_leI (a := 6) (b := i) (by omega) (by omega)).mp c1
      obtain rfl : i = 6 := by omega
      exact KK
    · have c1 : ¬ 6 ≤ i := fun q => c1 ((nI_leI (a := 6) (b := i) (by omega) (by omega)).mpr q)
      refine ww_run 50 20 (pc' := 82) (lv' := [(1, .int ((nI i) + 1)), (0, .ref 0)]) (st' := []) (w' := wMi wi ki mo ho wi1 ho1 (upd (upd (kmI km1 ki mo i) ((nI i).toNatClampNeg) (ki (nI i).toNatClampNeg)) ((6 + (nI i)).toNatClampNeg) (mo (nI i).toNatClampNeg)) pe ch ru him pe1 ch1 ru1 J K) (Ps := [vp_in (nI i) 6, vp_in (nI i) 12, vp_in (nI i) 6, vp_in (6 + (nI i)) 12]) rfl ⟨(vp_in_nI (by omega) (by omega)), (vp_in_nI (by omega) (by omega)), (vp_in_nI (by omega) (by omega)), (by rw [show (6 : Int32) + nI i = nI (6 + i) from nI_add 6 i]; exact vp_in_nI (by omega) (by omega)), trivial⟩ ?_
      rw [nI_clamp (n := i) (by omega)]
      rw [nI_1 i]
      rw [show (6 : Int32) + nI i = nI (6 + i) from nI_add 6 i]
      rw [nI_clamp (n := (6 + i)) (by omega)]
      refine ww_lv [1, 0] (lv' := [(0, .ref 0), (1, .int (nI (i + 1)))]) rfl ?_
      rw [kmI_s (by omega)]
      exact ih (i + 1) (by omega) (by omega)
set_option maxHeartbeats 4000000 in
set_option maxRecDepth 100000 in
theorem m_image (wi ki mo ho wi1 ho1 km1 : Nat → Int32) (pe ch ru him pe1 ch1 ru1 : Int32) (J : Nat → Int32) (K : Nat → Nat → Int32)  : Co M_X7_image 0 0 0 [.ref 0] (wMi wi ki mo ho wi1 ho1 km1 pe ch ru him pe1 ch1 ru1 J K) (Qi pe (wMi wi ki mo ho wi ho (kmF ki mo) pe ch ru 1 pe ch ru J K)) := by
  refine Co.of ok_X7_image rfl ?_
  refine ww_run 0 2 (pc' := 2) (lv' := [(0, .ref 0)]) (st' := [.int 1, .ref 0]) (w' := wMi wi ki mo ho wi1 ho1 km1 pe ch ru him pe1 ch1 ru1 J K) (Ps := []) rfl trivial ?_
  refine ww_putv 2 (r := (RX7, TX7, 47)) (ty := .boolean) rfl rfl rfl rfl (by decide +kernel) (fun _ => rfl) (fun _ => rfl) rfl (Nat.le_of_ble_eq_true rfl) ?_
  refine ww_run 3 14 (pc' := 31) (lv' := [(1, .int 0), (0, .ref 0)]) (st' := []) (w' := wMi wi ki mo ho wi1 ho1 km1 pe ch ru 1 pe ch ru J K) (Ps := []) rfl trivial ?_
  suffices hK : WW M_X7_image 0 (Qi pe (wMi wi ki mo ho wi ho (kmF ki mo) pe ch ru 1 pe ch ru J K)) xz 55 [(0, .ref 0), (1, .int (nI 15))] [] (wMi wi ki mo ho (mixF wi1 wi 15) ho1 km1 pe ch ru 1 pe ch ru J K) by
    refine ww_lv [1, 0] (lv' := [(0, .ref 0), (1, .int 0)]) rfl ?_
    have hh := l_X7_image_31 (Q := Qi pe (wMi wi ki mo ho wi ho (kmF ki mo) pe ch ru 1 pe ch ru J K)) (d := 0) (by omega) wi ki mo ho wi1 ho1 km1 pe ch ru 1 pe ch ru J K hK (15 + 1) 0 (by omega) (by omega)
    rw [mixF_0] at hh
    exact hh
  refine ww_arr 8 wi rfl (fun j hj => by simp [mixF, hj]) (w1 := wMi wi ki mo ho wi ho1 km1 pe ch ru 1 pe ch ru J K) rfl ?_
  refine ww_run 30 2 (pc' := 57) (lv' := [(1, .int 0), (0, .ref 0)]) (st' := []) (w' := wMi wi ki mo ho wi ho1 km1 pe ch ru 1 pe ch ru J K) (Ps := []) rfl trivial ?_
  suffices hK : WW M_X7_image 0 (Qi pe (wMi wi ki mo ho wi ho (kmF ki mo) pe ch ru 1 pe ch ru J K)) xz 80 [(0, .ref 0), (1, .int (nI 3))] [] (wMi wi ki mo ho wi (mixF ho1 ho 3) km1 pe ch ru 1 pe ch ru J K) by
    refine ww_lv [1, 0] (lv' := [(0, .ref 0), (1, .int 0)]) rfl ?_
    have hh := l_X7_image_57 (Q := Qi pe (wMi wi ki mo ho wi ho (kmF ki mo) pe ch ru 1 pe ch ru J K)) (d := 0) (by omega) wi ki mo ho wi ho1 km1 pe ch ru 1 pe ch ru J K hK (3 + 1) 0 (by omega) (by omega)
    rw [mixF_0] at hh
    exact hh
  refine ww_arr 9 ho rfl (fun j hj => by simp [mixF, hj]) (w1 := wMi wi ki mo ho wi ho km1 pe ch ru 1 pe ch ru J K) rfl ?_
  refine ww_run 45 2 (pc' := 82) (lv' := [(1, .int 0), (0, .ref 0)]) (st' := []) (w' := wMi wi ki mo ho wi ho km1 pe ch ru 1 pe ch ru J K) (Ps := []) rfl trivial ?_
  suffices hK : WW M_X7_image 0 (Qi pe (wMi wi ki mo ho wi ho (kmF ki mo) pe ch ru 1 pe ch ru J K)) xz 121 [(0, .ref 0), (1, .int (nI 6))] [] (wMi wi ki mo ho wi ho (kmI km1 ki mo 6) pe ch ru 1 pe ch ru J K) by
    refine ww_lv [1, 0] (lv' := [(0, .ref 0), (1, .int 0)]) rfl ?_
    have hh := l_X7_image_82 (Q := Qi pe (wMi wi ki mo ho wi ho (kmF ki mo) pe ch ru 1 pe ch ru J K)) (d := 0) (by omega) wi ki mo ho wi ho km1 pe ch ru 1 pe ch ru J K hK 7 0 (by omega) (by omega)
    rw [kmI_0] at hh
    exact hh
  refine ww_arr 10 (kmF ki mo) rfl (fun j hj => by unfold kmI; rw [if_pos (by omega)]) (w1 := wMi wi ki mo ho wi ho (kmF ki mo) pe ch ru 1 pe ch ru J K) rfl ?_
  refine ww_run 70 2 (pc' := 125) (lv' := [(0, .ref 0), (1, .int (nI 6))]) (st' := [.int pe]) (w' := wMi wi ki mo ho wi ho (kmF ki mo) pe ch ru 1 pe ch ru J K) (Ps := []) rfl trivial ?_
  refine ww_iret 72 rfl rfl ?_
  exact ⟨rfl, rfl⟩
set_option maxHeartbeats 4000000 in
set_option maxRecDepth 100000 in
theorem l_X7_back_36 {Q : Option Value → List va_E → Prop} {d : Nat} (hd : 0 ≤ d) (wi ki mo ho wi1 ho1 km1 : Nat → Int32) (pe ch ru him pe1 ch1 ru1 : Int32) (J : Nat → Int32) (K : Nat → Nat → Int32)   (KK : WW M_X7_back d Q xz 60 [(0, .ref 0), (1, .int (nI 15))] [] (wMi (mixF wi wi1 15) ki mo ho wi1 ho1 km1 pe ch ru him pe1 ch1 ru1 J K)) :
    ∀ (n i : Nat) , i ≤ 15 → 15 + 1 ≤ i + n → WW M_X7_back d Q xz 36 [(0, .ref 0), (1, .int (nI i))] [] (wMi (mixF wi wi1 i) ki mo ho wi1 ho1 km1 pe ch ru him pe1 ch1 ru1 J K) := by
  intro n
  induction n with
  | zero => intro i; intros; omega
  | succ n ih =>
    intro i  hi hn 
    refine ww_run 19 2 (pc' := 39) (lv' := [(0, .ref 0), (1, .int (nI i))]) (st' := [.int 15, .int (nI i)]) (w' := wMi (mixF wi wi1 i) ki mo ho wi1 ho1 km1 pe ch ru him pe1 ch1 ru1 J K) (Ps := []) rfl trivial ?_
    refine ww_icmp_ge 21 rfl (tgt := 60) rfl (fun c1 => ?_) (fun c1 => ?_)
    · have c1 : 15 ≤ i := (nI_leI (a := 15) (b := i) (by omega) (by omega)).mp c1
      obtain rfl : i = 15 := by omega
      exact KK
    · have c1 : ¬ 15 ≤ i := fun q => c1 ((nI_leI (a := 15) (b := i) (by omega) (by omega)).mpr q)
      refine ww_run 22 10 (pc' := 36) (lv' := [(1, .int ((nI i) + 1)), (0, .ref 0)]) (st' := []) (w' := wMi (upd (mixF wi wi1 i) ((nI i).toNatClampNeg) (wi1 (nI i).toNatClampNeg)) ki mo ho wi1 ho1 km1 pe ch ru him pe1 ch1 ru1 J K) (Ps := [vp_in (nI i) 15, vp_in (nI i) 15]) rfl ⟨(vp_in_nI (by omega) (by omega)), (vp_in_nI (by omega) (by omega)), trivial⟩ ?_
      rw [nI_clamp (n := i) (by omega)]
      rw [nI_1 i]
      refine ww_lv [1, 0] (lv' := [(0, .ref 0), (1, .int (nI (i + 1)))]) rfl ?_
      rw [mixF_s rfl]
      exact ih (i + 1) (by omega) (by omega)
set_option maxHeartbeats 4000000 in
set_option maxRecDepth 100000 in
theorem l_X7_back_62 {Q : Option Value → List va_E → Prop} {d : Nat} (hd : 0 ≤ d) (wi ki mo ho wi1 ho1 km1 : Nat → Int32) (pe ch ru him pe1 ch1 ru1 : Int32) (J : Nat → Int32) (K : Nat → Nat → Int32)   (KK : WW M_X7_back d Q xz 85 [(0, .ref 0), (1, .int (nI 3))] [] (wMi wi ki mo (mixF ho ho1 3) wi1 ho1 km1 pe ch ru him pe1 ch1 ru1 J K)) :
    ∀ (n i : Nat) , i ≤ 3 → 3 + 1 ≤ i + n → WW M_X7_back d Q xz 62 [(0, .ref 0), (1, .int (nI i))] [] (wMi wi ki mo (mixF ho ho1 i) wi1 ho1 km1 pe ch ru him pe1 ch1 ru1 J K) := by
  intro n
  induction n with
  | zero => intro i; intros; omega
  | succ n ih =>
    intro i  hi hn 
    refine ww_run 34 2 (pc' := 64) (lv' := [(0, .ref 0), (1, .int (nI i))]) (st' := [.int 3, .int (nI i)]) (w' := wMi wi ki mo (mixF ho ho1 i) wi1 ho1 km1 pe ch ru him pe1 ch1 ru1 J K) (Ps := []) rfl trivial ?_
    refine ww_icmp_ge 36 rfl (tgt := 85) rfl (fun c1 => ?_) (fun c1 => ?_)
    · have c1 : 3 ≤ i := (nI_leI (a := 3) (b := i) (by omega) (by omega)).mp c1
      obtain rfl : i = 3 := by omega
      exact KK
    · have c1 : ¬ 3 ≤ i := fun q => c1 ((nI_leI (a := 3) (b := i) (by omega) (by omega)).mpr q)
      refine ww_run 37 10 (pc' := 62) (lv' := [(1, .int ((nI i) + 1)), (0, .ref 0)]) (st' := []) (w' := wMi wi ki mo (upd (mixF ho ho1 i) ((nI i).toNatClampNeg) (ho1 (nI i).toNatClampNeg)) wi1 ho1 km1 pe ch ru him pe1 ch1 ru1 J K) (Ps := [vp_in (nI i) 3, vp_in (nI i) 3]) rfl ⟨(vp_in_nI (by omega) (by omega)), (vp_in_nI (by omega) (by omega)), trivial⟩ ?_
      rw [nI_clamp (n := i) (by omega)]
      rw [nI_1 i]
      refine ww_lv [1, 0] (lv' := [(0, .ref 0), (1, .int (nI (i + 1)))]) rfl ?_
      rw [mixF_s rfl]
      exact ih (i + 1) (by omega) (by omega)
set_option maxHeartbeats 4000000 in
set_option maxRecDepth 100000 in
theorem l_X7_back_87 {Q : Option Value → List va_E → Prop} {d : Nat} (hd : 0 ≤ d) (wi ki mo ho wi1 ho1 : Nat → Int32) (pe ch ru him pe1 ch1 ru1 : Int32) (J : Nat → Int32) (K : Nat → Nat → Int32)  (ki1 mo1 : Nat → Int32) (KK : WW M_X7_back d Q xz 126 [(0, .ref 0), (1, .int (nI 6))] [] (wMi wi (mixF ki ki1 6) (mixF mo mo1 6) ho wi1 ho1 (kmF ki1 mo1) pe ch ru him pe1 ch1 ru1 J K)) :
    ∀ (n i : Nat) , i ≤ 6 → 6 + 1 ≤ i + n → WW M_X7_back d Q xz 87 [(0, .ref 0), (1, .int (nI i))] [] (wMi wi (mixF ki ki1 i) (mixF mo mo1 i) ho wi1 ho1 (kmF ki1 mo1) pe ch ru him pe1 ch1 ru1 J K) := by
  intro n
  induction n with
  | zero => intro i; intros; omega
  | succ n ih =>
    intro i  hi hn 
    refine ww_run 49 2 (pc' := 90) (lv' := [(0, .ref 0), (1, .int (nI i))]) (st' := [.int 6, .int (nI i)]) (w' := wMi wi (mixF ki ki1 i) (mixF mo mo1 i) ho wi1 ho1 (kmF ki1 mo1) pe ch ru him pe1 ch1 ru1 J K) (Ps := []) rfl trivial ?_
    refine ww_icmp_ge 51 rfl (tgt := 126) rfl (fun c1 => ?_) (fun c1 => ?_)
    · have c1 : 6 ≤ i := (nI_leI (a := 6) (b := i) (by omega) (by omega)).mp c1
      obtain rfl : i = 6 := by omega
      exact KK
    · have c1 : ¬ 6 ≤ i := fun q => c1 ((nI_leI (a := 6) (b := i) (by omega) (by omega)).mpr q)
      refine ww_run 52 7 (pc' := 104) (lv' := [(0, .ref 0), (1, .int (nI i))]) (st' := [.int ((kmF ki1 mo1) (nI i).toNatClampNeg), .int (nI i), .ref 2]) (w' := wMi wi (mixF ki ki1 i) (mixF mo mo1 i) ho wi1 ho1 (kmF ki1 mo1) pe ch ru him pe1 ch1 ru1 J K) (Ps := [vp_in (nI i) 12]) rfl ⟨(vp_in_nI (by omega) (by omega)), trivial⟩ ?_
      rw [nI_clamp (n := i) (by omega)]
      rw [show kmF ki1 mo1 i = ki1 i from if_pos (by omega)]
      refine ww_run 59 10 (pc' := 119) (lv' := [(0, .ref 0), (1, .int (nI i))]) (st' := [.int ((kmF ki1 mo1) (6 + (nI i)).toNatClampNeg), .int (nI i), .ref 3]) (w' := wMi wi (upd (mixF ki ki1 i) ((nI i).toNatClampNeg) (ki1 i)) (mixF mo mo1 i) ho wi1 ho1 (kmF ki1 mo1) pe ch ru him pe1 ch1 ru1 J K) (Ps := [vp_in (nI i) 6, vp_in (6 + (nI i)) 12]) rfl ⟨(vp_in_nI (by omega) (by omega)), (by rw [show (6 : Int32) + nI i = nI (6 + i) from nI_add 6 i]; exact vp_in_nI (by omega) (by omega)), trivial⟩ ?_
      rw [nI_clamp (n := i) (by omega)]
      rw [show (6 : Int32) + nI i = nI (6 + i) from nI_add 6 i]
      rw [nI_clamp (n := (6 + i)) (by omega)]
      rw [show kmF ki1 mo1 (6 + i) = mo1 i from by unfold kmF; rw [if_neg (by omega), Nat.add_sub_cancel_left]]
      refine ww_run 69 3 (pc' := 87) (lv' := [(1, .int ((nI i) + 1)), (0, .ref 0)]) (st' := []) (w' := wMi wi (upd (mixF ki ki1 i) (i) (ki1 i)) (upd (mixF mo mo1 i) ((nI i).toNatClampNeg) (mo1 i)) ho wi1 ho1 (kmF ki1 mo1) pe ch ru him pe1 ch1 ru1 J K) (Ps := [vp_in (nI i) 6]) rfl ⟨(vp_in_nI (by omega) (by omega)), trivial⟩ ?_
      rw [nI_clamp (n := i) (by omega)]
      rw [nI_1 i]
      refine ww_lv [1, 0] (lv' := [(0, .ref 0), (1, .int (nI (i + 1)))]) rfl ?_
      rw [mixF_s (f := ki) rfl, mixF_s (f := mo) rfl]
      exact ih (i + 1) (by omega) (by omega)
set_option maxHeartbeats 4000000 in
set_option maxRecDepth 100000 in
theorem m_back (wi ki mo ho wi1 ho1 : Nat → Int32) (pe ch ru him pe1 ch1 ru1 : Int32) (J : Nat → Int32) (K : Nat → Nat → Int32) (ki1 mo1 : Nat → Int32) : Co M_X7_back 0 0 0 [.ref 0] (wMi wi ki mo ho wi1 ho1 (kmF ki1 mo1) pe ch ru him pe1 ch1 ru1 J K) (fun r w' => (him = 0 ∧ r = some (.int (-3)) ∧ w' = wMi wi ki mo ho wi1 ho1 (kmF ki1 mo1) pe ch ru him pe1 ch1 ru1 J K) ∨ (¬ him = 0 ∧ r = some (.int pe1) ∧ w' = wMi wi1 ki1 mo1 ho1 wi1 ho1 (kmF ki1 mo1) pe1 ch1 ru1 him pe1 ch1 ru1 J K)) := by
  refine Co.of ok_X7_back rfl ?_
  refine ww_run 0 2 (pc' := 4) (lv' := [(0, .ref 0)]) (st' := [.int him]) (w' := wMi wi ki mo ho wi1 ho1 (kmF ki1 mo1) pe ch ru him pe1 ch1 ru1 J K) (Ps := []) rfl trivial ?_
  refine ww_if_ne 2 rfl (tgt := 10) rfl (fun c1 => ?_) (fun c1 => ?_)
  · refine ww_run 5 14 (pc' := 36) (lv' := [(1, .int 0), (0, .ref 0)]) (st' := []) (w' := wMi wi ki mo ho wi1 ho1 (kmF ki1 mo1) pe1 ch1 ru1 him pe1 ch1 ru1 J K) (Ps := []) rfl trivial ?_
    suffices hK : WW M_X7_back 0 (fun r w' => (him = 0 ∧ r = some (.int (-3)) ∧ w' = wMi wi ki mo ho wi1 ho1 (kmF ki1 mo1) pe ch ru him pe1 ch1 ru1 J K) ∨ (¬ him = 0 ∧ r = some (.int pe1) ∧ w' = wMi wi1 ki1 mo1 ho1 wi1 ho1 (kmF ki1 mo1) pe1 ch1 ru1 him pe1 ch1 ru1 J K)) xz 60 [(0, .ref 0), (1, .int (nI 15))] [] (wMi (mixF wi wi1 15) ki mo ho wi1 ho1 (kmF ki1 mo1) pe1 ch1 ru1 him pe1 ch1 ru1 J K) by
      refine ww_lv [1, 0] (lv' := [(0, .ref 0), (1, .int 0)]) rfl ?_
      have hh := l_X7_back_36 (Q := fun r w' => (him = 0 ∧ r = some (.int (-3)) ∧ w' = wMi wi ki mo ho wi1 ho1 (kmF ki1 mo1) pe ch ru him pe1 ch1 ru1 J K) ∨ (¬ him = 0 ∧ r = some (.int pe1) ∧ w' = wMi wi1 ki1 mo1 ho1 wi1 ho1 (kmF ki1 mo1) pe1 ch1 ru1 him pe1 ch1 ru1 J K)) (d := 0) (by omega) wi ki mo ho wi1 ho1 (kmF ki1 mo1) pe1 ch1 ru1 him pe1 ch1 ru1 J K hK (15 + 1) 0 (by omega) (by omega)
      rw [mixF_0] at hh
      exact hh
    refine ww_arr 1 wi1 rfl (fun j hj => by simp [mixF, hj]) (w1 := wMi wi1 ki mo ho wi1 ho1 (kmF ki1 mo1) pe1 ch1 ru1 him pe1 ch1 ru1 J K) rfl ?_
    refine ww_run 32 2 (pc' := 62) (lv' := [(1, .int 0), (0, .ref 0)]) (st' := []) (w' := wMi wi1 ki mo ho wi1 ho1 (kmF ki1 mo1) pe1 ch1 ru1 him pe1 ch1 ru1 J K) (Ps := []) rfl trivial ?_
    suffices hK : WW M_X7_back 0 (fun r w' => (him = 0 ∧ r = some (.int (-3)) ∧ w' = wMi wi ki mo ho wi1 ho1 (kmF ki1 mo1) pe ch ru him pe1 ch1 ru1 J K) ∨ (¬ him = 0 ∧ r = some (.int pe1) ∧ w' = wMi wi1 ki1 mo1 ho1 wi1 ho1 (kmF ki1 mo1) pe1 ch1 ru1 him pe1 ch1 ru1 J K)) xz 85 [(0, .ref 0), (1, .int (nI 3))] [] (wMi wi1 ki mo (mixF ho ho1 3) wi1 ho1 (kmF ki1 mo1) pe1 ch1 ru1 him pe1 ch1 ru1 J K) by
      refine ww_lv [1, 0] (lv' := [(0, .ref 0), (1, .int 0)]) rfl ?_
      have hh := l_X7_back_62 (Q := fun r w' => (him = 0 ∧ r = some (.int (-3)) ∧ w' = wMi wi ki mo ho wi1 ho1 (kmF ki1 mo1) pe ch ru him pe1 ch1 ru1 J K) ∨ (¬ him = 0 ∧ r = some (.int pe1) ∧ w' = wMi wi1 ki1 mo1 ho1 wi1 ho1 (kmF ki1 mo1) pe1 ch1 ru1 him pe1 ch1 ru1 J K)) (d := 0) (by omega) wi1 ki mo ho wi1 ho1 (kmF ki1 mo1) pe1 ch1 ru1 him pe1 ch1 ru1 J K hK (3 + 1) 0 (by omega) (by omega)
      rw [mixF_0] at hh
      exact hh
    refine ww_arr 4 ho1 rfl (fun j hj => by simp [mixF, hj]) (w1 := wMi wi1 ki mo ho1 wi1 ho1 (kmF ki1 mo1) pe1 ch1 ru1 him pe1 ch1 ru1 J K) rfl ?_
    refine ww_run 47 2 (pc' := 87) (lv' := [(1, .int 0), (0, .ref 0)]) (st' := []) (w' := wMi wi1 ki mo ho1 wi1 ho1 (kmF ki1 mo1) pe1 ch1 ru1 him pe1 ch1 ru1 J K) (Ps := []) rfl trivial ?_
    suffices hK : WW M_X7_back 0 (fun r w' => (him = 0 ∧ r = some (.int (-3)) ∧ w' = wMi wi ki mo ho wi1 ho1 (kmF ki1 mo1) pe ch ru him pe1 ch1 ru1 J K) ∨ (¬ him = 0 ∧ r = some (.int pe1) ∧ w' = wMi wi1 ki1 mo1 ho1 wi1 ho1 (kmF ki1 mo1) pe1 ch1 ru1 him pe1 ch1 ru1 J K)) xz 126 [(0, .ref 0), (1, .int (nI 6))] [] (wMi wi1 (mixF ki ki1 6) (mixF mo mo1 6) ho1 wi1 ho1 (kmF ki1 mo1) pe1 ch1 ru1 him pe1 ch1 ru1 J K) by
      refine ww_lv [1, 0] (lv' := [(0, .ref 0), (1, .int 0)]) rfl ?_
      have hh := l_X7_back_87 (Q := fun r w' => (him = 0 ∧ r = some (.int (-3)) ∧ w' = wMi wi ki mo ho wi1 ho1 (kmF ki1 mo1) pe ch ru him pe1 ch1 ru1 J K) ∨ (¬ him = 0 ∧ r = some (.int pe1) ∧ w' = wMi wi1 ki1 mo1 ho1 wi1 ho1 (kmF ki1 mo1) pe1 ch1 ru1 him pe1 ch1 ru1 J K)) (d := 0) (by omega) wi1 ki mo ho1 wi1 ho1 pe1 ch1 ru1 him pe1 ch1 ru1 J K ki1 mo1 hK 7 0 (by omega) (by omega)
      rw [mixF_0, mixF_0] at hh
      exact hh
    refine ww_arr 2 ki1 rfl (fun j hj => by simp [mixF, hj]) (w1 := wMi wi1 ki1 (mixF mo mo1 6) ho1 wi1 ho1 (kmF ki1 mo1) pe1 ch1 ru1 him pe1 ch1 ru1 J K) rfl ?_
    refine ww_arr 3 mo1 rfl (fun j hj => by simp [mixF, hj]) (w1 := wMi wi1 ki1 mo1 ho1 wi1 ho1 (kmF ki1 mo1) pe1 ch1 ru1 him pe1 ch1 ru1 J K) rfl ?_
    refine ww_run 72 2 (pc' := 130) (lv' := [(0, .ref 0), (1, .int (nI 6))]) (st' := [.int pe1]) (w' := wMi wi1 ki1 mo1 ho1 wi1 ho1 (kmF ki1 mo1) pe1 ch1 ru1 him pe1 ch1 ru1 J K) (Ps := []) rfl trivial ?_
    refine ww_iret 74 rfl rfl ?_
    exact Or.inr ⟨c1, rfl, rfl⟩
  · refine ww_run 3 1 (pc' := 9) (lv' := [(0, .ref 0)]) (st' := [.int (-3)]) (w' := wMi wi ki mo ho wi1 ho1 (kmF ki1 mo1) pe ch ru him pe1 ch1 ru1 J K) (Ps := []) rfl trivial ?_
    refine ww_iret 4 rfl rfl ?_
    exact Or.inl ⟨c1, rfl, rfl⟩
