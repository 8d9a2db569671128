/-! what stands at the start, out of the Statement's premises -/
abbrev xcd : Cond := Jvm.Cond.and given_1 narrow_1
def xtm (i : Nat) : Term := .string (xsat i).1 (xsat i).2.1
def xsv (i : Nat) : Term := .field (xtm i) "java/lang/String" "value" "[B"
def xln : List Nat := xstr.map (fun q => q.2.2.2.length)
def xby : List (List Int32) := xstr.map (fun q => q.2.2.2)
def xin (w : Cond) : Bool := decide (w ∈ flatC xcd)
theorem sx_1 : (List.range 13).all (fun i => xin (.exactly (xtm i) "java/lang/String") && (xin (.eq (.field (xtm i) "java/lang/String" "coder" "B") (.int 0)) && (xin (.arrayOf (xsv i) .byte) && (xin (.eq (.length (xsv i)) (.int (Int32.ofNat (xln.getD i 0)))) && (decide (xln.getD i 0 < 2 ^ 31) && decide (Cond.stringRef (xsat i).1 (xsat i).2.1 (xsat i).2.2.1 ∈ lw_tbl)))))) = true := by decide +kernel
theorem sx_2 : (List.range 13).all (fun i => (List.range (xln.getD i 0)).all (fun j => xin (.eq (.elem (xsv i) (.int (Int32.ofNat j))) (.int ((xby.getD i []).getD j 0))))) = true := by decide +kernel
theorem sx_3 : (List.range 13).all (fun i => (List.range 13).all (fun j => decide (j ≤ i) || xin (.not (.eq (xtm i) (xtm j))))) = true := by decide +kernel
theorem sx_4 : (List.range 6).all (fun j => xin (.eq (.elem (.static "WarmChairs$Kinds" "ABOVE" "[I") (.int (Int32.ofNat j))) (.int (aboveF j)))) = true := by decide +kernel
theorem sx_5 : xnest.all (fun q => decide (Cond.methodLinkNest q.1 q.2.1 q.2.2.1 q.2.2.2 ∈ lw_tbl)) = true := by decide +kernel
theorem allr {n : Nat} {f : Nat → Bool} (h : (List.range n).all f = true) {i : Nat} (hi : i < n) : f i = true := List.all_eq_true.mp h i (List.mem_range.mpr hi)
set_option maxHeartbeats 4000000 in
theorem start_XN {s : State} {b : Nat} (hts : ∀ w ∈ lw_tbl, w.before #[Value.ref b] s = true) (hgv : xcd.before #[Value.ref b] s = true) : ∃ ad : Nat → Nat, XN (fun q : Nat => s.heap.size ≤ q) ad s := by
  have hA : ∀ a : Nat, a < s.heap.size → ¬ (fun q : Nat => s.heap.size ≤ q) a := fun a h => Nat.not_le.mpr h
  have hs := flat_of_before _ hgv
  have hin : ∀ w, xin w = true → w.before #[Value.ref b] s = true := fun w h => hs w (of_decide_eq_true h)
  have h1 := fun (i : Nat) (hi : i < 13) => allr sx_1 hi
  simp only [Bool.and_eq_true] at h1
  obtain ⟨adK, adV, hS, hR⟩ := vk_Sof (args := #[Value.ref b]) (s := s) (N := 13) (tm := xtm) (len := xln) (byt := xby) (A := fun q : Nat => s.heap.size ≤ q)
    (fun i hi => of_decide_eq_true (h1 i hi).2.2.2.2.1) (fun i hi => hin _ (h1 i hi).1) (fun i hi => hin _ (h1 i hi).2.1) (fun i hi => hin _ (h1 i hi).2.2.1) (fun i hi => hin _ (h1 i hi).2.2.2.1)
    (fun i hi j hj => hin _ (allr (allr sx_2 hi) hj))
    (fun i j hi hj hne => by
      rcases Nat.lt_or_gt_of_ne hne with h | h
      · have h2 := allr (allr sx_3 hi) hj
        simp only [Bool.or_eq_true, decide_eq_true_eq] at h2
        rcases h2 with h2 | h2
        · omega
        · exact Or.inl (hin _ h2)
      · have h2 := allr (allr sx_3 hj) hi
        simp only [Bool.or_eq_true, decide_eq_true_eq] at h2
        rcases h2 with h2 | h2
        · omega
        · exact Or.inr (hin _ h2)) hA
  obtain ⟨t, ht, hT⟩ := va_Tof (args := #[Value.ref b]) (s := s) (tm := .static "WarmChairs$Kinds" "ABOVE" "[I") (ty := .int) (N := 6) (f := fun j => .int (aboveF j)) (A := fun q : Nat => s.heap.size ≤ q) (by decide)
    (hin _ (by decide +kernel)) (va_eqt (hin _ (by decide +kernel))) (fun j hj => va_eqt (hin _ (allr sx_4 hj))) hA
  have hZ := va_Zof (A := fun q : Nat => s.heap.size ≤ q) (hts (.laysStatic "WarmChairs$Kinds" "ABOVE" "[I") (by decide +kernel)) (hts (.initialized "WarmChairs$Kinds") (by decide +kernel)) ht hA
  have hZ2 := va_Zof (A := fun q : Nat => s.heap.size ≤ q) (hts (.laysStatic "java/lang/String" "COMPACT_STRINGS" "Z") (by decide +kernel)) (hts (.initialized "java/lang/String") (by decide +kernel)) (va_eqi (z := 1) (hin _ (by decide +kernel))) hA
  have hZ3 := va_Zqof (A := fun q : Nat => s.heap.size ≤ q) (hts (.laysStatic "jdk/internal/util/Preconditions" "SIOOBE_FORMATTER" "Ljava/util/function/BiFunction;") (by decide +kernel)) (hts (.initialized "jdk/internal/util/Preconditions") (by decide +kernel)) (hin _ (by decide +kernel)) hA
  obtain ⟨t3, hZ3⟩ : ∃ t3 : Nat, va_Z "jdk/internal/util/Preconditions" "SIOOBE_FORMATTER" "Ljava/util/function/BiFunction;" .null (fun q : Nat => s.heap.size ≤ q) s s.heap ∨ va_Z "jdk/internal/util/Preconditions" "SIOOBE_FORMATTER" "Ljava/util/function/BiFunction;" (.ref t3) (fun q : Nat => s.heap.size ≤ q) s s.heap := by
    rcases hZ3 with h | ⟨t3, h⟩
    · exact ⟨0, Or.inl h⟩
    · exact ⟨t3, Or.inr h⟩
  obtain ⟨ad, a1, a2, a3⟩ : ∃ ad : Nat → Nat, (∀ i, i < 13 → ad (1000000 + i) = adK i) ∧ (∀ i, i < 13 → ad (2000000 + i) = adV i) ∧ ad 3000000 = t3 := by
    refine ⟨fun i => if i < 2000000 then adK (i - 1000000) else if i < 3000000 then adV (i - 2000000) else t3, fun i hi => ?_, fun i hi => ?_, ?_⟩
    · show (if 1000000 + i < 2000000 then adK (1000000 + i - 1000000) else _) = _
      rw [if_pos (by omega), Nat.add_sub_cancel_left]
    · show (if 2000000 + i < 2000000 then _ else if 2000000 + i < 3000000 then adV (2000000 + i - 2000000) else _) = _
      rw [if_neg (by omega), if_pos (by omega), Nat.add_sub_cancel_left]
    · show (if 3000000 < 2000000 then _ else if 3000000 < 3000000 then _ else t3) = _
      rw [if_neg (by omega), if_neg (by omega)]
  refine ⟨ad, ⟨fun q hm => va_Nw.of rfl (hts _ (of_decide_eq_true (List.all_eq_true.mp sx_5 q hm))), va_AO.of (hts (.arrayOver (.object "WarmChairs$Law")) (by decide +kernel)), va_AO.of (hts (.arrayOver (.object "WarmChairs$Sheet")) (by decide +kernel)), va_Nw.of rfl (hts (.castable "[I" "java/lang/Cloneable") (by decide +kernel))⟩, ⟨t, hZ, hT⟩, ⟨fun i hi => ?_, fun i j hi hj h => ?_⟩, fun i hi => ?_, hZ2, ?_⟩
  · dsimp only
    rw [a1 i hi, a2 i hi]
    exact hS.1 i hi
  · dsimp only at h
    rw [a1 i hi, a1 j hj] at h
    exact hS.2 i j hi hj h
  · rw [a1 i hi]
    exact vk_R.of (hts _ (of_decide_eq_true (h1 i hi).2.2.2.2.2)) (hR i hi)
  · rw [a3]
    exact hZ3
theorem big_i : ∀ (ci : Nat) (r : vw_C), vwCl[ci]? = some r → Cond.instantiable r.1 r.2.2 ∈ lw_tbl := by
  intro ci r h
  match ci, h with
  | 0, h => cases h; decide +kernel
  | 1, h => cases h; decide +kernel
  | 2, h => cases h; decide +kernel
  | 3, h => cases h; decide +kernel
  | 4, h => cases h; decide +kernel
  | 5, h => cases h; decide +kernel
  | 6, h => cases h; decide +kernel
  | ci + 7, h => simp [vwCl] at h
theorem start_K {s : State} {b : Nat} (hts : ∀ w ∈ lw_tbl, w.before #[Value.ref b] s = true) : ∃ (D : va_G) (cy : Nat → ClassId), va_K D vwCl (xty cy) s := by
  have h0 : ∀ k : Nat, ∃ q : ClassId × (Nat → Nat), ∀ r : vw_C, vwCl[k]? = some r → u_Kn s r.1 r.2.1 r.2.2 q.1 q.2 := by
    intro k
    cases hk : vwCl[k]? with
    | none => exact ⟨(0, fun _ => 0), fun r h => by cases h⟩
    | some r =>
      obtain ⟨cC, iS, h⟩ := u_known (C := r.1) (T := r.2.1) (N := r.2.2) (n := r.2.2) (fun w hw => hts w (bigw_l hw)) (big_u k r hk) (hts _ (big_i k r hk))
      exact ⟨(cC, iS), fun r' h' => by cases h'; exact h⟩
  obtain ⟨Df, hD⟩ := Classical.axiomOfChoice h0
  obtain ⟨c0, k0, m0, a1, a2, a3⟩ := Cond.arrayClass_spec (hts (.arrayClass .int) (by decide +kernel))
  obtain ⟨c1, k1, m1, b1, b2, b3⟩ := Cond.arrayClass_spec (hts (.arrayClass .boolean) (by decide +kernel))
  obtain ⟨m2, c2, k2, e1, e2, e3, e4, e5⟩ := Cond.arrayOver_spec (hts (.arrayOver (.object "WarmChairs$Law")) (by decide +kernel))
  obtain ⟨m3, c3, k3, f1, f2, f3, f4, f5⟩ := Cond.arrayOver_spec (hts (.arrayOver (.object "WarmChairs$Sheet")) (by decide +kernel))
  refine ⟨(fun k => (Df k).1, fun k => (Df k).2), fun k => if k = 0 then c0 else if k = 1 then c1 else if k = 2 then c2 else c3, fun ci r h => hD ci r h, fun k q hk => ?_⟩
  match k, hk with
  | 0, hk => cases hk; exact ⟨fun n z => ⟨fun k h => (by cases h), k0, a2, m0, a3⟩, a1⟩
  | 1, hk => cases hk; exact ⟨fun n z => ⟨fun k h => (by cases h), k1, b2, m1, b3⟩, b1⟩
  | 2, hk => cases hk; exact ⟨fun n z => ⟨fun k h => (by cases h), k2, e3, m2, e4⟩, k2, m2, e3, e4, e1, e5⟩
  | 3, hk => cases hk; exact ⟨fun n z => ⟨fun k h => (by cases h), k3, f3, m3, f4⟩, k3, m3, f3, f4, f1, f5⟩
  | k + 4, hk => simp [xty] at hk
