/-! THE EVENING, BOTH WAYS: pure rows -/
def s6 (b0 b1 b2 b3 b4 b5 : Bool) : Int32 :=
  let x0 : Int32 := if b0 then (0 : Int32) ||| ((1 : Int32) <<< ((nI 0) &&& 31)) else 0
  let x1 : Int32 := if b1 then x0 ||| ((1 : Int32) <<< ((nI 1) &&& 31)) else x0
  let x2 : Int32 := if b2 then x1 ||| ((1 : Int32) <<< ((nI 2) &&& 31)) else x1
  let x3 : Int32 := if b3 then x2 ||| ((1 : Int32) <<< ((nI 3) &&& 31)) else x2
  let x4 : Int32 := if b4 then x3 ||| ((1 : Int32) <<< ((nI 4) &&& 31)) else x3
  if b5 then x4 ||| ((1 : Int32) <<< ((nI 5) &&& 31)) else x4
theorem setOf6 (f : Nat → Bool) : setOf f 6 = s6 (f 0) (f 1) (f 2) (f 3) (f 4) (f 5) := rfl
theorem s6_set : ∀ (b0 b1 b2 b3 b4 b5 : Bool) (c : Fin 6), s6 b0 b1 b2 b3 b4 b5 ||| ((1 : Int32) <<< ((nI c.val) &&& 31)) = s6 (b0 || decide (c.val = 0)) (b1 || decide (c.val = 1)) (b2 || decide (c.val = 2)) (b3 || decide (c.val = 3)) (b4 || decide (c.val = 4)) (b5 || decide (c.val = 5)) := by decide +kernel
theorem s6_clear : ∀ (b0 b1 b2 b3 b4 b5 : Bool) (c : Fin 6), s6 b0 b1 b2 b3 b4 b5 &&& (((1 : Int32) <<< ((nI c.val) &&& 31)) ^^^ (-1)) = s6 (b0 && decide (¬ c.val = 0)) (b1 && decide (¬ c.val = 1)) (b2 && decide (¬ c.val = 2)) (b3 && decide (¬ c.val = 3)) (b4 && decide (¬ c.val = 4)) (b5 && decide (¬ c.val = 5)) := by decide +kernel
def nth6 (b0 b1 b2 b3 b4 b5 : Bool) (c : Nat) : Bool := if c = 0 then b0 else if c = 1 then b1 else if c = 2 then b2 else if c = 3 then b3 else if c = 4 then b4 else if c = 5 then b5 else false
theorem s6_beside : ∀ (b0 b1 b2 b3 b4 b5 : Bool) (c : Fin 6), decide (eBeside (s6 b0 b1 b2 b3 b4 b5) c.val) = ((decide (1 ≤ c.val) && nth6 b0 b1 b2 b3 b4 b5 (c.val - 1)) || nth6 b0 b1 b2 b3 b4 b5 (c.val + 1)) := by decide +kernel
theorem setOf_set (f : Nat → Bool) {c : Nat} (hc : c < 6) : setOf f 6 ||| ((1 : Int32) <<< ((nI c) &&& 31)) = setOf (fun j => f j || decide (c = j)) 6 := by
  rw [setOf6, setOf6]
  exact s6_set _ _ _ _ _ _ ⟨c, hc⟩
theorem setOf_clear (f : Nat → Bool) {c : Nat} (hc : c < 6) : setOf f 6 &&& (((1 : Int32) <<< ((nI c) &&& 31)) ^^^ (-1)) = setOf (fun j => f j && decide (¬ c = j)) 6 := by
  rw [setOf6, setOf6]
  exact s6_clear _ _ _ _ _ _ ⟨c, hc⟩
theorem nth6_f (f : Nat → Bool) (c : Nat) (hf : ∀ j, 6 ≤ j → f j = false) : nth6 (f 0) (f 1) (f 2) (f 3) (f 4) (f 5) c = f c := by
  unfold nth6
  by_cases h : c < 6
  · rcases (show c = 0 ∨ c = 1 ∨ c = 2 ∨ c = 3 ∨ c = 4 ∨ c = 5 by omega) with rfl | rfl | rfl | rfl | rfl | rfl <;> rfl
  · rw [hf c (by omega)]
    grind
theorem setOf_beside (f : Nat → Bool) (hf : ∀ j, 6 ≤ j → f j = false) {c : Nat} (hc : c < 6) : eBeside (setOf f 6) c ↔ (1 ≤ c ∧ f (c - 1) = true) ∨ f (c + 1) = true := by
  have h := s6_beside (f 0) (f 1) (f 2) (f 3) (f 4) (f 5) ⟨c, hc⟩
  rw [← setOf6] at h
  simp only [nth6_f f _ hf] at h
  rw [← decide_eq_true_iff (p := eBeside (setOf f 6) c), h]
  simp
