/-- the text that a new house has, as far as it lies on the tape -/
def dfB (i : Nat) : Nat → Int32 := fun j => if j < i then sbyt 0 j else 0
theorem dfB_s (i : Nat) : upd (dfB i) i (sbyt 0 i) = dfB (i + 1) := by
  funext j
  unfold upd dfB
  by_cases h : j = i
  · rw [if_pos h, if_pos (by omega), h]
  · rw [if_neg h]
    by_cases g : j < i
    · rw [if_pos g, if_pos (by omega)]
    · rw [if_neg g, if_neg (by omega)]
def txN (n : Nat) : Nat → Option Nat := fun j => if j < n then some 48 else none
theorem txN_s (n : Nat) : va_up (txN n) n (some 48) = txN (n + 1) := by
  funext j
  unfold va_up txN
  by_cases h : j = n
  · rw [if_pos h, if_pos (by omega)]
  · rw [if_neg h]
    by_cases g : j < n
    · rw [if_pos g, if_pos (by omega)]
    · rw [if_neg g, if_neg (by omega)]
theorem txN_0 : txN 0 = fun _ => none := by
  funext j
  unfold txN
  rw [if_neg (Nat.not_lt_zero j)]
def shQ (n : Nat) : Nat → Option Nat := fun j => if j < n ∧ j < 4 then some (40 + 2 * j) else none
theorem shQ_no {n k : Nat} (h : 40 + 2 * n ≤ k) : ∀ j, shQ n j ≠ some k := by
  intro j q
  unfold shQ at q
  split at q
  · injection q; omega
  · cases q
theorem shQ_up {n : Nat} (hn : n < 4) : va_up (shQ n) n (some (40 + 2 * n)) = shQ (n + 1) := by
  funext j
  unfold va_up shQ
  by_cases h : j = n
  · rw [if_pos h, if_pos (by omega), h]
  · rw [if_neg h]
    by_cases g : j < n ∧ j < 4
    · rw [if_pos g, if_pos (by omega)]
    · rw [if_neg g, if_neg (by omega)]
theorem shQ_0 : (fun _ => none) = shQ 0 := by
  funext j
  unfold shQ
  rw [if_neg (by omega)]
theorem shQ_4 : shQ 4 = shR := by
  funext j
  unfold shQ shR
  rcases Nat.lt_or_ge j 4 with h | h
  · rcases (show j = 0 ∨ j = 1 ∨ j = 2 ∨ j = 3 by omega) with rfl | rfl | rfl | rfl <;> rfl
  · rw [if_neg (by omega), if_neg (by omega), if_neg (by omega), if_neg (by omega), if_neg (by omega)]
set_option maxHeartbeats 8000000 in
set_option maxRecDepth 100000 in
theorem ly_ini {Q : Option Value → List va_E → Prop} (KK : WW M_X6_init 46 Q (51, 938, 47, 732) 171 [(1, .int (nI 50)), (0, .ref 0)] [] (wC (fun _ => 0) (fun _ => 0) (fun _ => 0) (fun _ => 0) (fun _ => 0) 0 0 0 1 9 0 (-1) (fun _ => 0) (fun _ => 0) (fun _ => 0) (fun _ => 0) (fun _ => 0) 0 0 0 1 9 0 (-1) (dfB 50) (fun _ => 0) (fun _ => 0) (nI 50) 0 0 0 (-1) (fun _ => 0) (fun _ => 0) (fun _ => 0) (fun _ => 0) (fun _ => 0) 0 0 0 1 9 0 (-1) (fun _ => 0) (fun _ => 0) (fun _ => 0) (fun _ => 0) (fun _ => 0) (fun _ => 0) (fun _ => 0) (fun _ => 0) (fun _ => 0) (fun _ => 0) 0 0 0 0 0 0 (fun _ => 0) (fun _ => 0) (fun _ => 0) (fun _ => 0) (fun _ => -1) (fun _ => 0) (fun _ _ => 0) (fun _ => none) ([]))) : ∀ (n i : Nat), i ≤ 50 → 51 ≤ i + n → WW M_X6_init 46 Q (51, 938, 47, 732) 143 [(1, .int (nI i)), (0, .ref 0)] [] (wC (fun _ => 0) (fun _ => 0) (fun _ => 0) (fun _ => 0) (fun _ => 0) 0 0 0 1 9 0 (-1) (fun _ => 0) (fun _ => 0) (fun _ => 0) (fun _ => 0) (fun _ => 0) 0 0 0 1 9 0 (-1) (dfB i) (fun _ => 0) (fun _ => 0) (nI i) 0 0 0 (-1) (fun _ => 0) (fun _ => 0) (fun _ => 0) (fun _ => 0) (fun _ => 0) 0 0 0 1 9 0 (-1) (fun _ => 0) (fun _ => 0) (fun _ => 0) (fun _ => 0) (fun _ => 0) (fun _ => 0) (fun _ => 0) (fun _ => 0) (fun _ => 0) (fun _ => 0) 0 0 0 0 0 0 (fun _ => 0) (fun _ => 0) (fun _ => 0) (fun _ => 0) (fun _ => -1) (fun _ => 0) (fun _ _ => 0) (fun _ => none) ([])) := by
  intro n
  induction n with
  | zero => intros; omega
  | succ n ih =>
    intro i hi hn
    refine ww_run 74 1 (pc' := 144) (lv' := [(1, .int (nI i)), (0, .ref 0)]) (st' := [.int (nI i)]) (w' := wC (fun _ => 0) (fun _ => 0) (fun _ => 0) (fun _ => 0) (fun _ => 0) 0 0 0 1 9 0 (-1) (fun _ => 0) (fun _ => 0) (fun _ => 0) (fun _ => 0) (fun _ => 0) 0 0 0 1 9 0 (-1) (dfB i) (fun _ => 0) (fun _ => 0) (nI i) 0 0 0 (-1) (fun _ => 0) (fun _ => 0) (fun _ => 0) (fun _ => 0) (fun _ => 0) 0 0 0 1 9 0 (-1) (fun _ => 0) (fun _ => 0) (fun _ => 0) (fun _ => 0) (fun _ => 0) (fun _ => 0) (fun _ => 0) (fun _ => 0) (fun _ => 0) (fun _ => 0) 0 0 0 0 0 0 (fun _ => 0) (fun _ => 0) (fun _ => 0) (fun _ => 0) (fun _ => -1) (fun _ => 0) (fun _ _ => 0) (fun _ => none) ([])) (Ps := []) rfl trivial ?_
    refine ww_ldcS 75 0 (by decide) rfl rfl rfl ?_
    refine ww_callVT 76 ok_J0_length_8abf5 (x_slength 0 (by decide)) lk_X6_75 rfl (Nat.le_of_ble_eq_true rfl) (Nat.le_of_ble_eq_true rfl) (Or.inl rfl) (by omega) (rest := [.int (nI i)]) rfl (Nat.le_of_ble_eq_true rfl) (by decide) rfl rfl (fun r w' hq => ?_)
    obtain ⟨rfl, rfl⟩ := hq
    refine ww_icmp_ge 77 rfl (tgt := 171) rfl (fun c => ?_) (fun c => ?_)
    · have c : 50 ≤ i := (nI_leI (a := 50) (b := i) (by omega) (by omega)).mp c
      obtain rfl : i = 50 := by omega
      exact KK
    · have c : ¬ 50 ≤ i := fun q => c ((nI_leI (a := 50) (b := i) (by omega) (by omega)).mpr q)
      refine ww_run 78 2 (pc' := 156) (lv' := [(1, .int (nI i)), (0, .ref 0)]) (st' := [.ref 13]) (w' := wC (fun _ => 0) (fun _ => 0) (fun _ => 0) (fun _ => 0) (fun _ => 0) 0 0 0 1 9 0 (-1) (fun _ => 0) (fun _ => 0) (fun _ => 0) (fun _ => 0) (fun _ => 0) 0 0 0 1 9 0 (-1) (dfB i) (fun _ => 0) (fun _ => 0) (nI i) 0 0 0 (-1) (fun _ => 0) (fun _ => 0) (fun _ => 0) (fun _ => 0) (fun _ => 0) 0 0 0 1 9 0 (-1) (fun _ => 0) (fun _ => 0) (fun _ => 0) (fun _ => 0) (fun _ => 0) (fun _ => 0) (fun _ => 0) (fun _ => 0) (fun _ => 0) (fun _ => 0) 0 0 0 0 0 0 (fun _ => 0) (fun _ => 0) (fun _ => 0) (fun _ => 0) (fun _ => -1) (fun _ => 0) (fun _ _ => 0) (fun _ => none) ([])) (Ps := []) rfl trivial ?_
      refine ww_ldcS 80 0 (by decide) rfl rfl rfl ?_
      refine ww_run 81 1 (pc' := 159) (lv' := [(1, .int (nI i)), (0, .ref 0)]) (st' := [.int (nI i), .ref (1000000 + 0), .ref 13]) (w' := wC (fun _ => 0) (fun _ => 0) (fun _ => 0) (fun _ => 0) (fun _ => 0) 0 0 0 1 9 0 (-1) (fun _ => 0) (fun _ => 0) (fun _ => 0) (fun _ => 0) (fun _ => 0) 0 0 0 1 9 0 (-1) (dfB i) (fun _ => 0) (fun _ => 0) (nI i) 0 0 0 (-1) (fun _ => 0) (fun _ => 0) (fun _ => 0) (fun _ => 0) (fun _ => 0) 0 0 0 1 9 0 (-1) (fun _ => 0) (fun _ => 0) (fun _ => 0) (fun _ => 0) (fun _ => 0) (fun _ => 0) (fun _ => 0) (fun _ => 0) (fun _ => 0) (fun _ => 0) 0 0 0 0 0 0 (fun _ => 0) (fun _ => 0) (fun _ => 0) (fun _ => 0) (fun _ => -1) (fun _ => 0) (fun _ _ => 0) (fun _ => none) ([])) (Ps := []) rfl trivial ?_
      refine ww_callVT 82 ok_J0_charAt_5068e (x_char0 0 i (by decide) (by show i < 50; omega)) lk_X6_81 rfl (Nat.le_of_ble_eq_true rfl) (Nat.le_of_ble_eq_true rfl) (Or.inl rfl) (by omega) (rest := [.ref 13]) rfl (Nat.le_of_ble_eq_true rfl) (by decide) rfl rfl (fun r w' hq => ?_)
      obtain ⟨rfl, rfl⟩ := hq
      refine ww_callV 83 (b := 13) (av := [.int (sbyt 0 i)]) ok_X5_put (Co.frv (w1 := wC (fun _ => 0) (fun _ => 0) (fun _ => 0) (fun _ => 0) (fun _ => 0) 0 0 0 1 9 0 (-1) (fun _ => 0) (fun _ => 0) (fun _ => 0) (fun _ => 0) (fun _ => 0) 0 0 0 1 9 0 (-1) (upd (dfB i) i (sbyt 0 i)) (fun _ => 0) (fun _ => 0) (nI (i + 1)) 0 0 0 (-1) (fun _ => 0) (fun _ => 0) (fun _ => 0) (fun _ => 0) (fun _ => 0) 0 0 0 1 9 0 (-1) (fun _ => 0) (fun _ => 0) (fun _ => 0) (fun _ => 0) (fun _ => 0) (fun _ => 0) (fun _ => 0) (fun _ => 0) (fun _ => 0) (fun _ => 0) 0 0 0 0 0 0 (fun _ => 0) (fun _ => 0) (fun _ => 0) (fun _ => 0) (fun _ => -1) (fun _ => 0) (fun _ _ => 0) (fun _ => none) ([])) [13, 14, 15, 16] (x_tput (dfB i) (fun _ => 0) (fun _ => 0) 0 0 0 (-1) i (by omega) (sbyt 0 i)) rfl rfl rfl) lk_X6_85 rfl (Nat.le_of_ble_eq_true rfl) (Nat.le_of_ble_eq_true rfl) (Or.inl rfl) (by omega) (rest := []) rfl (Nat.le_of_ble_eq_true rfl) rfl rfl rfl rfl (fun r w' hq => ?_)
      obtain ⟨rfl, rfl⟩ := hq
      rw [dfB_s i]
      refine ww_run 84 2 (pc' := 143) (lv' := [(1, .int (nI i + 1)), (0, .ref 0)]) (st' := []) (w' := wC (fun _ => 0) (fun _ => 0) (fun _ => 0) (fun _ => 0) (fun _ => 0) 0 0 0 1 9 0 (-1) (fun _ => 0) (fun _ => 0) (fun _ => 0) (fun _ => 0) (fun _ => 0) 0 0 0 1 9 0 (-1) (dfB (i + 1)) (fun _ => 0) (fun _ => 0) (nI (i + 1)) 0 0 0 (-1) (fun _ => 0) (fun _ => 0) (fun _ => 0) (fun _ => 0) (fun _ => 0) 0 0 0 1 9 0 (-1) (fun _ => 0) (fun _ => 0) (fun _ => 0) (fun _ => 0) (fun _ => 0) (fun _ => 0) (fun _ => 0) (fun _ => 0) (fun _ => 0) (fun _ => 0) 0 0 0 0 0 0 (fun _ => 0) (fun _ => 0) (fun _ => 0) (fun _ => 0) (fun _ => -1) (fun _ => 0) (fun _ _ => 0) (fun _ => none) ([])) (Ps := []) rfl trivial ?_
      rw [nI_1 i]
      exact ih (i + 1) (by omega) (by omega)
