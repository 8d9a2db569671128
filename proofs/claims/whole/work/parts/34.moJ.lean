set_option maxHeartbeats 4000000 in
set_option maxRecDepth 100000 in
theorem l_X7_risen_4 {Q : Option Value → List va_E → Prop} {d : Nat} (hd : 0 ≤ d) (wi ki mo ho cd sr stk names till sitter on was sat stood rose turn : Nat → Int32) (ch ru lent : Int32) (J : Nat → Int32) (K : Nat → Nat → Int32) (P : Nat) (hP : P ≤ 5) (KK : WW M_X7_risen d Q xz 36 [(0, .ref 0), (1, .int (sumTo (fun q => if rose q = -1 then 0 else 1) P)), (2, .int (nI P))] [] (wMv wi ki mo ho cd sr stk names till sitter on was sat stood rose turn (nI P) ch ru lent J K)) :
    ∀ (n i : Nat) , i ≤ P → P + 1 ≤ i + n → WW M_X7_risen d Q xz 4 [(0, .ref 0), (1, .int (sumTo (fun q => if rose q = -1 then 0 else 1) i)), (2, .int (nI i))] [] (wMv wi ki mo ho cd sr stk names till sitter on was sat stood rose turn (nI P) ch ru lent J K) := by
  intro n
  induction n with
  | zero => intro i; intros; omega
  | succ n ih =>
    intro i hi hn
    refine ww_run 4 3 (pc' := 9) (lv' := [(0, .ref 0), (1, .int (sumTo (fun q => if rose q = -1 then 0 else 1) i)), (2, .int (nI i))]) (st' := [.int (nI P), .int (nI i)]) (w' := wMv wi ki mo ho cd sr stk names till sitter on was sat stood rose turn (nI P) ch ru lent J K) (Ps := []) rfl trivial ?_
    refine ww_icmp_ge 7 rfl (tgt := 36) rfl (fun c1 => ?_) (fun c1 => ?_)
    · have c1 : P ≤ i := (nI_leI (a := P) (b := i) (by omega) (by omega)).mp c1
      obtain rfl : i = P := by omega
      exact KK
    · have c1 : ¬ P ≤ i := fun q => c1 ((nI_leI (a := P) (b := i) (by omega) (by omega)).mpr q)
      refine ww_run 8 6 (pc' := 20) (lv' := [(0, .ref 0), (1, .int (sumTo (fun q => if rose q = -1 then 0 else 1) i)), (2, .int (nI i))]) (st' := [.int (-1), .int (rose (nI i).toNatClampNeg), .int (sumTo (fun q => if rose q = -1 then 0 else 1) i)]) (w' := wMv wi ki mo ho cd sr stk names till sitter on was sat stood rose turn (nI P) ch ru lent J K) (Ps := [vp_in (nI i) 5]) rfl ⟨(vp_in_nI (by omega) (by omega)), trivial⟩ ?_
      rw [nI_clamp (n := i) (by omega)]
      refine ww_icmp_ne 14 rfl (tgt := 27) rfl (fun c2 => ?_) (fun c2 => ?_)
      · refine ww_run 17 5 (pc' := 4) (lv' := [(2, .int ((nI i) + 1)), (1, .int ((sumTo (fun q => if rose q = -1 then 0 else 1) i) + 1)), (0, .ref 0)]) (st' := []) (w' := wMv wi ki mo ho cd sr stk names till sitter on was sat stood rose turn (nI P) ch ru lent J K) (Ps := []) rfl trivial ?_
        rw [nI_1 i]
        refine ww_lv [2, 1, 0] (lv' := [(0, .ref 0), (1, .int ((sumTo (fun q => if rose q = -1 then 0 else 1) i) + 1)), (2, .int (nI (i + 1)))]) rfl ?_
        have e : sumTo (fun q => if rose q = -1 then 0 else 1) (i + 1) = (sumTo (fun q => if rose q = -1 then 0 else 1) i) + 1 := by simp only [sumTo]; simp [*]
        have h := ih (i + 1) (by omega) (by omega)
        rw [e] at h
        exact h
      · refine ww_run 15 2 (pc' := 28) (lv' := [(0, .ref 0), (1, .int (sumTo (fun q => if rose q = -1 then 0 else 1) i)), (2, .int (nI i))]) (st' := [.int 0, .int (sumTo (fun q => if rose q = -1 then 0 else 1) i)]) (w' := wMv wi ki mo ho cd sr stk names till sitter on was sat stood rose turn (nI P) ch ru lent J K) (Ps := []) rfl trivial ?_
        refine ww_run 18 4 (pc' := 4) (lv' := [(2, .int ((nI i) + 1)), (1, .int ((sumTo (fun q => if rose q = -1 then 0 else 1) i) + 0)), (0, .ref 0)]) (st' := []) (w' := wMv wi ki mo ho cd sr stk names till sitter on was sat stood rose turn (nI P) ch ru lent J K) (Ps := []) rfl trivial ?_
        rw [nI_1 i]
        refine ww_lv [2, 1, 0] (lv' := [(0, .ref 0), (1, .int ((sumTo (fun q => if rose q = -1 then 0 else 1) i) + 0)), (2, .int (nI (i + 1)))]) rfl ?_
        have e : sumTo (fun q => if rose q = -1 then 0 else 1) (i + 1) = (sumTo (fun q => if rose q = -1 then 0 else 1) i) + 0 := by simp only [sumTo]; simp [*]
        have h := ih (i + 1) (by omega) (by omega)
        rw [e] at h
        exact h
set_option maxHeartbeats 4000000 in
set_option maxRecDepth 100000 in
theorem c_X7_risen (wi ki mo ho cd sr stk names till sitter on was sat stood rose turn : Nat → Int32) (ch ru lent : Int32) (J : Nat → Int32) (K : Nat → Nat → Int32) (P : Nat) (hP : P ≤ 5) : Co M_X7_risen 0 0 0 [.ref 0] (wMv wi ki mo ho cd sr stk names till sitter on was sat stood rose turn (nI P) ch ru lent J K) (Qi (sumTo (fun q => if rose q = -1 then 0 else 1) P) (wMv wi ki mo ho cd sr stk names till sitter on was sat stood rose turn (nI P) ch ru lent J K)) := by
  refine Co.of ok_X7_risen rfl ?_
  refine ww_run 0 4 (pc' := 4) (lv' := [(2, .int 0), (1, .int 0), (0, .ref 0)]) (st' := []) (w' := wMv wi ki mo ho cd sr stk names till sitter on was sat stood rose turn (nI P) ch ru lent J K) (Ps := []) rfl trivial ?_
  refine ww_lv [2, 1, 0] (lv' := [(0, .ref 0), (1, .int 0), (2, .int 0)]) rfl ?_
  refine l_X7_risen_4 (by omega) wi ki mo ho cd sr stk names till sitter on was sat stood rose turn ch ru lent J K P hP ?_ (P + 1) 0 (by omega) (by omega)
  refine ww_run 22 1 (pc' := 37) (lv' := [(0, .ref 0), (1, .int (sumTo (fun q => if rose q = -1 then 0 else 1) P)), (2, .int (nI P))]) (st' := [.int (sumTo (fun q => if rose q = -1 then 0 else 1) P)]) (w' := wMv wi ki mo ho cd sr stk names till sitter on was sat stood rose turn (nI P) ch ru lent J K) (Ps := []) rfl trivial ?_
  refine ww_iret 23 rfl rfl ?_
  exact ⟨rfl, rfl⟩
set_option maxHeartbeats 4000000 in
set_option maxRecDepth 100000 in
theorem l_X7_stoodAll_4 {Q : Option Value → List va_E → Prop} {d : Nat} (hd : 0 ≤ d) (wi ki mo ho cd sr stk names till sitter on was sat stood rose turn : Nat → Int32) (ch ru lent : Int32) (J : Nat → Int32) (K : Nat → Nat → Int32) (P : Nat) (hP : P ≤ 5) (KK : WW M_X7_stoodAll d Q xz 27 [(0, .ref 0), (1, .int (sumTo stood P)), (2, .int (nI P))] [] (wMv wi ki mo ho cd sr stk names till sitter on was sat stood rose turn (nI P) ch ru lent J K)) :
    ∀ (n i : Nat) , i ≤ P → P + 1 ≤ i + n → WW M_X7_stoodAll d Q xz 4 [(0, .ref 0), (1, .int (sumTo stood i)), (2, .int (nI i))] [] (wMv wi ki mo ho cd sr stk names till sitter on was sat stood rose turn (nI P) ch ru lent J K) := by
  intro n
  induction n with
  | zero => intro i; intros; omega
  | succ n ih =>
    intro i hi hn
    refine ww_run 4 3 (pc' := 9) (lv' := [(0, .ref 0), (1, .int (sumTo stood i)), (2, .int (nI i))]) (st' := [.int (nI P), .int (nI i)]) (w' := wMv wi ki mo ho cd sr stk names till sitter on was sat stood rose turn (nI P) ch ru lent J K) (Ps := []) rfl trivial ?_
    refine ww_icmp_ge 7 rfl (tgt := 27) rfl (fun c1 => ?_) (fun c1 => ?_)
    · have c1 : P ≤ i := (nI_leI (a := P) (b := i) (by omega) (by omega)).mp c1
      obtain rfl : i = P := by omega
      exact KK
    · have c1 : ¬ P ≤ i := fun q => c1 ((nI_leI (a := P) (b := i) (by omega) (by omega)).mpr q)
      refine ww_run 8 9 (pc' := 4) (lv' := [(2, .int ((nI i) + 1)), (1, .int ((sumTo stood i) + (stood (nI i).toNatClampNeg))), (0, .ref 0)]) (st' := []) (w' := wMv wi ki mo ho cd sr stk names till sitter on was sat stood rose turn (nI P) ch ru lent J K) (Ps := [vp_in (nI i) 5]) rfl ⟨(vp_in_nI (by omega) (by omega)), trivial⟩ ?_
      rw [nI_clamp (n := i) (by omega)]
      rw [nI_1 i]
      refine ww_lv [2, 1, 0] (lv' := [(0, .ref 0), (1, .int ((sumTo stood i) + (stood i))), (2, .int (nI (i + 1)))]) rfl ?_
      have e : sumTo stood (i + 1) = (sumTo stood i) + (stood i) := rfl
      have h := ih (i + 1) (by omega) (by omega)
      rw [e] at h
      exact h
set_option maxHeartbeats 4000000 in
set_option maxRecDepth 100000 in
theorem c_X7_stoodAll (wi ki mo ho cd sr stk names till sitter on was sat stood rose turn : Nat → Int32) (ch ru lent : Int32) (J : Nat → Int32) (K : Nat → Nat → Int32) (P : Nat) (hP : P ≤ 5) : Co M_X7_stoodAll 0 0 0 [.ref 0] (wMv wi ki mo ho cd sr stk names till sitter on was sat stood rose turn (nI P) ch ru lent J K) (Qi (sumTo stood P) (wMv wi ki mo ho cd sr stk names till sitter on was sat stood rose turn (nI P) ch ru lent J K)) := by
  refine Co.of ok_X7_stoodAll rfl ?_
  refine ww_run 0 4 (pc' := 4) (lv' := [(2, .int 0), (1, .int 0), (0, .ref 0)]) (st' := []) (w' := wMv wi ki mo ho cd sr stk names till sitter on was sat stood rose turn (nI P) ch ru lent J K) (Ps := []) rfl trivial ?_
  refine ww_lv [2, 1, 0] (lv' := [(0, .ref 0), (1, .int 0), (2, .int 0)]) rfl ?_
  refine l_X7_stoodAll_4 (by omega) wi ki mo ho cd sr stk names till sitter on was sat stood rose turn ch ru lent J K P hP ?_ (P + 1) 0 (by omega) (by omega)
  refine ww_run 17 1 (pc' := 28) (lv' := [(0, .ref 0), (1, .int (sumTo stood P)), (2, .int (nI P))]) (st' := [.int (sumTo stood P)]) (w' := wMv wi ki mo ho cd sr stk names till sitter on was sat stood rose turn (nI P) ch ru lent J K) (Ps := []) rfl trivial ?_
  refine ww_iret 18 rfl rfl ?_
  exact ⟨rfl, rfl⟩
set_option maxHeartbeats 4000000 in
set_option maxRecDepth 100000 in
theorem l_X7_longest_4 {Q : Option Value → List va_E → Prop} {d : Nat} (hd : 0 ≤ d) (wi ki mo ho cd sr stk names till sitter on was sat stood rose turn : Nat → Int32) (ch ru lent : Int32) (J : Nat → Int32) (K : Nat → Nat → Int32) (P : Nat) (hP : P ≤ 5) (KK : WW M_X7_longest d Q xz 44 [(0, .ref 0), (1, .int (o2i (bestOf (fun _ => true) (fun p b => decide (stood b < stood p)) P))), (2, .int (nI P))] [] (wMv wi ki mo ho cd sr stk names till sitter on was sat stood rose turn (nI P) ch ru lent J K)) :
    ∀ (n i : Nat) , i ≤ P → P + 1 ≤ i + n → WW M_X7_longest d Q xz 4 [(0, .ref 0), (1, .int (o2i (bestOf (fun _ => true) (fun p b => decide (stood b < stood p)) i))), (2, .int (nI i))] [] (wMv wi ki mo ho cd sr stk names till sitter on was sat stood rose turn (nI P) ch ru lent J K) := by
  intro n
  induction n with
  | zero => intro i; intros; omega
  | succ n ih =>
    intro i hi hn
    refine ww_run 4 3 (pc' := 9) (lv' := [(0, .ref 0), (1, .int (o2i (bestOf (fun _ => true) (fun p b => decide (stood b < stood p)) i))), (2, .int (nI i))]) (st' := [.int (nI P), .int (nI i)]) (w' := wMv wi ki mo ho cd sr stk names till sitter on was sat stood rose turn (nI P) ch ru lent J K) (Ps := []) rfl trivial ?_
    refine ww_icmp_ge 7 rfl (tgt := 44) rfl (fun c1 => ?_) (fun c1 => ?_)
    · have c1 : P ≤ i := (nI_leI (a := P) (b := i) (by omega) (by omega)).mp c1
      obtain rfl : i = P := by omega
      exact KK
    · have c1 : ¬ P ≤ i := fun q => c1 ((nI_leI (a := P) (b := i) (by omega) (by omega)).mpr q)
      rcases hb : bestOf (fun _ => true) (fun p b => decide (stood b < stood p)) i with _ | b
      · skip
        refine ww_run 8 2 (pc' := 14) (lv' := [(0, .ref 0), (1, .int (-1)), (2, .int (nI i))]) (st' := [.int (-1), .int (-1)]) (w' := wMv wi ki mo ho cd sr stk names till sitter on was sat stood rose turn (nI P) ch ru lent J K) (Ps := []) rfl trivial ?_
        refine ww_icmp_eq 10 rfl (tgt := 32) rfl (fun c2 => ?_) (fun c2 => ?_)
        · refine ww_run 20 2 (pc' := 37) (lv' := [(0, .ref 0), (1, .int (-1)), (2, .int (nI i))]) (st' := [.int (nI i)]) (w' := wMv wi ki mo ho cd sr stk names till sitter on was sat stood rose turn (nI P) ch ru lent J K) (Ps := []) rfl trivial ?_
          refine ww_run 23 3 (pc' := 4) (lv' := [(2, .int ((nI i) + 1)), (1, .int (nI i)), (0, .ref 0)]) (st' := []) (w' := wMv wi ki mo ho cd sr stk names till sitter on was sat stood rose turn (nI P) ch ru lent J K) (Ps := []) rfl trivial ?_
          rw [nI_1 i]
          refine ww_lv [2, 1, 0] (lv' := [(0, .ref 0), (1, .int (nI i)), (2, .int (nI (i + 1)))]) rfl ?_
          have e : bestOf (fun _ => true) (fun p b => decide (stood b < stood p)) (i + 1) = some i := bestOf_nt hb rfl
          have h := ih (i + 1) (by omega) (by omega)
          rw [e] at h
          exact h
        · exact absurd c2 (by decide)
      · have hbl := bestOf_lt hb
        refine ww_run 8 2 (pc' := 14) (lv' := [(0, .ref 0), (1, .int (nI b)), (2, .int (nI i))]) (st' := [.int (-1), .int (nI b)]) (w' := wMv wi ki mo ho cd sr stk names till sitter on was sat stood rose turn (nI P) ch ru lent J K) (Ps := []) rfl trivial ?_
        refine ww_icmp_eq 10 rfl (tgt := 32) rfl (fun c3 => ?_) (fun c3 => ?_)
        · exact absurd c3 (nI_ne_m1 (by omega))
        · refine ww_run 11 8 (pc' := 29) (lv' := [(0, .ref 0), (1, .int (nI b)), (2, .int (nI i))]) (st' := [.int (stood (nI b).toNatClampNeg), .int (stood (nI i).toNatClampNeg)]) (w' := wMv wi ki mo ho cd sr stk names till sitter on was sat stood rose turn (nI P) ch ru lent J K) (Ps := [vp_in (nI i) 5, vp_in (nI b) 5]) rfl ⟨(vp_in_nI (by omega) (by omega)), (vp_in_nI (by omega) (by omega)), trivial⟩ ?_
          rw [nI_clamp (n := b) (by omega)]
          rw [nI_clamp (n := i) (by omega)]
          refine ww_icmp_le 19 rfl (tgt := 36) rfl (fun c4 => ?_) (fun c4 => ?_)
          · refine ww_run 22 4 (pc' := 4) (lv' := [(2, .int ((nI i) + 1)), (1, .int (nI b)), (0, .ref 0)]) (st' := []) (w' := wMv wi ki mo ho cd sr stk names till sitter on was sat stood rose turn (nI P) ch ru lent J K) (Ps := []) rfl trivial ?_
            rw [nI_1 i]
            refine ww_lv [2, 1, 0] (lv' := [(0, .ref 0), (1, .int (nI b)), (2, .int (nI (i + 1)))]) rfl ?_
            have e : bestOf (fun _ => true) (fun p b => decide (stood b < stood p)) (i + 1) = some b := bestOf_sa hb (decide_eq_false (by grind))
            have h := ih (i + 1) (by omega) (by omega)
            rw [e] at h
            exact h
          · refine ww_run 20 2 (pc' := 37) (lv' := [(0, .ref 0), (1, .int (nI b)), (2, .int (nI i))]) (st' := [.int (nI i)]) (w' := wMv wi ki mo ho cd sr stk names till sitter on was sat stood rose turn (nI P) ch ru lent J K) (Ps := []) rfl trivial ?_
            refine ww_run 23 3 (pc' := 4) (lv' := [(2, .int ((nI i) + 1)), (1, .int (nI i)), (0, .ref 0)]) (st' := []) (w' := wMv wi ki mo ho cd sr stk names till sitter on was sat stood rose turn (nI P) ch ru lent J K) (Ps := []) rfl trivial ?_
            rw [nI_1 i]
            refine ww_lv [2, 1, 0] (lv' := [(0, .ref 0), (1, .int (nI i)), (2, .int (nI (i + 1)))]) rfl ?_
            have e : bestOf (fun _ => true) (fun p b => decide (stood b < stood p)) (i + 1) = some i := bestOf_st hb rfl (decide_eq_true (by grind))
            have h := ih (i + 1) (by omega) (by omega)
            rw [e] at h
            exact h
set_option maxHeartbeats 4000000 in
set_option maxRecDepth 100000 in
theorem c_X7_longest (wi ki mo ho cd sr stk names till sitter on was sat stood rose turn : Nat → Int32) (ch ru lent : Int32) (J : Nat → Int32) (K : Nat → Nat → Int32) (P : Nat) (hP : P ≤ 5) : Co M_X7_longest 0 0 0 [.ref 0] (wMv wi ki mo ho cd sr stk names till sitter on was sat stood rose turn (nI P) ch ru lent J K) (Qi (o2i (bestOf (fun _ => true) (fun p b => decide (stood b < stood p)) P)) (wMv wi ki mo ho cd sr stk names till sitter on was sat stood rose turn (nI P) ch ru lent J K)) := by
  refine Co.of ok_X7_longest rfl ?_
  refine ww_run 0 4 (pc' := 4) (lv' := [(2, .int 0), (1, .int (-1)), (0, .ref 0)]) (st' := []) (w' := wMv wi ki mo ho cd sr stk names till sitter on was sat stood rose turn (nI P) ch ru lent J K) (Ps := []) rfl trivial ?_
  refine ww_lv [2, 1, 0] (lv' := [(0, .ref 0), (1, .int (-1)), (2, .int 0)]) rfl ?_
  refine l_X7_longest_4 (by omega) wi ki mo ho cd sr stk names till sitter on was sat stood rose turn ch ru lent J K P hP ?_ (P + 1) 0 (by omega) (by omega)
  refine ww_run 26 1 (pc' := 45) (lv' := [(0, .ref 0), (1, .int (o2i (bestOf (fun _ => true) (fun p b => decide (stood b < stood p)) P))), (2, .int (nI P))]) (st' := [.int (o2i (bestOf (fun _ => true) (fun p b => decide (stood b < stood p)) P))]) (w' := wMv wi ki mo ho cd sr stk names till sitter on was sat stood rose turn (nI P) ch ru lent J K) (Ps := []) rfl trivial ?_
  refine ww_iret 27 rfl rfl ?_
  exact ⟨rfl, rfl⟩
set_option maxHeartbeats 4000000 in
set_option maxRecDepth 100000 in
theorem l_X7_warmIn_4 {Q : Option Value → List va_E → Prop} {d : Nat} (hd : 4 ≤ d) (wi ki mo ho cd sr stk names till sitter on was sat stood rose turn : Nat → Int32) (pe ru lent : Int32) (J : Nat → Int32) (K : Nat → Nat → Int32) (m : Int32) (C : Nat) (hC : C ≤ 6) (KK : WW M_X7_warmIn d Q xz 37 [(0, .ref 0), (1, .int m), (2, .int (setOf (fun c => decide (mWarm C ki till sitter c m)) C)), (3, .int (nI C))] [] (wMv wi ki mo ho cd sr stk names till sitter on was sat stood rose turn pe (nI C) ru lent J K)) :
    ∀ (n i : Nat) , i ≤ C → C + 1 ≤ i + n → WW M_X7_warmIn d Q xz 4 [(0, .ref 0), (1, .int m), (2, .int (setOf (fun c => decide (mWarm C ki till sitter c m)) i)), (3, .int (nI i))] [] (wMv wi ki mo ho cd sr stk names till sitter on was sat stood rose turn pe (nI C) ru lent J K) := by
  intro n
  induction n with
  | zero => intro i; intros; omega
  | succ n ih =>
    intro i hi hn
    refine ww_run 4 3 (pc' := 9) (lv' := [(0, .ref 0), (1, .int m), (2, .int (setOf (fun c => decide (mWarm C ki till sitter c m)) i)), (3, .int (nI i))]) (st' := [.int (nI C), .int (nI i)]) (w' := wMv wi ki mo ho cd sr stk names till sitter on was sat stood rose turn pe (nI C) ru lent J K) (Ps := []) rfl trivial ?_
    refine ww_icmp_ge 7 rfl (tgt := 37) rfl (fun c1 => ?_) (fun c1 => ?_)
    · have c1 : C ≤ i := (nI_leI (a := C) (b := i) (by omega) (by omega)).mp c1
      obtain rfl : i = C := by omega
      exact KK
    · have c1 : ¬ C ≤ i := fun q => c1 ((nI_leI (a := C) (b := i) (by omega) (by omega)).mpr q)
      refine ww_run 8 4 (pc' := 16) (lv' := [(0, .ref 0), (1, .int m), (2, .int (setOf (fun c => decide (mWarm C ki till sitter c m)) i)), (3, .int (nI i))]) (st' := [.int m, .int (nI i), .ref 0, .int (setOf (fun c => decide (mWarm C ki till sitter c m)) i)]) (w' := wMv wi ki mo ho cd sr stk names till sitter on was sat stood rose turn pe (nI C) ru lent J K) (Ps := []) rfl trivial ?_
      refine ww_cVi 12 ok_X7_isWarm (c_X7_isWarm wi ki mo ho cd sr stk names till sitter on was sat stood rose turn pe ru lent J K i m C hC (by omega)) lk_X7_211 rfl (by omega) (rest := [.int (setOf (fun c => decide (mWarm C ki till sitter c m)) i)]) rfl (Nat.le_of_ble_eq_true rfl) rfl rfl rfl rfl ?_
      refine ww_if_eq 13 rfl (tgt := 28) rfl (fun c2 => ?_) (fun c2 => ?_)
      · rw [b2i_eq0] at c2
        refine ww_run 18 5 (pc' := 4) (lv' := [(3, .int ((nI i) + 1)), (2, .int ((setOf (fun c => decide (mWarm C ki till sitter c m)) i) ||| 0)), (0, .ref 0), (1, .int m)]) (st' := []) (w' := wMv wi ki mo ho cd sr stk names till sitter on was sat stood rose turn pe (nI C) ru lent J K) (Ps := []) rfl trivial ?_
        rw [nI_1 i]
        refine ww_lv [2, 3, 1, 0] (lv' := [(0, .ref 0), (1, .int m), (2, .int ((setOf (fun c => decide (mWarm C ki till sitter c m)) i) ||| 0)), (3, .int (nI (i + 1)))]) rfl ?_
        have e : setOf (fun c => decide (mWarm C ki till sitter c m)) (i + 1) = (setOf (fun c => decide (mWarm C ki till sitter c m)) i) ||| 0 := by simp only [setOf]; simp [*]
        have h := ih (i + 1) (by omega) (by omega)
        rw [e] at h
        exact h
      · rw [b2i_ne0] at c2
        refine ww_run 14 4 (pc' := 29) (lv' := [(0, .ref 0), (1, .int m), (2, .int (setOf (fun c => decide (mWarm C ki till sitter c m)) i)), (3, .int (nI i))]) (st' := [.int (1 <<< ((nI i) &&& 31)), .int (setOf (fun c => decide (mWarm C ki till sitter c m)) i)]) (w' := wMv wi ki mo ho cd sr stk names till sitter on was sat stood rose turn pe (nI C) ru lent J K) (Ps := []) rfl trivial ?_
        refine ww_run 19 4 (pc' := 4) (lv' := [(3, .int ((nI i) + 1)), (2, .int ((setOf (fun c => decide (mWarm C ki till sitter c m)) i) ||| (1 <<< ((nI i) &&& 31)))), (0, .ref 0), (1, .int m)]) (st' := []) (w' := wMv wi ki mo ho cd sr stk names till sitter on was sat stood rose turn pe (nI C) ru lent J K) (Ps := []) rfl trivial ?_
        rw [nI_1 i]
        refine ww_lv [2, 3, 1, 0] (lv' := [(0, .ref 0), (1, .int m), (2, .int ((setOf (fun c => decide (mWarm C ki till sitter c m)) i) ||| (1 <<< ((nI i) &&& 31)))), (3, .int (nI (i + 1)))]) rfl ?_
        have e : setOf (fun c => decide (mWarm C ki till sitter c m)) (i + 1) = (setOf (fun c => decide (mWarm C ki till sitter c m)) i) ||| (1 <<< ((nI i) &&& 31)) := by simp only [setOf]; simp [*]
        have h := ih (i + 1) (by omega) (by omega)
        rw [e] at h
        exact h
set_option maxHeartbeats 4000000 in
set_option maxRecDepth 100000 in
theorem c_X7_warmIn (wi ki mo ho cd sr stk names till sitter on was sat stood rose turn : Nat → Int32) (pe ru lent : Int32) (J : Nat → Int32) (K : Nat → Nat → Int32) (m : Int32) (C : Nat) (hC : C ≤ 6) : Co M_X7_warmIn 4 0 0 [.ref 0, .int m] (wMv wi ki mo ho cd sr stk names till sitter on was sat stood rose turn pe (nI C) ru lent J K) (Qi (setOf (fun c => decide (mWarm C ki till sitter c m)) C) (wMv wi ki mo ho cd sr stk names till sitter on was sat stood rose turn pe (nI C) ru lent J K)) := by
  refine Co.of ok_X7_warmIn rfl ?_
  refine ww_run 0 4 (pc' := 4) (lv' := [(3, .int 0), (2, .int 0), (0, .ref 0), (1, .int m)]) (st' := []) (w' := wMv wi ki mo ho cd sr stk names till sitter on was sat stood rose turn pe (nI C) ru lent J K) (Ps := []) rfl trivial ?_
  refine ww_lv [2, 3, 1, 0] (lv' := [(0, .ref 0), (1, .int m), (2, .int 0), (3, .int 0)]) rfl ?_
  refine l_X7_warmIn_4 (by omega) wi ki mo ho cd sr stk names till sitter on was sat stood rose turn pe ru lent J K m C hC ?_ (C + 1) 0 (by omega) (by omega)
  refine ww_run 23 1 (pc' := 38) (lv' := [(0, .ref 0), (1, .int m), (2, .int (setOf (fun c => decide (mWarm C ki till sitter c m)) C)), (3, .int (nI C))]) (st' := [.int (setOf (fun c => decide (mWarm C ki till sitter c m)) C)]) (w' := wMv wi ki mo ho cd sr stk names till sitter on was sat stood rose turn pe (nI C) ru lent J K) (Ps := []) rfl trivial ?_
  refine ww_iret 24 rfl rfl ?_
  exact ⟨rfl, rfl⟩
set_option maxHeartbeats 4000000 in
set_option maxRecDepth 100000 in
theorem l_X7_satOn_4 {Q : Option Value → List va_E → Prop} {d : Nat} (hd : 0 ≤ d) (wi ki mo ho cd sr stk names till sitter on was sat stood rose turn : Nat → Int32) (pe ru lent : Int32) (J : Nat → Int32) (K : Nat → Nat → Int32) (C : Nat) (hC : C ≤ 6) (KK : WW M_X7_satOn d Q xz 38 [(0, .ref 0), (1, .int (setOf (fun c => decide (¬ sitter c = -1)) C)), (2, .int (nI C))] [] (wMv wi ki mo ho cd sr stk names till sitter on was sat stood rose turn pe (nI C) ru lent J K)) :
    ∀ (n i : Nat) , i ≤ C → C + 1 ≤ i + n → WW M_X7_satOn d Q xz 4 [(0, .ref 0), (1, .int (setOf (fun c => decide (¬ sitter c = -1)) i)), (2, .int (nI i))] [] (wMv wi ki mo ho cd sr stk names till sitter on was sat stood rose turn pe (nI C) ru lent J K) := by
  intro n
  induction n with
  | zero => intro i; intros; omega
  | succ n ih =>
    intro i hi hn
    refine ww_run 4 3 (pc' := 9) (lv' := [(0, .ref 0), (1, .int (setOf (fun c => decide (¬ sitter c = -1)) i)), (2, .int (nI i))]) (st' := [.int (nI C), .int (nI i)]) (w' := wMv wi ki mo ho cd sr stk names till sitter on was sat stood rose turn pe (nI C) ru lent J K) (Ps := []) rfl trivial ?_
    refine ww_icmp_ge 7 rfl (tgt := 38) rfl (fun c1 => ?_) (fun c1 => ?_)
    · have c1 : C ≤ i := (nI_leI (a := C) (b := i) (by omega) (by omega)).mp c1
      obtain rfl : i = C := by omega
      exact KK
    · have c1 : ¬ C ≤ i := fun q => c1 ((nI_leI (a := C) (b := i) (by omega) (by omega)).mpr q)
      refine ww_run 8 6 (pc' := 20) (lv' := [(0, .ref 0), (1, .int (setOf (fun c => decide (¬ sitter c = -1)) i)), (2, .int (nI i))]) (st' := [.int (-1), .int (sitter (nI i).toNatClampNeg), .int (setOf (fun c => decide (¬ sitter c = -1)) i)]) (w' := wMv wi ki mo ho cd sr stk names till sitter on was sat stood rose turn pe (nI C) ru lent J K) (Ps := [vp_in (nI i) 6]) rfl ⟨(vp_in_nI (by omega) (by omega)), trivial⟩ ?_
      rw [nI_clamp (n := i) (by omega)]
      refine ww_icmp_eq 14 rfl (tgt := 29) rfl (fun c2 => ?_) (fun c2 => ?_)
      · refine ww_run 19 5 (pc' := 4) (lv' := [(2, .int ((nI i) + 1)), (1, .int ((setOf (fun c => decide (¬ sitter c = -1)) i) ||| 0)), (0, .ref 0)]) (st' := []) (w' := wMv wi ki mo ho cd sr stk names till sitter on was sat stood rose turn pe (nI C) ru lent J K) (Ps := []) rfl trivial ?_
        rw [nI_1 i]
        refine ww_lv [2, 1, 0] (lv' := [(0, .ref 0), (1, .int ((setOf (fun c => decide (¬ sitter c = -1)) i) ||| 0)), (2, .int (nI (i + 1)))]) rfl ?_
        have e : setOf (fun c => decide (¬ sitter c = -1)) (i + 1) = (setOf (fun c => decide (¬ sitter c = -1)) i) ||| 0 := by simp only [setOf]; simp [*]
        have h := ih (i + 1) (by omega) (by omega)
        rw [e] at h
        exact h
      · refine ww_run 15 4 (pc' := 30) (lv' := [(0, .ref 0), (1, .int (setOf (fun c => decide (¬ sitter c = -1)) i)), (2, .int (nI i))]) (st' := [.int (1 <<< ((nI i) &&& 31)), .int (setOf (fun c => decide (¬ sitter c = -1)) i)]) (w' := wMv wi ki mo ho cd sr stk names till sitter on was sat stood rose turn pe (nI C) ru lent J K) (Ps := []) rfl trivial ?_
        refine ww_run 20 4 (pc' := 4) (lv' := [(2, .int ((nI i) + 1)), (1, .int ((setOf (fun c => decide (¬ sitter c = -1)) i) ||| (1 <<< ((nI i) &&& 31)))), (0, .ref 0)]) (st' := []) (w' := wMv wi ki mo ho cd sr stk names till sitter on was sat stood rose turn pe (nI C) ru lent J K) (Ps := []) rfl trivial ?_
        rw [nI_1 i]
        refine ww_lv [2, 1, 0] (lv' := [(0, .ref 0), (1, .int ((setOf (fun c => decide (¬ sitter c = -1)) i) ||| (1 <<< ((nI i) &&& 31)))), (2, .int (nI (i + 1)))]) rfl ?_
        have e : setOf (fun c => decide (¬ sitter c = -1)) (i + 1) = (setOf (fun c => decide (¬ sitter c = -1)) i) ||| (1 <<< ((nI i) &&& 31)) := by simp only [setOf]; simp [*]
        have h := ih (i + 1) (by omega) (by omega)
        rw [e] at h
        exact h
set_option maxHeartbeats 4000000 in
set_option maxRecDepth 100000 in
theorem c_X7_satOn (wi ki mo ho cd sr stk names till sitter on was sat stood rose turn : Nat → Int32) (pe ru lent : Int32) (J : Nat → Int32) (K : Nat → Nat → Int32) (C : Nat) (hC : C ≤ 6) : Co M_X7_satOn 0 0 0 [.ref 0] (wMv wi ki mo ho cd sr stk names till sitter on was sat stood rose turn pe (nI C) ru lent J K) (Qi (setOf (fun c => decide (¬ sitter c = -1)) C) (wMv wi ki mo ho cd sr stk names till sitter on was sat stood rose turn pe (nI C) ru lent J K)) := by
  refine Co.of ok_X7_satOn rfl ?_
  refine ww_run 0 4 (pc' := 4) (lv' := [(2, .int 0), (1, .int 0), (0, .ref 0)]) (st' := []) (w' := wMv wi ki mo ho cd sr stk names till sitter on was sat stood rose turn pe (nI C) ru lent J K) (Ps := []) rfl trivial ?_
  refine ww_lv [2, 1, 0] (lv' := [(0, .ref 0), (1, .int 0), (2, .int 0)]) rfl ?_
  refine l_X7_satOn_4 (by omega) wi ki mo ho cd sr stk names till sitter on was sat stood rose turn pe ru lent J K C hC ?_ (C + 1) 0 (by omega) (by omega)
  refine ww_run 24 1 (pc' := 39) (lv' := [(0, .ref 0), (1, .int (setOf (fun c => decide (¬ sitter c = -1)) C)), (2, .int (nI C))]) (st' := [.int (setOf (fun c => decide (¬ sitter c = -1)) C)]) (w' := wMv wi ki mo ho cd sr stk names till sitter on was sat stood rose turn pe (nI C) ru lent J K) (Ps := []) rfl trivial ?_
  refine ww_iret 25 rfl rfl ?_
  exact ⟨rfl, rfl⟩
set_option maxHeartbeats 4000000 in
set_option maxRecDepth 100000 in
theorem c_X7_isMany  (x : Int32) : Co M_X7_isMany 1 0 0 [.int x] (wZero ) (Qi (b2i (mIn x 0 30)) wZero ) := by
  refine Co.of ok_X7_isMany rfl ?_
  refine ww_run 0 3 (pc' := 4) (lv' := [(0, .int x)]) (st' := [.int 30, .int 0, .int x]) (w' := wZero ) (Ps := []) rfl trivial ?_
  refine ww_cSi 3 ok_X7_in (Co.fr0 (c_X7_in x 0 30) rfl) lk_X7_108 rfl (by omega) (rest := []) rfl (Nat.le_of_ble_eq_true rfl) rfl ?_
  refine ww_zret 4 rfl rfl (b2i_nar _) ?_
  exact ⟨rfl, rfl⟩
def risenOf (w : Int32) : Int32 := (w + 999) / 1000
def stoodOf (w : Int32) : Int32 := 1000 * risenOf w - w
def told3 (what which w : Int32) : Int32 := if what = 0 then which else if what = 1 then risenOf w else stoodOf w
set_option maxHeartbeats 4000000 in
set_option maxRecDepth 100000 in
theorem c_X7_risenOf  (x : Int32) : Co M_X7_risenOf 0 0 0 [.int x] (wZero ) (Qi (risenOf x) wZero ) := by
  refine Co.of ok_X7_risenOf rfl ?_
  refine ww_run 0 5 (pc' := 9) (lv' := [(0, .int x)]) (st' := [.int ((x + 999) / 1000)]) (w' := wZero ) (Ps := [¬ 1000 = 0]) rfl ⟨(by decide), trivial⟩ ?_
  refine ww_iret 5 rfl rfl ?_
  exact ⟨rfl, rfl⟩
set_option maxHeartbeats 4000000 in
set_option maxRecDepth 100000 in
theorem c_X7_stoodOf  (x : Int32) : Co M_X7_stoodOf 1 0 0 [.int x] (wZero ) (Qi (stoodOf x) wZero ) := by
  refine Co.of ok_X7_stoodOf rfl ?_
  refine ww_run 0 2 (pc' := 4) (lv' := [(0, .int x)]) (st' := [.int x, .int 1000]) (w' := wZero ) (Ps := []) rfl trivial ?_
  refine ww_cSi 2 ok_X7_risenOf (Co.fr0 (c_X7_risenOf x) rfl) lk_X7_259 rfl (by omega) (rest := [.int 1000]) rfl (Nat.le_of_ble_eq_true rfl) rfl ?_
  refine ww_run 3 3 (pc' := 10) (lv' := [(0, .int x)]) (st' := [.int ((1000 * (risenOf x)) - x)]) (w' := wZero ) (Ps := []) rfl trivial ?_
  refine ww_iret 6 rfl rfl ?_
  exact ⟨rfl, rfl⟩
