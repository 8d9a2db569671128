theorem vp_m4 {x : Int32} (h : mIn x 0 3) : vp_in x 4 := by
  rw [vp_in_iff]
  have h0 := Int32.le_iff_toInt_le.mp h.1
  have h1 := Int32.le_iff_toInt_le.mp h.2
  have e0 : (0 : Int32).toInt = 0 := rfl
  have e3 : (3 : Int32).toInt = 3 := rfl
  omega
theorem s4_nI {x : Int32} (h : mIn x 0 3) : ∃ s : Nat, s < 4 ∧ x = nI s := by
  obtain ⟨j, hj, e⟩ := vp_in_of (vp_m4 h) (by omega)
  exact ⟨j, hj, e⟩
/-- why a told evening is refused; 0: it isn't -/
def swM (so sz : Nat → Int32) (P : Nat) (s n : Int32) : Int32 := if mIn s 0 3 then (if so s.toNatClampNeg = -1 then -11 else if sz s.toNatClampNeg = nI P then (if mIn n 0 30 then 0 else -7) else -2) else -2
theorem swM_0 {so sz : Nat → Int32} {P : Nat} {s n : Int32} (h : swM so sz P s n = 0) : mIn s 0 3 ∧ mIn n 0 30 := by
  unfold swM at h
  split at h
  · next h1 =>
    split at h
    · exact absurd h (by decide)
    · split at h
      · split at h
        · next h2 => exact ⟨h1, h2⟩
        · exact absurd h (by decide)
      · exact absurd h (by decide)
  · exact absurd h (by decide)
/-- what a told evening says of one -/
def toldS (s : ES) (fr : Nat → Int32) (m : Int32) (p : Nat) : Int32 := if 0 ≤ s.2.2.2.2.1 p then 3 else if 0 ≤ s.1 p then 2 else if fr p < m then 1 else 0
theorem firstT_stay {ok : Nat → Bool} {i : Nat} (h0 : firstT ok i = -1) (h1 : ok i = true) : ∀ {n : Nat}, i < n → n < 1000 → firstT ok n = nI i
  | 0, h, _ => by omega
  | n + 1, h, hn => by
    simp only [firstT]
    by_cases e : i = n
    · subst e
      rw [if_pos h0, if_pos h1]
    · rw [firstT_stay h0 h1 (n := n) (by omega) (by omega), if_neg (nI_ne_m1 (by omega))]
theorem firstT_no {ok : Nat → Bool} {i : Nat} (h0 : firstT ok i = -1) (h1 : ok i = false) : firstT ok (i + 1) = -1 := by
  simp only [firstT]
  rw [if_pos h0, h1]
  rfl
theorem firstT_congr {f g : Nat → Bool} : ∀ {n : Nat}, (∀ q, q < n → f q = g q) → firstT f n = firstT g n
  | 0, _ => rfl
  | n + 1, h => by
    simp only [firstT]
    rw [firstT_congr (fun q hq => h q (by omega)), h n (by omega)]
def orL (ok : Nat → Bool) : Nat → Int64
  | 0 => 0
  | n + 1 => if ok n then orL ok n ||| ((1 : Int64) <<< ((nI n).toInt64 &&& 63)) else orL ok n
theorem or0_64 (x : Int64) : x ||| 0 = x := by simp
theorem or0_32 (x : Int32) : x ||| 0 = x := by simp
set_option maxHeartbeats 4000000 in
set_option maxRecDepth 100000 in
theorem c_X7_sheetWrong (wi ki mo ho cd sr stk names till sitter on was sat stood rose turn : Nat → Int32) (ch ru lent : Int32) (J : Nat → Int32) (K : Nat → Nat → Int32) (ss nn : Int32) (P : Nat) : Co M_X7_sheetWrong 3 0 0 [.ref 0, .int ss, .int nn] (wMv wi ki mo ho cd sr stk names till sitter on was sat stood rose turn (nI P) ch ru lent J K) (Qi (swM (K 19) (K 20) P ss nn) (wMv wi ki mo ho cd sr stk names till sitter on was sat stood rose turn (nI P) ch ru lent J K)) := by
  refine Co.of ok_X7_sheetWrong rfl ?_
  refine ww_run 0 3 (pc' := 3) (lv' := [(0, .ref 0), (1, .int ss), (2, .int nn)]) (st' := [.int 3, .int 0, .int ss]) (w' := wMv wi ki mo ho cd sr stk names till sitter on was sat stood rose turn (nI P) ch ru lent J K) (Ps := []) rfl trivial ?_
  refine ww_cSi 3 ok_X7_in (Co.fr0 (c_X7_in ss 0 3) rfl) lk_X7_108 rfl (by omega) (rest := []) rfl (Nat.le_of_ble_eq_true rfl) rfl ?_
  refine ww_if_ne 4 rfl (tgt := 12) rfl (fun c1 => ?_) (fun c1 => ?_)
  · rw [b2i_ne0] at c1
    refine ww_run 7 5 (pc' := 19) (lv' := [(0, .ref 0), (1, .int ss), (2, .int nn)]) (st' := [.int (-1), .int ((K 19) ss.toNatClampNeg)]) (w' := wMv wi ki mo ho cd sr stk names till sitter on was sat stood rose turn (nI P) ch ru lent J K) (Ps := [vp_in ss 4]) rfl ⟨(vp_m4 (by assumption)), trivial⟩ ?_
    refine ww_icmp_ne 12 rfl (tgt := 25) rfl (fun c2 => ?_) (fun c2 => ?_)
    · refine ww_run 15 6 (pc' := 35) (lv' := [(0, .ref 0), (1, .int ss), (2, .int nn)]) (st' := [.int (nI P), .int ((K 20) ss.toNatClampNeg)]) (w' := wMv wi ki mo ho cd sr stk names till sitter on was sat stood rose turn (nI P) ch ru lent J K) (Ps := [vp_in ss 4]) rfl ⟨(vp_m4 (by assumption)), trivial⟩ ?_
      refine ww_icmp_eq 21 rfl (tgt := 43) rfl (fun c3 => ?_) (fun c3 => ?_)
      · refine ww_run 24 1 (pc' := 44) (lv' := [(0, .ref 0), (1, .int ss), (2, .int nn)]) (st' := [.int nn]) (w' := wMv wi ki mo ho cd sr stk names till sitter on was sat stood rose turn (nI P) ch ru lent J K) (Ps := []) rfl trivial ?_
        refine ww_cSi 25 ok_X7_isMany (Co.fr0 (c_X7_isMany nn) rfl) lk_X7_235 rfl (by omega) (rest := []) rfl (Nat.le_of_ble_eq_true rfl) rfl ?_
        refine ww_if_eq 26 rfl (tgt := 54) rfl (fun c4 => ?_) (fun c4 => ?_)
        · rw [b2i_eq0] at c4
          refine ww_run 29 1 (pc' := 56) (lv' := [(0, .ref 0), (1, .int ss), (2, .int nn)]) (st' := [.int (-7)]) (w' := wMv wi ki mo ho cd sr stk names till sitter on was sat stood rose turn (nI P) ch ru lent J K) (Ps := []) rfl trivial ?_
          refine ww_iret 30 rfl rfl ?_
          exact ⟨by unfold swM; rw [if_pos c1, if_neg c2, if_pos c3, if_neg c4], rfl⟩
        · rw [b2i_ne0] at c4
          refine ww_run 27 2 (pc' := 56) (lv' := [(0, .ref 0), (1, .int ss), (2, .int nn)]) (st' := [.int 0]) (w' := wMv wi ki mo ho cd sr stk names till sitter on was sat stood rose turn (nI P) ch ru lent J K) (Ps := []) rfl trivial ?_
          refine ww_iret 30 rfl rfl ?_
          exact ⟨by unfold swM; rw [if_pos c1, if_neg c2, if_pos c3, if_pos c4], rfl⟩
      · refine ww_run 22 2 (pc' := 56) (lv' := [(0, .ref 0), (1, .int ss), (2, .int nn)]) (st' := [.int (-2)]) (w' := wMv wi ki mo ho cd sr stk names till sitter on was sat stood rose turn (nI P) ch ru lent J K) (Ps := []) rfl trivial ?_
        refine ww_iret 30 rfl rfl ?_
        exact ⟨by unfold swM; rw [if_pos c1, if_neg c2, if_neg c3], rfl⟩
    · refine ww_run 13 1 (pc' := 24) (lv' := [(0, .ref 0), (1, .int ss), (2, .int nn)]) (st' := [.int (-11)]) (w' := wMv wi ki mo ho cd sr stk names till sitter on was sat stood rose turn (nI P) ch ru lent J K) (Ps := []) rfl trivial ?_
      refine ww_iret 14 rfl rfl ?_
      exact ⟨by unfold swM; rw [if_pos c1, if_pos c2], rfl⟩
  · rw [b2i_eq0] at c1
    refine ww_run 5 1 (pc' := 11) (lv' := [(0, .ref 0), (1, .int ss), (2, .int nn)]) (st' := [.int (-2)]) (w' := wMv wi ki mo ho cd sr stk names till sitter on was sat stood rose turn (nI P) ch ru lent J K) (Ps := []) rfl trivial ?_
    refine ww_iret 6 rfl rfl ?_
    exact ⟨by unfold swM; rw [if_neg c1], rfl⟩
set_option maxHeartbeats 4000000 in
set_option maxRecDepth 100000 in
theorem c_X7_looksOf (ki mo ho cd sr stk names till sitter on was sat stood rose turn : Nat → Int32) (pe ch ru lent : Int32) (J : Nat → Int32) (K : Nat → Nat → Int32) (fr lo fa : Nat → Int32) (p : Nat) (m : Int32) (hp : p < 5) : Co M_X7_looksOf 0 0 0 [.ref 0, .int (nI p), .int m] (wMv (wiF fr lo fa) ki mo ho cd sr stk names till sitter on was sat stood rose turn pe ch ru lent J K) (Qi (if ¬ rose p = -1 then 3 else if ¬ on p = -1 then 2 else if fr p < m then 1 else 0) (wMv (wiF fr lo fa) ki mo ho cd sr stk names till sitter on was sat stood rose turn pe ch ru lent J K)) := by
  refine Co.of ok_X7_looksOf rfl ?_
  refine ww_run 0 5 (pc' := 7) (lv' := [(0, .ref 0), (1, .int (nI p)), (2, .int m)]) (st' := [.int (-1), .int (rose (nI p).toNatClampNeg)]) (w' := wMv (wiF fr lo fa) ki mo ho cd sr stk names till sitter on was sat stood rose turn pe ch ru lent J K) (Ps := [vp_in (nI p) 5]) rfl ⟨(vp_in_nI (by omega) (by omega)), trivial⟩ ?_
  rw [nI_clamp (n := p) (by omega)]
  refine ww_icmp_eq 5 rfl (tgt := 14) rfl (fun c1 => ?_) (fun c1 => ?_)
  · refine ww_run 8 5 (pc' := 21) (lv' := [(0, .ref 0), (1, .int (nI p)), (2, .int m)]) (st' := [.int (-1), .int (on (nI p).toNatClampNeg)]) (w' := wMv (wiF fr lo fa) ki mo ho cd sr stk names till sitter on was sat stood rose turn pe ch ru lent J K) (Ps := [vp_in (nI p) 5]) rfl ⟨(vp_in_nI (by omega) (by omega)), trivial⟩ ?_
    rw [nI_clamp (n := p) (by omega)]
    refine ww_icmp_eq 13 rfl (tgt := 28) rfl (fun c2 => ?_) (fun c2 => ?_)
    · refine ww_run 16 7 (pc' := 37) (lv' := [(0, .ref 0), (1, .int (nI p)), (2, .int m)]) (st' := [.int m, .int ((wiF fr lo fa) (3 * (nI p)).toNatClampNeg)]) (w' := wMv (wiF fr lo fa) ki mo ho cd sr stk names till sitter on was sat stood rose turn pe ch ru lent J K) (Ps := [vp_in (3 * (nI p)) 15]) rfl ⟨(by rw [show (3 : Int32) * nI p = nI (3 * p) from pk_mul 3 p]; exact vp_in_nI (by omega) (by omega)), trivial⟩ ?_
      rw [show (3 : Int32) * nI p = nI (3 * p) from pk_mul 3 p]
      rw [nI_clamp (n := (3 * p)) (by omega)]
      rw [wi0]
      refine ww_icmp_ge 23 rfl (tgt := 44) rfl (fun c3 => ?_) (fun c3 => ?_)
      · refine ww_run 26 1 (pc' := 45) (lv' := [(0, .ref 0), (1, .int (nI p)), (2, .int m)]) (st' := [.int 0]) (w' := wMv (wiF fr lo fa) ki mo ho cd sr stk names till sitter on was sat stood rose turn pe ch ru lent J K) (Ps := []) rfl trivial ?_
        refine ww_iret 27 rfl rfl ?_
        exact ⟨by rw [if_neg (fun q => q c1), if_neg (fun q => q c2), if_neg (Int32.not_lt.mpr c3)], rfl⟩
      · refine ww_run 24 2 (pc' := 45) (lv' := [(0, .ref 0), (1, .int (nI p)), (2, .int m)]) (st' := [.int 1]) (w' := wMv (wiF fr lo fa) ki mo ho cd sr stk names till sitter on was sat stood rose turn pe ch ru lent J K) (Ps := []) rfl trivial ?_
        refine ww_iret 27 rfl rfl ?_
        exact ⟨by rw [if_neg (fun q => q c1), if_neg (fun q => q c2), if_pos (Int32.not_le.mp c3)], rfl⟩
    · refine ww_run 14 2 (pc' := 45) (lv' := [(0, .ref 0), (1, .int (nI p)), (2, .int m)]) (st' := [.int 2]) (w' := wMv (wiF fr lo fa) ki mo ho cd sr stk names till sitter on was sat stood rose turn pe ch ru lent J K) (Ps := []) rfl trivial ?_
      refine ww_iret 27 rfl rfl ?_
      exact ⟨by rw [if_neg (fun q => q c1), if_pos c2], rfl⟩
  · refine ww_run 6 2 (pc' := 45) (lv' := [(0, .ref 0), (1, .int (nI p)), (2, .int m)]) (st' := [.int 3]) (w' := wMv (wiF fr lo fa) ki mo ho cd sr stk names till sitter on was sat stood rose turn pe ch ru lent J K) (Ps := []) rfl trivial ?_
    refine ww_iret 27 rfl rfl ?_
    exact ⟨by rw [if_pos c1], rfl⟩
theorem ob_told {P C : Nat} {s : ES} {x : MS} {fr : Nat → Int32} {m : Int32} {p : Nat} (hC : C ≤ 6) (hp : p < P) (hR : REL P C s x) (hI : INV P C s) : (if ¬ x.2.2.2.2.1 p = -1 then (3 : Int32) else if ¬ x.1 p = -1 then 2 else if fr p < m then 1 else 0) = toldS s fr m p := by
  obtain ⟨a1, -, -, -, a5⟩ := hR.1 p hp
  unfold toldS
  rw [← a1, ← a5]
  have h1 : 0 ≤ s.2.2.2.2.1 p ↔ ¬ s.2.2.2.2.1 p = -1 := m1_pos (hI.2.1 p hp)
  have h2 : 0 ≤ s.1 p ↔ ¬ s.1 p = -1 := m1_pos (by
    rcases hI.1 p hp with h | ⟨c, hc, h⟩
    · exact Or.inl h
    · exact Or.inr (by rw [h]; exact nI_pos' (by omega)))
  simp only [h1, h2]
set_option maxHeartbeats 4000000 in
set_option maxRecDepth 100000 in
theorem l_X7_unlike_7 {Q : Option Value → List va_E → Prop} {d : Nat} (hd : 7 ≤ d) (ki mo cd sr : Nat → Int32) (lent : Int32) (J : Nat → Int32) (K : Nat → Nat → Int32) (fr lo fa : Nat → Int32) (sty wset wfor : Int32) (x : MS) (z : Z3) (sy : SY) (T P C k : Nat) (hP : P ≤ 5) (hC : C ≤ 6) (hk : k < T) (hL : ML cd sr T sy) (hmo : MO6 mo) (s N : Nat) (hs : s < 4) (hN : N ≤ 30) (hR1 : REL P C (evS sy P C fr lo fa ki mo k sty wset wfor lent N) x) (hI1 : INV P C (evS sy P C fr lo fa ki mo k sty wset wfor lent N)) (KK : firstT (fun p => decide (¬ (K 21) (40 * s + p) = toldS (evS sy P C fr lo fa ki mo k sty wset wfor lent N) fr (nI N) p)) P = -1 → WW M_X7_unlike d Q xz 43 [(0, .ref 0), (1, .int (nI s)), (2, .int (nI N)), (3, .int (nI P))] [] (wMv (wiF fr lo fa) ki mo (hoF sty wset wfor) cd sr z.2.1 z.1 x.2.2.2.2.2.1 x.2.2.2.2.2.2 x.1 x.2.1 x.2.2.1 x.2.2.2.1 x.2.2.2.2.1 z.2.2 (nI P) (nI C) (nI k) lent J K)) (KR : ∀ i, i < P → firstT (fun p => decide (¬ (K 21) (40 * s + p) = toldS (evS sy P C fr lo fa ki mo k sty wset wfor lent N) fr (nI N) p)) P = nI i → WW M_X7_unlike d Q xz 36 [(0, .ref 0), (1, .int (nI s)), (2, .int (nI N)), (3, .int (nI i))] [.int (nI i)] (wMv (wiF fr lo fa) ki mo (hoF sty wset wfor) cd sr z.2.1 z.1 x.2.2.2.2.2.1 x.2.2.2.2.2.2 x.1 x.2.1 x.2.2.1 x.2.2.2.1 x.2.2.2.2.1 z.2.2 (nI P) (nI C) (nI k) lent J K)) :
    ∀ (n i : Nat) , i ≤ P → P + 1 ≤ i + n → firstT (fun p => decide (¬ (K 21) (40 * s + p) = toldS (evS sy P C fr lo fa ki mo k sty wset wfor lent N) fr (nI N) p)) i = -1 → WW M_X7_unlike d Q xz 7 [(0, .ref 0), (1, .int (nI s)), (2, .int (nI N)), (3, .int (nI i))] [] (wMv (wiF fr lo fa) ki mo (hoF sty wset wfor) cd sr z.2.1 z.1 x.2.2.2.2.2.1 x.2.2.2.2.2.2 x.1 x.2.1 x.2.2.1 x.2.2.2.1 x.2.2.2.2.1 z.2.2 (nI P) (nI C) (nI k) lent J K) := by
  intro n
  induction n with
  | zero => intro i; intros; omega
  | succ n ih =>
    intro i  hi hn hf
    refine ww_run 5 3 (pc' := 12) (lv' := [(0, .ref 0), (1, .int (nI s)), (2, .int (nI N)), (3, .int (nI i))]) (st' := [.int (nI P), .int (nI i)]) (w' := wMv (wiF fr lo fa) ki mo (hoF sty wset wfor) cd sr z.2.1 z.1 x.2.2.2.2.2.1 x.2.2.2.2.2.2 x.1 x.2.1 x.2.2.1 x.2.2.2.1 x.2.2.2.2.1 z.2.2 (nI P) (nI C) (nI k) lent J K) (Ps := []) rfl trivial ?_
    refine ww_icmp_ge 8 rfl (tgt := 43) rfl (fun c1 => ?_) (fun c1 => ?_)
    · have c1 : P ≤ i := (nI_leI (a := P) (b := i) (by omega) (by omega)).mp c1
      obtain rfl : i = P := by omega
      exact KK hf
    · have c1 : ¬ P ≤ i := fun q => c1 ((nI_leI (a := P) (b := i) (by omega) (by omega)).mpr q)
      refine ww_run 9 11 (pc' := 29) (lv' := [(0, .ref 0), (1, .int (nI s)), (2, .int (nI N)), (3, .int (nI i))]) (st' := [.int (nI N), .int (nI i), .ref 0, .int ((K 21) ((40 * (nI s)) + (nI i)).toNatClampNeg)]) (w' := wMv (wiF fr lo fa) ki mo (hoF sty wset wfor) cd sr z.2.1 z.1 x.2.2.2.2.2.1 x.2.2.2.2.2.2 x.1 x.2.1 x.2.2.1 x.2.2.2.1 x.2.2.2.2.1 z.2.2 (nI P) (nI C) (nI k) lent J K) (Ps := [vp_in ((40 * (nI s)) + (nI i)) 160]) rfl ⟨(by rw [show (40 : Int32) * nI s = nI (40 * s) from pk_mul 40 s, nI_add (40 * s) i]; exact vp_in_nI (by omega) (by omega)), trivial⟩ ?_
      rw [show (40 : Int32) * nI s = nI (40 * s) from pk_mul 40 s]
      rw [nI_add (40 * s) i]
      rw [nI_clamp (n := (40 * s + i)) (by omega)]
      refine ww_cVi 20 ok_X7_looksOf (c_X7_looksOf ki mo (hoF sty wset wfor) cd sr z.2.1 z.1 x.2.2.2.2.2.1 x.2.2.2.2.2.2 x.1 x.2.1 x.2.2.1 x.2.2.2.1 x.2.2.2.2.1 z.2.2 (nI P) (nI C) (nI k) lent J K fr lo fa i (nI N) (by omega)) lk_X7_298 rfl (by omega) (rest := [.int ((K 21) (40 * s + i))]) rfl (Nat.le_of_ble_eq_true rfl) rfl rfl rfl rfl ?_
      rw [ob_told (fr := fr) (m := (nI N)) (p := i) hC (by omega) hR1 hI1]
      refine ww_icmp_eq 21 rfl (tgt := 37) rfl (fun c2 => ?_) (fun c2 => ?_)
      · refine ww_run 24 2 (pc' := 7) (lv' := [(3, .int ((nI i) + 1)), (0, .ref 0), (1, .int (nI s)), (2, .int (nI N))]) (st' := []) (w' := wMv (wiF fr lo fa) ki mo (hoF sty wset wfor) cd sr z.2.1 z.1 x.2.2.2.2.2.1 x.2.2.2.2.2.2 x.1 x.2.1 x.2.2.1 x.2.2.2.1 x.2.2.2.2.1 z.2.2 (nI P) (nI C) (nI k) lent J K) (Ps := []) rfl trivial ?_
        rw [nI_1 i]
        refine ww_lv [1, 2, 3, 0] (lv' := [(0, .ref 0), (1, .int (nI s)), (2, .int (nI N)), (3, .int (nI (i + 1)))]) rfl ?_
        exact ih (i + 1) (by omega) (by omega) (firstT_no hf (decide_eq_false (fun q => q c2)))
      · refine ww_run 22 1 (pc' := 36) (lv' := [(0, .ref 0), (1, .int (nI s)), (2, .int (nI N)), (3, .int (nI i))]) (st' := [.int (nI i)]) (w' := wMv (wiF fr lo fa) ki mo (hoF sty wset wfor) cd sr z.2.1 z.1 x.2.2.2.2.2.1 x.2.2.2.2.2.2 x.1 x.2.1 x.2.2.1 x.2.2.2.1 x.2.2.2.2.1 z.2.2 (nI P) (nI C) (nI k) lent J K) (Ps := []) rfl trivial ?_
        exact KR i (by omega) (firstT_stay hf (decide_eq_true c2) (by omega) (by omega))
set_option maxHeartbeats 4000000 in
set_option maxRecDepth 100000 in
theorem m_unlike (ki mo cd sr : Nat → Int32) (lent : Int32) (J : Nat → Int32) (K : Nat → Nat → Int32) (fr lo fa : Nat → Int32) (sty wset wfor : Int32) (x : MS) (z : Z3) (sy : SY) (T P C k : Nat) (hP : P ≤ 5) (hC : C ≤ 6) (hk : k < T) (hL : ML cd sr T sy) (hmo : MO6 mo) (s N : Nat) (hs : s < 4) (hN : N ≤ 30) : Co M_X7_unlike 8 0 0 [.ref 0, .int (nI s), .int (nI N)] (wMv (wiF fr lo fa) ki mo (hoF sty wset wfor) cd sr z.2.1 z.1 x.2.2.2.2.2.1 x.2.2.2.2.2.2 x.1 x.2.1 x.2.2.1 x.2.2.2.1 x.2.2.2.2.1 z.2.2 (nI P) (nI C) (nI k) lent J K) (fun r w' => r = some (.int (firstT (fun p => decide (¬ (K 21) (40 * s + p) = toldS (evS sy P C fr lo fa ki mo k sty wset wfor lent N) fr (nI N) p)) P)) ∧ ∃ (x : MS) (z : Z3), w' = wMv (wiF fr lo fa) ki mo (hoF sty wset wfor) cd sr z.2.1 z.1 x.2.2.2.2.2.1 x.2.2.2.2.2.2 x.1 x.2.1 x.2.2.1 x.2.2.2.1 x.2.2.2.2.1 z.2.2 (nI P) (nI C) (nI k) lent J K) := by
  refine Co.of ok_X7_unlike rfl ?_
  refine ww_run 0 2 (pc' := 2) (lv' := [(0, .ref 0), (1, .int (nI s)), (2, .int (nI N))]) (st' := [.int (nI N), .ref 0]) (w' := wMv (wiF fr lo fa) ki mo (hoF sty wset wfor) cd sr z.2.1 z.1 x.2.2.2.2.2.1 x.2.2.2.2.2.2 x.1 x.2.1 x.2.2.1 x.2.2.2.1 x.2.2.2.2.1 z.2.2 (nI P) (nI C) (nI k) lent J K) (Ps := []) rfl trivial ?_
  refine ww_cV 2 ok_X7_lives (m_lives ki mo cd sr lent J K fr lo fa sty wset wfor x z sy T P C k hP hC hk hL hmo N (by omega)) lk_X7_238 rfl (by omega) (rest := []) rfl (Nat.le_of_ble_eq_true rfl) rfl rfl rfl rfl (fun r w' hq => ?_)
  obtain ⟨rfl, x1, z1, hR1, rfl⟩ := hq
  have hI1 : INV P C (evS sy P C fr lo fa ki mo k sty wset wfor lent N) := evS_inv hL.2.1 hP hC hmo (by omega)
  refine ww_run 3 2 (pc' := 7) (lv' := [(3, .int 0), (0, .ref 0), (1, .int (nI s)), (2, .int (nI N))]) (st' := []) (w' := wMv (wiF fr lo fa) ki mo (hoF sty wset wfor) cd sr z1.2.1 z1.1 x1.2.2.2.2.2.1 x1.2.2.2.2.2.2 x1.1 x1.2.1 x1.2.2.1 x1.2.2.2.1 x1.2.2.2.2.1 z1.2.2 (nI P) (nI C) (nI k) lent J K) (Ps := []) rfl trivial ?_
  refine ww_lv [1, 2, 3, 0] (lv' := [(0, .ref 0), (1, .int (nI s)), (2, .int (nI N)), (3, .int 0)]) rfl ?_
  refine l_X7_unlike_7 (by omega) ki mo cd sr lent J K fr lo fa sty wset wfor x1 z1 sy T P C k hP hC hk hL hmo s N hs hN hR1 hI1 (fun hf => ?_) (fun i hi hf => ?_) (P + 1) 0 (by omega) (by omega) rfl
  · refine ww_run 26 1 (pc' := 44) (lv' := [(0, .ref 0), (1, .int (nI s)), (2, .int (nI N)), (3, .int (nI P))]) (st' := [.int (-1)]) (w' := wMv (wiF fr lo fa) ki mo (hoF sty wset wfor) cd sr z1.2.1 z1.1 x1.2.2.2.2.2.1 x1.2.2.2.2.2.2 x1.1 x1.2.1 x1.2.2.1 x1.2.2.2.1 x1.2.2.2.2.1 z1.2.2 (nI P) (nI C) (nI k) lent J K) (Ps := []) rfl trivial ?_
    refine ww_iret 27 rfl rfl ?_
    exact ⟨by rw [hf], x1, z1, rfl⟩
  · refine ww_iret 23 rfl rfl ?_
    exact ⟨by rw [hf], x1, z1, rfl⟩
set_option maxHeartbeats 4000000 in
set_option maxRecDepth 100000 in
theorem m_judge (ki mo cd sr : Nat → Int32) (lent : Int32) (J : Nat → Int32) (K : Nat → Nat → Int32) (fr lo fa : Nat → Int32) (sty wset wfor : Int32) (x : MS) (z : Z3) (sy : SY) (T P C k : Nat) (hP : P ≤ 5) (hC : C ≤ 6) (hk : k < T) (hL : ML cd sr T sy) (hmo : MO6 mo) (ss nn : Int32) : Co M_X7_judge 9 0 0 [.ref 0, .int ss, .int nn] (wMv (wiF fr lo fa) ki mo (hoF sty wset wfor) cd sr z.2.1 z.1 x.2.2.2.2.2.1 x.2.2.2.2.2.2 x.1 x.2.1 x.2.2.1 x.2.2.2.1 x.2.2.2.2.1 z.2.2 (nI P) (nI C) (nI k) lent J K) (fun r w' => r = some (.int (if swM (K 19) (K 20) P ss nn = 0 then firstT (fun p => decide (¬ (K 21) (40 * ss.toNatClampNeg + p) = toldS (evS sy P C fr lo fa ki mo k sty wset wfor lent nn.toNatClampNeg) fr nn p)) P else swM (K 19) (K 20) P ss nn)) ∧ ∃ (x : MS) (z : Z3), w' = wMv (wiF fr lo fa) ki mo (hoF sty wset wfor) cd sr z.2.1 z.1 x.2.2.2.2.2.1 x.2.2.2.2.2.2 x.1 x.2.1 x.2.2.1 x.2.2.2.1 x.2.2.2.2.1 z.2.2 (nI P) (nI C) (nI k) lent J K) := by
  refine Co.of ok_X7_judge rfl ?_
  refine ww_run 0 3 (pc' := 3) (lv' := [(0, .ref 0), (1, .int ss), (2, .int nn)]) (st' := [.int nn, .int ss, .ref 0]) (w' := wMv (wiF fr lo fa) ki mo (hoF sty wset wfor) cd sr z.2.1 z.1 x.2.2.2.2.2.1 x.2.2.2.2.2.2 x.1 x.2.1 x.2.2.1 x.2.2.2.1 x.2.2.2.2.1 z.2.2 (nI P) (nI C) (nI k) lent J K) (Ps := []) rfl trivial ?_
  refine ww_cVi 3 ok_X7_sheetWrong (c_X7_sheetWrong (wiF fr lo fa) ki mo (hoF sty wset wfor) cd sr z.2.1 z.1 x.2.2.2.2.2.1 x.2.2.2.2.2.2 x.1 x.2.1 x.2.2.1 x.2.2.2.1 x.2.2.2.2.1 z.2.2 (nI C) (nI k) lent J K ss nn P) lk_X7_301 rfl (by omega) (rest := []) rfl (Nat.le_of_ble_eq_true rfl) rfl rfl rfl rfl ?_
  refine ww_run 4 2 (pc' := 8) (lv' := [(3, .int (swM (K 19) (K 20) P ss nn)), (0, .ref 0), (1, .int ss), (2, .int nn)]) (st' := [.int (swM (K 19) (K 20) P ss nn)]) (w' := wMv (wiF fr lo fa) ki mo (hoF sty wset wfor) cd sr z.2.1 z.1 x.2.2.2.2.2.1 x.2.2.2.2.2.2 x.1 x.2.1 x.2.2.1 x.2.2.2.1 x.2.2.2.2.1 z.2.2 (nI P) (nI C) (nI k) lent J K) (Ps := []) rfl trivial ?_
  refine ww_if_ne 6 rfl (tgt := 20) rfl (fun c1 => ?_) (fun c1 => ?_)
  · refine ww_run 12 1 (pc' := 21) (lv' := [(3, .int (swM (K 19) (K 20) P ss nn)), (0, .ref 0), (1, .int ss), (2, .int nn)]) (st' := [.int (swM (K 19) (K 20) P ss nn)]) (w' := wMv (wiF fr lo fa) ki mo (hoF sty wset wfor) cd sr z.2.1 z.1 x.2.2.2.2.2.1 x.2.2.2.2.2.2 x.1 x.2.1 x.2.2.1 x.2.2.2.1 x.2.2.2.2.1 z.2.2 (nI P) (nI C) (nI k) lent J K) (Ps := []) rfl trivial ?_
    refine ww_iret 13 rfl rfl ?_
    exact ⟨by rw [if_neg c1], x, z, rfl⟩
  · obtain ⟨s, hs, rfl⟩ := s4_nI (swM_0 c1).1
    obtain ⟨N, hN, rfl⟩ := many_nI (swM_0 c1).2
    refine ww_run 7 3 (pc' := 14) (lv' := [(3, .int (swM (K 19) (K 20) P (nI s) (nI N))), (0, .ref 0), (1, .int (nI s)), (2, .int (nI N))]) (st' := [.int (nI N), .int (nI s), .ref 0]) (w' := wMv (wiF fr lo fa) ki mo (hoF sty wset wfor) cd sr z.2.1 z.1 x.2.2.2.2.2.1 x.2.2.2.2.2.2 x.1 x.2.1 x.2.2.1 x.2.2.2.1 x.2.2.2.2.1 z.2.2 (nI P) (nI C) (nI k) lent J K) (Ps := []) rfl trivial ?_
    refine ww_cV 10 ok_X7_unlike (m_unlike ki mo cd sr lent J K fr lo fa sty wset wfor x z sy T P C k hP hC hk hL hmo s N (by omega) (by omega)) lk_X7_304 rfl (by omega) (rest := []) rfl (Nat.le_of_ble_eq_true rfl) rfl rfl rfl rfl (fun r w' hq => ?_)
    obtain ⟨rfl, x1, z1, rfl⟩ := hq
    refine ww_run 11 1 (pc' := 21) (lv' := [(3, .int (swM (K 19) (K 20) P (nI s) (nI N))), (0, .ref 0), (1, .int (nI s)), (2, .int (nI N))]) (st' := [.int (firstT (fun p => decide (¬ (K 21) (40 * s + p) = toldS (evS sy P C fr lo fa ki mo k sty wset wfor lent N) fr (nI N) p)) P)]) (w' := wMv (wiF fr lo fa) ki mo (hoF sty wset wfor) cd sr z1.2.1 z1.1 x1.2.2.2.2.2.1 x1.2.2.2.2.2.2 x1.1 x1.2.1 x1.2.2.1 x1.2.2.2.1 x1.2.2.2.2.1 z1.2.2 (nI P) (nI C) (nI k) lent J K) (Ps := []) rfl trivial ?_
    refine ww_iret 13 rfl rfl ?_
    exact ⟨by simp only [nI_clamp (n := N) (by omega), nI_clamp (n := s) (by omega)]; rw [if_pos c1], x1, z1, rfl⟩
set_option maxHeartbeats 4000000 in
set_option maxRecDepth 100000 in
theorem l_X7_were_26 {Q : Option Value → List va_E → Prop} {d : Nat} (hd : 9 ≤ d) (ki mo cd sr : Nat → Int32) (lent : Int32) (J : Nat → Int32) (K : Nat → Nat → Int32) (fr lo fa : Nat → Int32) (sty wset wfor : Int32) (sy : SY) (T P C k : Nat) (hP : P ≤ 5) (hC : C ≤ 6) (hk : k < T) (hL : ML cd sr T sy) (hmo : MO6 mo) (s N : Nat) (hs : s < 4) (hN : N ≤ 30) (KK : ∀ (v : Int32) (x : MS) (z : Z3), WW M_X7_were d Q xz 74 [(0, .ref 0), (1, .int (nI s)), (2, .int (nI N)), (3, .int wset), (4, .long (orL (fun q => decide (firstT (fun p => decide (¬ (K 21) (40 * s + p) = toldS (evS sy P C fr lo fa ki mo k sty (nI q) wfor lent N) fr (nI N) p)) P = -1)) (2 ^ C))), (6, .int (nI (2 ^ C)))] [] (wMv (wiF fr lo fa) ki mo (hoF sty v wfor) cd sr z.2.1 z.1 x.2.2.2.2.2.1 x.2.2.2.2.2.2 x.1 x.2.1 x.2.2.1 x.2.2.2.1 x.2.2.2.2.1 z.2.2 (nI P) (nI C) (nI k) lent J K)) :
    ∀ (n i : Nat) (v : Int32) (x : MS) (z : Z3), i ≤ 2 ^ C → 2 ^ C + 1 ≤ i + n → WW M_X7_were d Q xz 26 [(0, .ref 0), (1, .int (nI s)), (2, .int (nI N)), (3, .int wset), (4, .long (orL (fun q => decide (firstT (fun p => decide (¬ (K 21) (40 * s + p) = toldS (evS sy P C fr lo fa ki mo k sty (nI q) wfor lent N) fr (nI N) p)) P = -1)) i)), (6, .int (nI i))] [] (wMv (wiF fr lo fa) ki mo (hoF sty v wfor) cd sr z.2.1 z.1 x.2.2.2.2.2.1 x.2.2.2.2.2.2 x.1 x.2.1 x.2.2.1 x.2.2.2.1 x.2.2.2.2.1 z.2.2 (nI P) (nI C) (nI k) lent J K) := by
  intro n
  induction n with
  | zero => intro i; intros; omega
  | succ n ih =>
    intro i v x z hi hn 
    have hCC : 2 ^ C ≤ 64 := pow_le ⟨C, by omega⟩
    refine ww_run 16 5 (pc' := 34) (lv' := [(0, .ref 0), (1, .int (nI s)), (2, .int (nI N)), (3, .int wset), (4, .long (orL (fun q => decide (firstT (fun p => decide (¬ (K 21) (40 * s + p) = toldS (evS sy P C fr lo fa ki mo k sty (nI q) wfor lent N) fr (nI N) p)) P = -1)) i)), (6, .int (nI i))]) (st' := [.int (1 <<< ((nI C) &&& 31)), .int (nI i)]) (w' := wMv (wiF fr lo fa) ki mo (hoF sty v wfor) cd sr z.2.1 z.1 x.2.2.2.2.2.1 x.2.2.2.2.2.2 x.1 x.2.1 x.2.2.1 x.2.2.2.1 x.2.2.2.2.1 z.2.2 (nI P) (nI C) (nI k) lent J K) (Ps := []) rfl trivial ?_
    rw [pow_C ⟨C, by omega⟩]
    refine ww_icmp_ge 21 rfl (tgt := 74) rfl (fun c1 => ?_) (fun c1 => ?_)
    · have c1 : 2 ^ C ≤ i := (nI_leI (a := (2 ^ C)) (b := i) (by omega) (by omega)).mp c1
      obtain rfl : i = 2 ^ C := by omega
      exact KK v x z
    · have c1 : ¬ 2 ^ C ≤ i := fun q => c1 ((nI_leI (a := (2 ^ C)) (b := i) (by omega) (by omega)).mpr q)
      refine ww_run 22 9 (pc' := 50) (lv' := [(0, .ref 0), (1, .int (nI s)), (2, .int (nI N)), (3, .int wset), (4, .long (orL (fun q => decide (firstT (fun p => decide (¬ (K 21) (40 * s + p) = toldS (evS sy P C fr lo fa ki mo k sty (nI q) wfor lent N) fr (nI N) p)) P = -1)) i)), (6, .int (nI i))]) (st' := [.int (nI N), .int (nI s), .ref 0, .long (orL (fun q => decide (firstT (fun p => decide (¬ (K 21) (40 * s + p) = toldS (evS sy P C fr lo fa ki mo k sty (nI q) wfor lent N) fr (nI N) p)) P = -1)) i)]) (w' := wMv (wiF fr lo fa) ki mo (upd (hoF sty v wfor) 1 (nI i)) cd sr z.2.1 z.1 x.2.2.2.2.2.1 x.2.2.2.2.2.2 x.1 x.2.1 x.2.2.1 x.2.2.2.1 x.2.2.2.2.1 z.2.2 (nI P) (nI C) (nI k) lent J K) (Ps := [vp_in 1 3]) rfl ⟨(vp_in_nI (n := 1) (by decide) (by decide)), trivial⟩ ?_
      rw [ho_u1]
      refine ww_cV 31 ok_X7_unlike (m_unlike ki mo cd sr lent J K fr lo fa sty (nI i) wfor x z sy T P C k hP hC hk hL hmo s N (by omega) (by omega)) lk_X7_304 rfl (by omega) (rest := [.long (orL (fun q => decide (firstT (fun p => decide (¬ (K 21) (40 * s + p) = toldS (evS sy P C fr lo fa ki mo k sty (nI q) wfor lent N) fr (nI N) p)) P = -1)) i)]) rfl (Nat.le_of_ble_eq_true rfl) rfl rfl rfl rfl (fun r w' hq => ?_)
      obtain ⟨rfl, x1, z1, rfl⟩ := hq
      refine ww_run 32 1 (pc' := 54) (lv' := [(0, .ref 0), (1, .int (nI s)), (2, .int (nI N)), (3, .int wset), (4, .long (orL (fun q => decide (firstT (fun p => decide (¬ (K 21) (40 * s + p) = toldS (evS sy P C fr lo fa ki mo k sty (nI q) wfor lent N) fr (nI N) p)) P = -1)) i)), (6, .int (nI i))]) (st' := [.int (-1), .int (firstT (fun p => decide (¬ (K 21) (40 * s + p) = toldS (evS sy P C fr lo fa ki mo k sty (nI i) wfor lent N) fr (nI N) p)) P), .long (orL (fun q => decide (firstT (fun p => decide (¬ (K 21) (40 * s + p) = toldS (evS sy P C fr lo fa ki mo k sty (nI q) wfor lent N) fr (nI N) p)) P = -1)) i)]) (w' := wMv (wiF fr lo fa) ki mo (hoF sty (nI i) wfor) cd sr z1.2.1 z1.1 x1.2.2.2.2.2.1 x1.2.2.2.2.2.2 x1.1 x1.2.1 x1.2.2.1 x1.2.2.2.1 x1.2.2.2.2.1 z1.2.2 (nI P) (nI C) (nI k) lent J K) (Ps := []) rfl trivial ?_
      refine ww_icmp_ne 33 rfl (tgt := 64) rfl (fun c2 => ?_) (fun c2 => ?_)
      · refine ww_run 38 5 (pc' := 26) (lv' := [(6, .int ((nI i) + 1)), (4, .long ((orL (fun q => decide (firstT (fun p => decide (¬ (K 21) (40 * s + p) = toldS (evS sy P C fr lo fa ki mo k sty (nI q) wfor lent N) fr (nI N) p)) P = -1)) i) ||| 0)), (0, .ref 0), (1, .int (nI s)), (2, .int (nI N)), (3, .int wset)]) (st' := []) (w' := wMv (wiF fr lo fa) ki mo (hoF sty (nI i) wfor) cd sr z1.2.1 z1.1 x1.2.2.2.2.2.1 x1.2.2.2.2.2.2 x1.1 x1.2.1 x1.2.2.1 x1.2.2.2.1 x1.2.2.2.2.1 z1.2.2 (nI P) (nI C) (nI k) lent J K) (Ps := []) rfl trivial ?_
        rw [nI_1 i]
        refine ww_lv [2, 3, 4, 5, 1, 0] (lv' := [(0, .ref 0), (1, .int (nI s)), (2, .int (nI N)), (3, .int wset), (4, .long ((orL (fun q => decide (firstT (fun p => decide (¬ (K 21) (40 * s + p) = toldS (evS sy P C fr lo fa ki mo k sty (nI q) wfor lent N) fr (nI N) p)) P = -1)) i) ||| 0)), (6, .int (nI (i + 1)))]) rfl ?_
        have hh := ih (i + 1) (nI i) x1 z1 (by omega) (by omega)
        have e : orL (fun q => decide (firstT (fun p => decide (¬ (K 21) (40 * s + p) = toldS (evS sy P C fr lo fa ki mo k sty (nI q) wfor lent N) fr (nI N) p)) P = -1)) (i + 1) = (orL (fun q => decide (firstT (fun p => decide (¬ (K 21) (40 * s + p) = toldS (evS sy P C fr lo fa ki mo k sty (nI q) wfor lent N) fr (nI N) p)) P = -1)) i) ||| 0 := by
          simp only [orL]
          rw [if_neg (by rw [decide_eq_true_eq]; exact c2), or0_64]
        rw [e] at hh
        exact hh
      · refine ww_run 34 4 (pc' := 65) (lv' := [(0, .ref 0), (1, .int (nI s)), (2, .int (nI N)), (3, .int wset), (4, .long (orL (fun q => decide (firstT (fun p => decide (¬ (K 21) (40 * s + p) = toldS (evS sy P C fr lo fa ki mo k sty (nI q) wfor lent N) fr (nI N) p)) P = -1)) i)), (6, .int (nI i))]) (st' := [.long (1 <<< ((nI i).toInt64 &&& 63)), .long (orL (fun q => decide (firstT (fun p => decide (¬ (K 21) (40 * s + p) = toldS (evS sy P C fr lo fa ki mo k sty (nI q) wfor lent N) fr (nI N) p)) P = -1)) i)]) (w' := wMv (wiF fr lo fa) ki mo (hoF sty (nI i) wfor) cd sr z1.2.1 z1.1 x1.2.2.2.2.2.1 x1.2.2.2.2.2.2 x1.1 x1.2.1 x1.2.2.1 x1.2.2.2.1 x1.2.2.2.2.1 z1.2.2 (nI P) (nI C) (nI k) lent J K) (Ps := []) rfl trivial ?_
        refine ww_run 39 4 (pc' := 26) (lv' := [(6, .int ((nI i) + 1)), (4, .long ((orL (fun q => decide (firstT (fun p => decide (¬ (K 21) (40 * s + p) = toldS (evS sy P C fr lo fa ki mo k sty (nI q) wfor lent N) fr (nI N) p)) P = -1)) i) ||| (1 <<< ((nI i).toInt64 &&& 63)))), (0, .ref 0), (1, .int (nI s)), (2, .int (nI N)), (3, .int wset)]) (st' := []) (w' := wMv (wiF fr lo fa) ki mo (hoF sty (nI i) wfor) cd sr z1.2.1 z1.1 x1.2.2.2.2.2.1 x1.2.2.2.2.2.2 x1.1 x1.2.1 x1.2.2.1 x1.2.2.2.1 x1.2.2.2.2.1 z1.2.2 (nI P) (nI C) (nI k) lent J K) (Ps := []) rfl trivial ?_
        rw [nI_1 i]
        refine ww_lv [2, 3, 4, 5, 1, 0] (lv' := [(0, .ref 0), (1, .int (nI s)), (2, .int (nI N)), (3, .int wset), (4, .long ((orL (fun q => decide (firstT (fun p => decide (¬ (K 21) (40 * s + p) = toldS (evS sy P C fr lo fa ki mo k sty (nI q) wfor lent N) fr (nI N) p)) P = -1)) i) ||| (1 <<< ((nI i).toInt64 &&& 63)))), (6, .int (nI (i + 1)))]) rfl ?_
        have hh := ih (i + 1) (nI i) x1 z1 (by omega) (by omega)
        have e : orL (fun q => decide (firstT (fun p => decide (¬ (K 21) (40 * s + p) = toldS (evS sy P C fr lo fa ki mo k sty (nI q) wfor lent N) fr (nI N) p)) P = -1)) (i + 1) = (orL (fun q => decide (firstT (fun p => decide (¬ (K 21) (40 * s + p) = toldS (evS sy P C fr lo fa ki mo k sty (nI q) wfor lent N) fr (nI N) p)) P = -1)) i) ||| (1 <<< ((nI i).toInt64 &&& 63)) := by
          simp only [orL]
          rw [if_pos (decide_eq_true c2)]
        rw [e] at hh
        exact hh
set_option maxHeartbeats 4000000 in
set_option maxRecDepth 100000 in
theorem m_were (ki mo cd sr : Nat → Int32) (lent : Int32) (J : Nat → Int32) (K : Nat → Nat → Int32) (fr lo fa : Nat → Int32) (sty wset wfor : Int32) (x : MS) (z : Z3) (sy : SY) (T P C k : Nat) (hP : P ≤ 5) (hC : C ≤ 6) (hk : k < T) (hL : ML cd sr T sy) (hmo : MO6 mo) (ss nn : Int32) : Co M_X7_were 9 0 0 [.ref 0, .int ss, .int nn] (wMv (wiF fr lo fa) ki mo (hoF sty wset wfor) cd sr z.2.1 z.1 x.2.2.2.2.2.1 x.2.2.2.2.2.2 x.1 x.2.1 x.2.2.1 x.2.2.2.1 x.2.2.2.2.1 z.2.2 (nI P) (nI C) (nI k) lent J K) (fun r w' => r = some (.long (if swM (K 19) (K 20) P ss nn = 0 then orL (fun q => decide (firstT (fun p => decide (¬ (K 21) (40 * ss.toNatClampNeg + p) = toldS (evS sy P C fr lo fa ki mo k sty (nI q) wfor lent nn.toNatClampNeg) fr nn p)) P = -1)) (2 ^ C) else (-4611686018427387904))) ∧ ∃ (x : MS) (z : Z3), w' = wMv (wiF fr lo fa) ki mo (hoF sty wset wfor) cd sr z.2.1 z.1 x.2.2.2.2.2.1 x.2.2.2.2.2.2 x.1 x.2.1 x.2.2.1 x.2.2.2.1 x.2.2.2.2.1 z.2.2 (nI P) (nI C) (nI k) lent J K) := by
  refine Co.of ok_X7_were rfl ?_
  refine ww_run 0 3 (pc' := 3) (lv' := [(0, .ref 0), (1, .int ss), (2, .int nn)]) (st' := [.int nn, .int ss, .ref 0]) (w' := wMv (wiF fr lo fa) ki mo (hoF sty wset wfor) cd sr z.2.1 z.1 x.2.2.2.2.2.1 x.2.2.2.2.2.2 x.1 x.2.1 x.2.2.1 x.2.2.2.1 x.2.2.2.2.1 z.2.2 (nI P) (nI C) (nI k) lent J K) (Ps := []) rfl trivial ?_
  refine ww_cVi 3 ok_X7_sheetWrong (c_X7_sheetWrong (wiF fr lo fa) ki mo (hoF sty wset wfor) cd sr z.2.1 z.1 x.2.2.2.2.2.1 x.2.2.2.2.2.2 x.1 x.2.1 x.2.2.1 x.2.2.2.1 x.2.2.2.2.1 z.2.2 (nI C) (nI k) lent J K ss nn P) lk_X7_301 rfl (by omega) (rest := []) rfl (Nat.le_of_ble_eq_true rfl) rfl rfl rfl rfl ?_
  refine ww_if_eq 4 rfl (tgt := 13) rfl (fun c1 => ?_) (fun c1 => ?_)
  · obtain ⟨s, hs, rfl⟩ := s4_nI (swM_0 c1).1
    obtain ⟨N, hN, rfl⟩ := many_nI (swM_0 c1).2
    refine ww_run 7 9 (pc' := 26) (lv' := [(6, .int 0), (4, .long 0), (3, .int wset), (0, .ref 0), (1, .int (nI s)), (2, .int (nI N))]) (st' := []) (w' := wMv (wiF fr lo fa) ki mo (hoF sty wset wfor) cd sr z.2.1 z.1 x.2.2.2.2.2.1 x.2.2.2.2.2.2 x.1 x.2.1 x.2.2.1 x.2.2.2.1 x.2.2.2.2.1 z.2.2 (nI P) (nI C) (nI k) lent J K) (Ps := [vp_in 1 3]) rfl ⟨(vp_in_nI (n := 1) (by decide) (by decide)), trivial⟩ ?_
    refine ww_lv [3, 4, 5, 2, 1, 0] (lv' := [(0, .ref 0), (1, .int (nI s)), (2, .int (nI N)), (3, .int wset), (4, .long 0), (6, .int 0)]) rfl ?_
    have hCC : 2 ^ C ≤ 64 := pow_le ⟨C, by omega⟩
    refine l_X7_were_26 (by omega) ki mo cd sr lent J K fr lo fa sty wset wfor sy T P C k hP hC hk hL hmo s N hs hN (fun v1 x1 z1 => ?_) (2 ^ C + 1) 0 wset x z (Nat.zero_le _) (by omega)
    refine ww_run 43 6 (pc' := 83) (lv' := [(0, .ref 0), (1, .int (nI s)), (2, .int (nI N)), (3, .int wset), (4, .long (orL (fun q => decide (firstT (fun p => decide (¬ (K 21) (40 * s + p) = toldS (evS sy P C fr lo fa ki mo k sty (nI q) wfor lent N) fr (nI N) p)) P = -1)) (2 ^ C))), (6, .int (nI (2 ^ C)))]) (st' := [.long (orL (fun q => decide (firstT (fun p => decide (¬ (K 21) (40 * s + p) = toldS (evS sy P C fr lo fa ki mo k sty (nI q) wfor lent N) fr (nI N) p)) P = -1)) (2 ^ C))]) (w' := wMv (wiF fr lo fa) ki mo (upd (hoF sty v1 wfor) 1 wset) cd sr z1.2.1 z1.1 x1.2.2.2.2.2.1 x1.2.2.2.2.2.2 x1.1 x1.2.1 x1.2.2.1 x1.2.2.2.1 x1.2.2.2.2.1 z1.2.2 (nI P) (nI C) (nI k) lent J K) (Ps := [vp_in 1 3]) rfl ⟨(vp_in_nI (n := 1) (by decide) (by decide)), trivial⟩ ?_
    rw [ho_u1]
    refine ww_lret 49 rfl rfl ?_
    exact ⟨by simp only [nI_clamp (n := N) (by omega), nI_clamp (n := s) (by omega)]; rw [if_pos c1], x1, z1, rfl⟩
  · refine ww_run 5 1 (pc' := 12) (lv' := [(0, .ref 0), (1, .int ss), (2, .int nn)]) (st' := [.long (-4611686018427387904)]) (w' := wMv (wiF fr lo fa) ki mo (hoF sty wset wfor) cd sr z.2.1 z.1 x.2.2.2.2.2.1 x.2.2.2.2.2.2 x.1 x.2.1 x.2.2.1 x.2.2.2.1 x.2.2.2.2.1 z.2.2 (nI P) (nI C) (nI k) lent J K) (Ps := []) rfl trivial ?_
    refine ww_lret 6 rfl rfl ?_
    exact ⟨by rw [if_neg c1], x, z, rfl⟩
set_option maxHeartbeats 4000000 in
set_option maxRecDepth 100000 in
theorem l_X7_laws_25 {Q : Option Value → List va_E → Prop} {d : Nat} (hd : 9 ≤ d) (ki mo cd sr : Nat → Int32) (lent : Int32) (J : Nat → Int32) (K : Nat → Nat → Int32) (fr lo fa : Nat → Int32) (sty wset wfor : Int32) (sy : SY) (T P C k : Nat) (hP : P ≤ 5) (hC : C ≤ 6) (hk : k < T) (hL : ML cd sr T sy) (hmo : MO6 mo) (hTx : J 10 = nI T) (s N : Nat) (hs : s < 4) (hN : N ≤ 30) (KK : ∀ (v : Nat) (x : MS) (z : Z3), WW M_X7_laws d Q xz 69 [(0, .ref 0), (1, .int (nI s)), (2, .int (nI N)), (4, .int (nI k)), (5, .int (setOf (fun q => decide (firstT (fun p => decide (¬ (K 21) (40 * s + p) = toldS (evS sy P C fr lo fa ki mo q sty wset wfor lent N) fr (nI N) p)) P = -1)) T)), (6, .int (nI T))] [] (wMv (wiF fr lo fa) ki mo (hoF sty wset wfor) cd sr z.2.1 z.1 x.2.2.2.2.2.1 x.2.2.2.2.2.2 x.1 x.2.1 x.2.2.1 x.2.2.2.1 x.2.2.2.2.1 z.2.2 (nI P) (nI C) (nI v) lent J K)) :
    ∀ (n i : Nat) (v : Nat) (x : MS) (z : Z3), i ≤ T → T + 1 ≤ i + n → WW M_X7_laws d Q xz 25 [(0, .ref 0), (1, .int (nI s)), (2, .int (nI N)), (4, .int (nI k)), (5, .int (setOf (fun q => decide (firstT (fun p => decide (¬ (K 21) (40 * s + p) = toldS (evS sy P C fr lo fa ki mo q sty wset wfor lent N) fr (nI N) p)) P = -1)) i)), (6, .int (nI i))] [] (wMv (wiF fr lo fa) ki mo (hoF sty wset wfor) cd sr z.2.1 z.1 x.2.2.2.2.2.1 x.2.2.2.2.2.2 x.1 x.2.1 x.2.2.1 x.2.2.2.1 x.2.2.2.2.1 z.2.2 (nI P) (nI C) (nI v) lent J K) := by
  intro n
  induction n with
  | zero => intro i; intros; omega
  | succ n ih =>
    intro i v x z hi hn 
    have hT6 := hL.1
    refine ww_run 16 3 (pc' := 31) (lv' := [(0, .ref 0), (1, .int (nI s)), (2, .int (nI N)), (4, .int (nI k)), (5, .int (setOf (fun q => decide (firstT (fun p => decide (¬ (K 21) (40 * s + p) = toldS (evS sy P C fr lo fa ki mo q sty wset wfor lent N) fr (nI N) p)) P = -1)) i)), (6, .int (nI i))]) (st' := [.int (J 10), .int (nI i)]) (w' := wMv (wiF fr lo fa) ki mo (hoF sty wset wfor) cd sr z.2.1 z.1 x.2.2.2.2.2.1 x.2.2.2.2.2.2 x.1 x.2.1 x.2.2.1 x.2.2.2.1 x.2.2.2.2.1 z.2.2 (nI P) (nI C) (nI v) lent J K) (Ps := []) rfl trivial ?_
    rw [hTx]
    refine ww_icmp_ge 19 rfl (tgt := 69) rfl (fun c1 => ?_) (fun c1 => ?_)
    · have c1 : T ≤ i := (nI_leI (a := T) (b := i) (by omega) (by omega)).mp c1
      obtain rfl : i = T := by omega
      exact KK v x z
    · have c1 : ¬ T ≤ i := fun q => c1 ((nI_leI (a := T) (b := i) (by omega) (by omega)).mpr q)
      refine ww_run 20 7 (pc' := 45) (lv' := [(0, .ref 0), (1, .int (nI s)), (2, .int (nI N)), (4, .int (nI k)), (5, .int (setOf (fun q => decide (firstT (fun p => decide (¬ (K 21) (40 * s + p) = toldS (evS sy P C fr lo fa ki mo q sty wset wfor lent N) fr (nI N) p)) P = -1)) i)), (6, .int (nI i))]) (st' := [.int (nI N), .int (nI s), .ref 0, .int (setOf (fun q => decide (firstT (fun p => decide (¬ (K 21) (40 * s + p) = toldS (evS sy P C fr lo fa ki mo q sty wset wfor lent N) fr (nI N) p)) P = -1)) i)]) (w' := wMv (wiF fr lo fa) ki mo (hoF sty wset wfor) cd sr z.2.1 z.1 x.2.2.2.2.2.1 x.2.2.2.2.2.2 x.1 x.2.1 x.2.2.1 x.2.2.2.1 x.2.2.2.2.1 z.2.2 (nI P) (nI C) (nI i) lent J K) (Ps := []) rfl trivial ?_
      refine ww_cV 27 ok_X7_unlike (m_unlike ki mo cd sr lent J K fr lo fa sty wset wfor x z sy T P C i hP hC (by omega) hL hmo s N (by omega) (by omega)) lk_X7_304 rfl (by omega) (rest := [.int (setOf (fun q => decide (firstT (fun p => decide (¬ (K 21) (40 * s + p) = toldS (evS sy P C fr lo fa ki mo q sty wset wfor lent N) fr (nI N) p)) P = -1)) i)]) rfl (Nat.le_of_ble_eq_true rfl) rfl rfl rfl rfl (fun r w' hq => ?_)
      obtain ⟨rfl, x1, z1, rfl⟩ := hq
      refine ww_run 28 1 (pc' := 49) (lv' := [(0, .ref 0), (1, .int (nI s)), (2, .int (nI N)), (4, .int (nI k)), (5, .int (setOf (fun q => decide (firstT (fun p => decide (¬ (K 21) (40 * s + p) = toldS (evS sy P C fr lo fa ki mo q sty wset wfor lent N) fr (nI N) p)) P = -1)) i)), (6, .int (nI i))]) (st' := [.int (-1), .int (firstT (fun p => decide (¬ (K 21) (40 * s + p) = toldS (evS sy P C fr lo fa ki mo i sty wset wfor lent N) fr (nI N) p)) P), .int (setOf (fun q => decide (firstT (fun p => decide (¬ (K 21) (40 * s + p) = toldS (evS sy P C fr lo fa ki mo q sty wset wfor lent N) fr (nI N) p)) P = -1)) i)]) (w' := wMv (wiF fr lo fa) ki mo (hoF sty wset wfor) cd sr z1.2.1 z1.1 x1.2.2.2.2.2.1 x1.2.2.2.2.2.2 x1.1 x1.2.1 x1.2.2.1 x1.2.2.2.1 x1.2.2.2.2.1 z1.2.2 (nI P) (nI C) (nI i) lent J K) (Ps := []) rfl trivial ?_
      refine ww_icmp_ne 29 rfl (tgt := 59) rfl (fun c2 => ?_) (fun c2 => ?_)
      · refine ww_run 34 5 (pc' := 25) (lv' := [(6, .int ((nI i) + 1)), (5, .int ((setOf (fun q => decide (firstT (fun p => decide (¬ (K 21) (40 * s + p) = toldS (evS sy P C fr lo fa ki mo q sty wset wfor lent N) fr (nI N) p)) P = -1)) i) ||| 0)), (0, .ref 0), (1, .int (nI s)), (2, .int (nI N)), (4, .int (nI k))]) (st' := []) (w' := wMv (wiF fr lo fa) ki mo (hoF sty wset wfor) cd sr z1.2.1 z1.1 x1.2.2.2.2.2.1 x1.2.2.2.2.2.2 x1.1 x1.2.1 x1.2.2.1 x1.2.2.2.1 x1.2.2.2.2.1 z1.2.2 (nI P) (nI C) (nI i) lent J K) (Ps := []) rfl trivial ?_
        rw [nI_1 i]
        refine ww_lv [2, 3, 4, 5, 1, 0] (lv' := [(0, .ref 0), (1, .int (nI s)), (2, .int (nI N)), (4, .int (nI k)), (5, .int ((setOf (fun q => decide (firstT (fun p => decide (¬ (K 21) (40 * s + p) = toldS (evS sy P C fr lo fa ki mo q sty wset wfor lent N) fr (nI N) p)) P = -1)) i) ||| 0)), (6, .int (nI (i + 1)))]) rfl ?_
        have hh := ih (i + 1) i x1 z1 (by omega) (by omega)
        have e : setOf (fun q => decide (firstT (fun p => decide (¬ (K 21) (40 * s + p) = toldS (evS sy P C fr lo fa ki mo q sty wset wfor lent N) fr (nI N) p)) P = -1)) (i + 1) = (setOf (fun q => decide (firstT (fun p => decide (¬ (K 21) (40 * s + p) = toldS (evS sy P C fr lo fa ki mo q sty wset wfor lent N) fr (nI N) p)) P = -1)) i) ||| 0 := by
          simp only [setOf]
          rw [if_neg (by rw [decide_eq_true_eq]; exact c2), or0_32]
        rw [e] at hh
        exact hh
      · refine ww_run 30 4 (pc' := 60) (lv' := [(0, .ref 0), (1, .int (nI s)), (2, .int (nI N)), (4, .int (nI k)), (5, .int (setOf (fun q => decide (firstT (fun p => decide (¬ (K 21) (40 * s + p) = toldS (evS sy P C fr lo fa ki mo q sty wset wfor lent N) fr (nI N) p)) P = -1)) i)), (6, .int (nI i))]) (st' := [.int (1 <<< ((nI i) &&& 31)), .int (setOf (fun q => decide (firstT (fun p => decide (¬ (K 21) (40 * s + p) = toldS (evS sy P C fr lo fa ki mo q sty wset wfor lent N) fr (nI N) p)) P = -1)) i)]) (w' := wMv (wiF fr lo fa) ki mo (hoF sty wset wfor) cd sr z1.2.1 z1.1 x1.2.2.2.2.2.1 x1.2.2.2.2.2.2 x1.1 x1.2.1 x1.2.2.1 x1.2.2.2.1 x1.2.2.2.2.1 z1.2.2 (nI P) (nI C) (nI i) lent J K) (Ps := []) rfl trivial ?_
        refine ww_run 35 4 (pc' := 25) (lv' := [(6, .int ((nI i) + 1)), (5, .int ((setOf (fun q => decide (firstT (fun p => decide (¬ (K 21) (40 * s + p) = toldS (evS sy P C fr lo fa ki mo q sty wset wfor lent N) fr (nI N) p)) P = -1)) i) ||| (1 <<< ((nI i) &&& 31)))), (0, .ref 0), (1, .int (nI s)), (2, .int (nI N)), (4, .int (nI k))]) (st' := []) (w' := wMv (wiF fr lo fa) ki mo (hoF sty wset wfor) cd sr z1.2.1 z1.1 x1.2.2.2.2.2.1 x1.2.2.2.2.2.2 x1.1 x1.2.1 x1.2.2.1 x1.2.2.2.1 x1.2.2.2.2.1 z1.2.2 (nI P) (nI C) (nI i) lent J K) (Ps := []) rfl trivial ?_
        rw [nI_1 i]
        refine ww_lv [2, 3, 4, 5, 1, 0] (lv' := [(0, .ref 0), (1, .int (nI s)), (2, .int (nI N)), (4, .int (nI k)), (5, .int ((setOf (fun q => decide (firstT (fun p => decide (¬ (K 21) (40 * s + p) = toldS (evS sy P C fr lo fa ki mo q sty wset wfor lent N) fr (nI N) p)) P = -1)) i) ||| (1 <<< ((nI i) &&& 31)))), (6, .int (nI (i + 1)))]) rfl ?_
        have hh := ih (i + 1) i x1 z1 (by omega) (by omega)
        have e : setOf (fun q => decide (firstT (fun p => decide (¬ (K 21) (40 * s + p) = toldS (evS sy P C fr lo fa ki mo q sty wset wfor lent N) fr (nI N) p)) P = -1)) (i + 1) = (setOf (fun q => decide (firstT (fun p => decide (¬ (K 21) (40 * s + p) = toldS (evS sy P C fr lo fa ki mo q sty wset wfor lent N) fr (nI N) p)) P = -1)) i) ||| (1 <<< ((nI i) &&& 31)) := by
          simp only [setOf]
          rw [if_pos (decide_eq_true c2)]
        rw [e] at hh
        exact hh
set_option maxHeartbeats 4000000 in
set_option maxRecDepth 100000 in
theorem m_laws (ki mo cd sr : Nat → Int32) (lent : Int32) (J : Nat → Int32) (K : Nat → Nat → Int32) (fr lo fa : Nat → Int32) (sty wset wfor : Int32) (x : MS) (z : Z3) (sy : SY) (T P C k : Nat) (hP : P ≤ 5) (hC : C ≤ 6) (hk : k < T) (hL : ML cd sr T sy) (hmo : MO6 mo) (hTx : J 10 = nI T) (ss nn : Int32) : Co M_X7_laws 9 0 0 [.ref 0, .int ss, .int nn] (wMv (wiF fr lo fa) ki mo (hoF sty wset wfor) cd sr z.2.1 z.1 x.2.2.2.2.2.1 x.2.2.2.2.2.2 x.1 x.2.1 x.2.2.1 x.2.2.2.1 x.2.2.2.2.1 z.2.2 (nI P) (nI C) (nI k) lent J K) (fun r w' => r = some (.int (if swM (K 19) (K 20) P ss nn = 0 then setOf (fun q => decide (firstT (fun p => decide (¬ (K 21) (40 * ss.toNatClampNeg + p) = toldS (evS sy P C fr lo fa ki mo q sty wset wfor lent nn.toNatClampNeg) fr nn p)) P = -1)) T else swM (K 19) (K 20) P ss nn)) ∧ ∃ (x : MS) (z : Z3), w' = wMv (wiF fr lo fa) ki mo (hoF sty wset wfor) cd sr z.2.1 z.1 x.2.2.2.2.2.1 x.2.2.2.2.2.2 x.1 x.2.1 x.2.2.1 x.2.2.2.1 x.2.2.2.2.1 z.2.2 (nI P) (nI C) (nI k) lent J K) := by
  refine Co.of ok_X7_laws rfl ?_
  refine ww_run 0 3 (pc' := 3) (lv' := [(0, .ref 0), (1, .int ss), (2, .int nn)]) (st' := [.int nn, .int ss, .ref 0]) (w' := wMv (wiF fr lo fa) ki mo (hoF sty wset wfor) cd sr z.2.1 z.1 x.2.2.2.2.2.1 x.2.2.2.2.2.2 x.1 x.2.1 x.2.2.1 x.2.2.2.1 x.2.2.2.2.1 z.2.2 (nI P) (nI C) (nI k) lent J K) (Ps := []) rfl trivial ?_
  refine ww_cVi 3 ok_X7_sheetWrong (c_X7_sheetWrong (wiF fr lo fa) ki mo (hoF sty wset wfor) cd sr z.2.1 z.1 x.2.2.2.2.2.1 x.2.2.2.2.2.2 x.1 x.2.1 x.2.2.1 x.2.2.2.1 x.2.2.2.2.1 z.2.2 (nI C) (nI k) lent J K ss nn P) lk_X7_301 rfl (by omega) (rest := []) rfl (Nat.le_of_ble_eq_true rfl) rfl rfl rfl rfl ?_
  refine ww_run 4 2 (pc' := 8) (lv' := [(3, .int (swM (K 19) (K 20) P ss nn)), (0, .ref 0), (1, .int ss), (2, .int nn)]) (st' := [.int (swM (K 19) (K 20) P ss nn)]) (w' := wMv (wiF fr lo fa) ki mo (hoF sty wset wfor) cd sr z.2.1 z.1 x.2.2.2.2.2.1 x.2.2.2.2.2.2 x.1 x.2.1 x.2.2.1 x.2.2.2.1 x.2.2.2.2.1 z.2.2 (nI P) (nI C) (nI k) lent J K) (Ps := []) rfl trivial ?_
  refine ww_if_eq 6 rfl (tgt := 13) rfl (fun c1 => ?_) (fun c1 => ?_)
  · obtain ⟨s, hs, rfl⟩ := s4_nI (swM_0 c1).1
    obtain ⟨N, hN, rfl⟩ := many_nI (swM_0 c1).2
    refine ww_run 9 7 (pc' := 25) (lv' := [(6, .int 0), (5, .int 0), (4, .int (nI k)), (3, .int (swM (K 19) (K 20) P (nI s) (nI N))), (0, .ref 0), (1, .int (nI s)), (2, .int (nI N))]) (st' := []) (w' := wMv (wiF fr lo fa) ki mo (hoF sty wset wfor) cd sr z.2.1 z.1 x.2.2.2.2.2.1 x.2.2.2.2.2.2 x.1 x.2.1 x.2.2.1 x.2.2.2.1 x.2.2.2.2.1 z.2.2 (nI P) (nI C) (nI k) lent J K) (Ps := []) rfl trivial ?_
    refine ww_lv [4, 5, 6, 2, 1, 0] (lv' := [(0, .ref 0), (1, .int (nI s)), (2, .int (nI N)), (4, .int (nI k)), (5, .int 0), (6, .int 0)]) rfl ?_
    refine l_X7_laws_25 (by omega) ki mo cd sr lent J K fr lo fa sty wset wfor sy T P C k hP hC hk hL hmo hTx s N hs hN (fun v1 x1 z1 => ?_) (T + 1) 0 k x z (by omega) (by omega)
    refine ww_run 39 4 (pc' := 77) (lv' := [(0, .ref 0), (1, .int (nI s)), (2, .int (nI N)), (4, .int (nI k)), (5, .int (setOf (fun q => decide (firstT (fun p => decide (¬ (K 21) (40 * s + p) = toldS (evS sy P C fr lo fa ki mo q sty wset wfor lent N) fr (nI N) p)) P = -1)) T)), (6, .int (nI T))]) (st' := [.int (setOf (fun q => decide (firstT (fun p => decide (¬ (K 21) (40 * s + p) = toldS (evS sy P C fr lo fa ki mo q sty wset wfor lent N) fr (nI N) p)) P = -1)) T)]) (w' := wMv (wiF fr lo fa) ki mo (hoF sty wset wfor) cd sr z1.2.1 z1.1 x1.2.2.2.2.2.1 x1.2.2.2.2.2.2 x1.1 x1.2.1 x1.2.2.1 x1.2.2.2.1 x1.2.2.2.2.1 z1.2.2 (nI P) (nI C) (nI k) lent J K) (Ps := []) rfl trivial ?_
    refine ww_iret 43 rfl rfl ?_
    exact ⟨by simp only [nI_clamp (n := N) (by omega), nI_clamp (n := s) (by omega)]; rw [if_pos c1], x1, z1, rfl⟩
  · refine ww_run 7 1 (pc' := 12) (lv' := [(3, .int (swM (K 19) (K 20) P ss nn)), (0, .ref 0), (1, .int ss), (2, .int nn)]) (st' := [.int (swM (K 19) (K 20) P ss nn)]) (w' := wMv (wiF fr lo fa) ki mo (hoF sty wset wfor) cd sr z.2.1 z.1 x.2.2.2.2.2.1 x.2.2.2.2.2.2 x.1 x.2.1 x.2.2.1 x.2.2.2.1 x.2.2.2.2.1 z.2.2 (nI P) (nI C) (nI k) lent J K) (Ps := []) rfl trivial ?_
    refine ww_iret 8 rfl rfl ?_
    exact ⟨by rw [if_neg c1], x, z, rfl⟩
