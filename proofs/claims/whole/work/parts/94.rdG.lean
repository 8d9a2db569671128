/-- the three parts of a text, as the reference reads them: the codes, the newest first, and where each part begins -/
def rfR (B : Nat → Int32) (N : Nat) : Nat → Nat → List Int32 → Nat → List Nat → Sum Nat (List Int32 × List Nat)
  | 0, _, O, p, L => if (lkF B N p).2.2 = -1 then .inr (O, O.length :: L) else .inl (lkF B N p).2.1
  | n + 1, k, O, p, L => if (lkF B N p).2.2 = -10 - nI k then (match Yv B N (some true) [] O (lkF B N (lkF B N p).1) with
      | .inl a => .inl a
      | .inr r => rfR B N n (k + 1) r.1 r.2 (O.length :: L)) else .inl (lkF B N p).2.1
section
variable {B : Nat → Int32} {N n k p : Nat} {O : List Int32} {L : List Nat}
theorem rf_go {O' : List Int32} {p' : Nat} (h : (lkF B N p).2.2 = -10 - nI k) (hY : Yv B N (some true) [] O (lkF B N (lkF B N p).1) = .inr (O', p')) : rfR B N (n + 1) k O p L = rfR B N n (k + 1) O' p' (O.length :: L) := by
  simp only [rfR]
  rw [if_pos h, hY]
theorem rf_k (h : ¬ (lkF B N p).2.2 = -10 - nI k) : rfR B N (n + 1) k O p L = .inl (lkF B N p).2.1 := by
  simp only [rfR]
  rw [if_neg h]
theorem rf_y {a : Nat} (h : (lkF B N p).2.2 = -10 - nI k) (hY : Yv B N (some true) [] O (lkF B N (lkF B N p).1) = .inl a) : rfR B N (n + 1) k O p L = .inl a := by
  simp only [rfR]
  rw [if_pos h, hY]
theorem rf_e (h : (lkF B N p).2.2 = -1) : rfR B N 0 k O p L = .inr (O, O.length :: L) := by
  simp only [rfR]
  rw [if_pos h]
theorem rf_n (h : ¬ (lkF B N p).2.2 = -1) : rfR B N 0 k O p L = .inl (lkF B N p).2.1 := by
  simp only [rfR]
  rw [if_neg h]
end
def srL (sr0 : Nat → Int32) (b : Nat) : List Nat → Nat → Int32
  | [] => sr0
  | v :: L => upd (srL sr0 b L) (b + L.length) (nI v)
theorem srL_lt {sr0 : Nat → Int32} {b : Nat} : ∀ (L : List Nat) (x : Nat), x < b → srL sr0 b L x = sr0 x
  | [], _, _ => rfl
  | v :: L, x, h => by
    simp only [srL]
    rw [pk_un (by omega), srL_lt L x h]
theorem cdB_lt {cd0 : Nat → Int32} {b : Nat} : ∀ (O : List Int32) (x : Nat), x < b → cdB cd0 b O x = cd0 x
  | [], _, _ => rfl
  | v :: O, x, h => by
    simp only [cdB]
    rw [pk_un (by omega), cdB_lt O x h]
theorem kw_ok {c v : Int32} {k : Nat} (hk : k < 3) (h3 : tkM c = 3) (hv : vlM c v) (hp : v = nI k) : c = -10 - nI k := by
  have h1 := hv.2.2 (tk_i3 h3)
  rw [hp] at h1
  rcases (show k = 0 ∨ k = 1 ∨ k = 2 by omega) with rfl | rfl | rfl <;> rcases tk_i3 h3 with rfl | rfl | rfl <;> first | decide | (exact absurd h1 (by decide))
theorem kw_no {c v : Int32} {k : Nat} (hk : k < 3) (hv : vlM c v) (h : ¬ tkM c = 3 ∨ ¬ v = nI k) : ¬ c = -10 - nI k := by
  intro e
  have h0 : tkM c = 3 ∧ (c = -10 ∨ c = -11 ∨ c = -12) ∧ nI k = -10 - c := by
    rcases (show k = 0 ∨ k = 1 ∨ k = 2 by omega) with rfl | rfl | rfl <;> (rw [e]; decide)
  rcases h with h | h
  · exact h h0.1
  · exact h ((hv.2.2 h0.2.1).trans h0.2.2.symm)
theorem lk_pos {B : Nat → Int32} {N p : Nat} (hp : p ≤ N) : (lkF B N p).1 = N ∨ (lkF B N p).2.1 < (lkF B N p).1 := by
  have h1 : spn isBk B N (N - p) p ≤ N := spn_le _ _ hp
  unfold lkF
  rw [lkQ_at]
  rcases lkQ_gt (B := B) h1 with ⟨h, h'⟩ | ⟨h, h', h''⟩
  · exact Or.inl h'
  · exact Or.inr h
set_option maxHeartbeats 4000000 in
set_option maxRecDepth 100000 in
theorem m_text (tp cd sr wo he : Nat → Int32) (pt bg tk vl hm op ou : Int32) (J : Nat → Int32) (K : Nat → Nat → Int32) (N t : Nat) (hN : N ≤ 160) (ht6 : t ≤ 6) (hwo : ∀ j, j < 96 → wo j = woT j) : Co M_X7_text 4 0 0 [.ref 0] (wMr tp cd sr wo he (nI N) (nI t) pt bg tk vl hm op ou J K) (fun r w' => (t = 6 ∧ r = some (.int (-4)) ∧ w' = wMr tp cd sr wo he (nI N) (nI t) pt bg tk vl hm op ou J K) ∨ (∃ (a : Nat) (O' : List Int32) (sr' : Nat → Int32) (he : Nat → Int32) (hm op pt bg tk vl ou : Int32), t < 6 ∧ rfR tp N 3 0 [] 0 [] = .inl a ∧ (∀ x, x < 4 * t → sr' x = sr x) ∧ r = some (.int ((-100) - nI a)) ∧ w' = wMr tp (cdB cd (200 * t) O') sr' wo he 0 (nI t) pt bg tk vl hm op ou J K) ∨ (∃ (O' : List Int32) (L : List Nat) (he : Nat → Int32) (hm op pt bg tk vl ou : Int32), t < 6 ∧ rfR tp N 3 0 [] 0 [] = .inr (O', L) ∧ r = some (.int (nI t)) ∧ w' = wMr tp (cdB cd (200 * t) O') (srL sr (4 * t) L) wo he 0 (nI (t + 1)) pt bg tk vl hm op ou J K)) := by
  refine Co.of ok_X7_text rfl ?_
  refine ww_run 0 3 (pc' := 6) (lv' := [(0, .ref 0)]) (st' := [.int 6, .int (nI t)]) (w' := wMr tp cd sr wo he (nI N) (nI t) pt bg tk vl hm op ou J K) (Ps := []) rfl trivial ?_
  refine ww_icmp_ne 3 rfl (tgt := 12) rfl (fun c1 => ?_) (fun c1 => ?_)
  · have c1 : ¬ t = 6 := fun q => c1 ((nI_eq (a := t) (b := 6) (by omega) (by omega)).mpr q)
    have ht : t < 6 := by omega
    refine ww_run 6 8 (pc' := 24) (lv' := [(1, .int 1), (0, .ref 0)]) (st' := []) (w' := wMr tp cd (srL sr (4 * t) []) wo he (nI N) (nI t) 0 bg tk vl hm op 0 J K) (Ps := []) rfl trivial ?_
    refine ww_run 14 2 (pc' := 26) (lv' := [(2, .int 0), (1, .int 1), (0, .ref 0)]) (st' := []) (w' := wMr tp (cdB cd (200 * t) []) (srL sr (4 * t) []) wo he (nI N) (nI t) (nI 0) bg tk vl hm op (nI ([] : List Int32).length) J K) (Ps := []) rfl trivial ?_
    refine ww_run 16 2 (pc' := 28) (lv' := [(2, .int 0), (1, .int 1), (0, .ref 0)]) (st' := [.int 3, .int 0]) (w' := wMr tp (cdB cd (200 * t) []) (srL sr (4 * t) []) wo he (nI N) (nI t) (nI 0) bg tk vl hm op (nI ([] : List Int32).length) J K) (Ps := []) rfl trivial ?_
    refine ww_icmp_ge 18 rfl (tgt := 101) rfl (fun c2 => ?_) (fun c2 => ?_)
    · exact absurd c2 (by decide)
    · refine ww_run 19 1 (pc' := 32) (lv' := [(2, .int 0), (1, .int 1), (0, .ref 0)]) (st' := [.int 1]) (w' := wMr tp (cdB cd (200 * t) []) (srL sr (4 * t) []) wo he (nI N) (nI t) (nI 0) bg tk vl hm op (nI ([] : List Int32).length) J K) (Ps := []) rfl trivial ?_
      refine ww_if_eq 20 rfl (tgt := 101) rfl (fun c3 => ?_) (fun c3 => ?_)
      · exact absurd c3 (by decide)
      · refine ww_run 21 1 (pc' := 36) (lv' := [(2, .int 0), (1, .int 1), (0, .ref 0)]) (st' := [.ref 0]) (w' := wMr tp (cdB cd (200 * t) []) (srL sr (4 * t) []) wo he (nI N) (nI t) (nI 0) bg tk vl hm op (nI ([] : List Int32).length) J K) (Ps := []) rfl trivial ?_
        refine ww_cV 22 ok_X7_next (m_next tp (cdB cd (200 * t) []) (srL sr (4 * t) []) wo he (nI t) bg tk vl hm op (nI ([] : List Int32).length) J K N 0 hN (Nat.zero_le _) hwo) lk_X7_167 rfl (by omega) (rest := []) rfl (Nat.le_of_ble_eq_true rfl) rfl rfl rfl rfl (fun r w' hq => ?_)
        obtain ⟨rfl, v0, hvl0, rfl⟩ := hq
        have hk0 := (lkF_gt (B := tp) (N := N) (p := 0) (Nat.zero_le _)).2.2
        refine ww_run 23 3 (pc' := 44) (lv' := [(2, .int 0), (1, .int 1), (0, .ref 0)]) (st' := [.int 3, .int (tkM (lkF tp N 0).2.2)]) (w' := wMr tp (cdB cd (200 * t) []) (srL sr (4 * t) []) wo he (nI N) (nI t) (nI (lkF tp N 0).1) (nI (lkF tp N 0).2.1) (tkM (lkF tp N 0).2.2) v0 hm op (nI ([] : List Int32).length) J K) (Ps := []) rfl trivial ?_
        refine ww_icmp_ne 26 rfl (tgt := 59) rfl (fun c4 => ?_) (fun c4 => ?_)
        · refine ww_run 33 1 (pc' := 60) (lv' := [(2, .int 0), (1, .int 1), (0, .ref 0)]) (st' := [.int 0]) (w' := wMr tp (cdB cd (200 * t) []) (srL sr (4 * t) []) wo he (nI N) (nI t) (nI (lkF tp N 0).1) (nI (lkF tp N 0).2.1) (tkM (lkF tp N 0).2.2) v0 hm op (nI ([] : List Int32).length) J K) (Ps := []) rfl trivial ?_
          have hw0 : ¬ (lkF tp N 0).2.2 = -10 - nI 0 := kw_no (by decide) hvl0 (Or.inl c4)
          refine ww_run 34 9 (pc' := 73) (lv' := [(1, .int 0), (2, .int 0), (0, .ref 0)]) (st' := [.int ((4 * (nI t)) + 0), .ref 7]) (w' := wMr tp (cdB cd (200 * t) []) (srL sr (4 * t) []) wo he (nI N) (nI t) (nI (lkF tp N 0).1) (nI (lkF tp N 0).2.1) (tkM (lkF tp N 0).2.2) v0 hm op (nI ([] : List Int32).length) J K) (Ps := []) rfl trivial ?_
          rw [show (4 : Int32) * nI t = nI (4 * t) from pk_mul 4 t]
          rw [show nI (4 * t) + (0 : Int32) = nI (4 * t + 0) from nI_add (4 * t) 0]
          refine ww_run 43 3 (pc' := 78) (lv' := [(1, .int 0), (2, .int 0), (0, .ref 0)]) (st' := []) (w' := wMr tp (cdB cd (200 * t) []) (upd (srL sr (4 * t) []) ((nI (4 * t + 0)).toNatClampNeg) (nI ([] : List Int32).length)) wo he (nI N) (nI t) (nI (lkF tp N 0).1) (nI (lkF tp N 0).2.1) (tkM (lkF tp N 0).2.2) v0 hm op (nI ([] : List Int32).length) J K) (Ps := [vp_in (nI (4 * t + 0)) 24]) rfl ⟨(vp_in_nI (by omega) (by omega)), trivial⟩ ?_
          rw [nI_clamp (n := (4 * t + 0)) (by omega)]
          refine ww_run 46 1 (pc' := 79) (lv' := [(1, .int 0), (2, .int 0), (0, .ref 0)]) (st' := [.int 0]) (w' := wMr tp (cdB cd (200 * t) []) (srL sr (4 * t) [([] : List Int32).length]) wo he (nI N) (nI t) (nI (lkF tp N 0).1) (nI (lkF tp N 0).2.1) (tkM (lkF tp N 0).2.2) v0 hm op (nI ([] : List Int32).length) J K) (Ps := []) rfl trivial ?_
          refine ww_if_eq 47 rfl (tgt := 93) rfl (fun c5 => ?_) (fun c5 => ?_)
          · refine ww_run 53 4 (pc' := 26) (lv' := [(2, .int (0 + 1)), (1, .int 0), (0, .ref 0)]) (st' := []) (w' := wMr tp (cdB cd (200 * t) []) (srL sr (4 * t) [([] : List Int32).length]) wo he (nI N) (nI t) (nI (lkF tp N 0).1) (nI (lkF tp N 0).2.1) (tkM (lkF tp N 0).2.2) v0 hm op (nI ([] : List Int32).length) J K) (Ps := []) rfl trivial ?_
            rw [show (0 : Int32) + 1 = 1 by decide]
            refine ww_run 16 2 (pc' := 28) (lv' := [(2, .int 1), (1, .int 0), (0, .ref 0)]) (st' := [.int 3, .int 1]) (w' := wMr tp (cdB cd (200 * t) []) (srL sr (4 * t) [([] : List Int32).length]) wo he (nI N) (nI t) (nI (lkF tp N 0).1) (nI (lkF tp N 0).2.1) (tkM (lkF tp N 0).2.2) v0 hm op (nI ([] : List Int32).length) J K) (Ps := []) rfl trivial ?_
            refine ww_icmp_ge 18 rfl (tgt := 101) rfl (fun c6 => ?_) (fun c6 => ?_)
            · exact absurd c6 (by decide)
            · refine ww_run 19 1 (pc' := 32) (lv' := [(2, .int 1), (1, .int 0), (0, .ref 0)]) (st' := [.int 0]) (w' := wMr tp (cdB cd (200 * t) []) (srL sr (4 * t) [([] : List Int32).length]) wo he (nI N) (nI t) (nI (lkF tp N 0).1) (nI (lkF tp N 0).2.1) (tkM (lkF tp N 0).2.2) v0 hm op (nI ([] : List Int32).length) J K) (Ps := []) rfl trivial ?_
              refine ww_if_eq 20 rfl (tgt := 101) rfl (fun c7 => ?_) (fun c7 => ?_)
              · refine ww_run 57 1 (pc' := 102) (lv' := [(2, .int 1), (1, .int 0), (0, .ref 0)]) (st' := [.int 0]) (w' := wMr tp (cdB cd (200 * t) []) (srL sr (4 * t) [([] : List Int32).length]) wo he (nI N) (nI t) (nI (lkF tp N 0).1) (nI (lkF tp N 0).2.1) (tkM (lkF tp N 0).2.2) v0 hm op (nI ([] : List Int32).length) J K) (Ps := []) rfl trivial ?_
                refine ww_if_eq 58 rfl (tgt := 122) rfl (fun c8 => ?_) (fun c8 => ?_)
                · refine ww_run 68 15 (pc' := 145) (lv' := [(2, .int 1), (1, .int 0), (0, .ref 0)]) (st' := [.int 0]) (w' := wMr tp (cdB cd (200 * t) []) (upd (srL sr (4 * t) [([] : List Int32).length]) (((4 * (nI t)) + 3).toNatClampNeg) (nI ([] : List Int32).length)) wo he 0 (nI t) (nI (lkF tp N 0).1) (nI (lkF tp N 0).2.1) (tkM (lkF tp N 0).2.2) v0 hm op (nI ([] : List Int32).length) J K) (Ps := [vp_in ((4 * (nI t)) + 3) 24]) rfl ⟨(by rw [show (4 : Int32) * nI t = nI (4 * t) from pk_mul 4 t, show nI (4 * t) + (3 : Int32) = nI ((4 * t) + 3) from nI_add (4 * t) 3]; exact vp_in_nI (by omega) (by omega)), trivial⟩ ?_
                  rw [show (4 : Int32) * nI t = nI (4 * t) from pk_mul 4 t]
                  rw [show nI (4 * t) + (3 : Int32) = nI ((4 * t) + 3) from nI_add (4 * t) 3]
                  rw [nI_clamp (n := (4 * t + 3)) (by omega)]
                  refine ww_if_ne 83 rfl (tgt := 156) rfl (fun c9 => ?_) (fun c9 => ?_)
                  · exact absurd c9 (by decide)
                  · refine ww_run 84 4 (pc' := 155) (lv' := [(2, .int 1), (1, .int 0), (0, .ref 0)]) (st' := [.int ((-100) - (nI (lkF tp N 0).2.1))]) (w' := wMr tp (cdB cd (200 * t) []) (upd (srL sr (4 * t) [([] : List Int32).length]) ((4 * t + 3)) (nI ([] : List Int32).length)) wo he 0 (nI t) (nI (lkF tp N 0).1) (nI (lkF tp N 0).2.1) (tkM (lkF tp N 0).2.2) v0 hm op (nI ([] : List Int32).length) J K) (Ps := []) rfl trivial ?_
                    refine ww_iret 88 rfl rfl ?_
                    refine Or.inr (Or.inl ⟨_, [], (upd (srL sr (4 * t) [([] : List Int32).length]) ((4 * t + 3)) (nI ([] : List Int32).length)), _, _, _, _, _, _, _, _, ht, (by rw [rf_k hw0]), ?_, rfl, rfl⟩)
                    intro x hx
                    rw [pk_un (by omega)]
                    exact srL_lt _ x hx
                · exact absurd c8 (by decide)
              · exact absurd c7 (by decide)
          · exact absurd c5 (by decide)
        · refine ww_run 27 3 (pc' := 52) (lv' := [(2, .int 0), (1, .int 1), (0, .ref 0)]) (st' := [.int 0, .int v0]) (w' := wMr tp (cdB cd (200 * t) []) (srL sr (4 * t) []) wo he (nI N) (nI t) (nI (lkF tp N 0).1) (nI (lkF tp N 0).2.1) (tkM (lkF tp N 0).2.2) v0 hm op (nI ([] : List Int32).length) J K) (Ps := []) rfl trivial ?_
          refine ww_icmp_ne 30 rfl (tgt := 59) rfl (fun c10 => ?_) (fun c10 => ?_)
          · refine ww_run 33 1 (pc' := 60) (lv' := [(2, .int 0), (1, .int 1), (0, .ref 0)]) (st' := [.int 0]) (w' := wMr tp (cdB cd (200 * t) []) (srL sr (4 * t) []) wo he (nI N) (nI t) (nI (lkF tp N 0).1) (nI (lkF tp N 0).2.1) (tkM (lkF tp N 0).2.2) v0 hm op (nI ([] : List Int32).length) J K) (Ps := []) rfl trivial ?_
            have hw0 : ¬ (lkF tp N 0).2.2 = -10 - nI 0 := kw_no (by decide) hvl0 (Or.inr c10)
            refine ww_run 34 9 (pc' := 73) (lv' := [(1, .int 0), (2, .int 0), (0, .ref 0)]) (st' := [.int ((4 * (nI t)) + 0), .ref 7]) (w' := wMr tp (cdB cd (200 * t) []) (srL sr (4 * t) []) wo he (nI N) (nI t) (nI (lkF tp N 0).1) (nI (lkF tp N 0).2.1) (tkM (lkF tp N 0).2.2) v0 hm op (nI ([] : List Int32).length) J K) (Ps := []) rfl trivial ?_
            rw [show (4 : Int32) * nI t = nI (4 * t) from pk_mul 4 t]
            rw [show nI (4 * t) + (0 : Int32) = nI (4 * t + 0) from nI_add (4 * t) 0]
            refine ww_run 43 3 (pc' := 78) (lv' := [(1, .int 0), (2, .int 0), (0, .ref 0)]) (st' := []) (w' := wMr tp (cdB cd (200 * t) []) (upd (srL sr (4 * t) []) ((nI (4 * t + 0)).toNatClampNeg) (nI ([] : List Int32).length)) wo he (nI N) (nI t) (nI (lkF tp N 0).1) (nI (lkF tp N 0).2.1) (tkM (lkF tp N 0).2.2) v0 hm op (nI ([] : List Int32).length) J K) (Ps := [vp_in (nI (4 * t + 0)) 24]) rfl ⟨(vp_in_nI (by omega) (by omega)), trivial⟩ ?_
            rw [nI_clamp (n := (4 * t + 0)) (by omega)]
            refine ww_run 46 1 (pc' := 79) (lv' := [(1, .int 0), (2, .int 0), (0, .ref 0)]) (st' := [.int 0]) (w' := wMr tp (cdB cd (200 * t) []) (srL sr (4 * t) [([] : List Int32).length]) wo he (nI N) (nI t) (nI (lkF tp N 0).1) (nI (lkF tp N 0).2.1) (tkM (lkF tp N 0).2.2) v0 hm op (nI ([] : List Int32).length) J K) (Ps := []) rfl trivial ?_
            refine ww_if_eq 47 rfl (tgt := 93) rfl (fun c11 => ?_) (fun c11 => ?_)
            · refine ww_run 53 4 (pc' := 26) (lv' := [(2, .int (0 + 1)), (1, .int 0), (0, .ref 0)]) (st' := []) (w' := wMr tp (cdB cd (200 * t) []) (srL sr (4 * t) [([] : List Int32).length]) wo he (nI N) (nI t) (nI (lkF tp N 0).1) (nI (lkF tp N 0).2.1) (tkM (lkF tp N 0).2.2) v0 hm op (nI ([] : List Int32).length) J K) (Ps := []) rfl trivial ?_
              rw [show (0 : Int32) + 1 = 1 by decide]
              refine ww_run 16 2 (pc' := 28) (lv' := [(2, .int 1), (1, .int 0), (0, .ref 0)]) (st' := [.int 3, .int 1]) (w' := wMr tp (cdB cd (200 * t) []) (srL sr (4 * t) [([] : List Int32).length]) wo he (nI N) (nI t) (nI (lkF tp N 0).1) (nI (lkF tp N 0).2.1) (tkM (lkF tp N 0).2.2) v0 hm op (nI ([] : List Int32).length) J K) (Ps := []) rfl trivial ?_
              refine ww_icmp_ge 18 rfl (tgt := 101) rfl (fun c12 => ?_) (fun c12 => ?_)
              · exact absurd c12 (by decide)
              · refine ww_run 19 1 (pc' := 32) (lv' := [(2, .int 1), (1, .int 0), (0, .ref 0)]) (st' := [.int 0]) (w' := wMr tp (cdB cd (200 * t) []) (srL sr (4 * t) [([] : List Int32).length]) wo he (nI N) (nI t) (nI (lkF tp N 0).1) (nI (lkF tp N 0).2.1) (tkM (lkF tp N 0).2.2) v0 hm op (nI ([] : List Int32).length) J K) (Ps := []) rfl trivial ?_
                refine ww_if_eq 20 rfl (tgt := 101) rfl (fun c13 => ?_) (fun c13 => ?_)
                · refine ww_run 57 1 (pc' := 102) (lv' := [(2, .int 1), (1, .int 0), (0, .ref 0)]) (st' := [.int 0]) (w' := wMr tp (cdB cd (200 * t) []) (srL sr (4 * t) [([] : List Int32).length]) wo he (nI N) (nI t) (nI (lkF tp N 0).1) (nI (lkF tp N 0).2.1) (tkM (lkF tp N 0).2.2) v0 hm op (nI ([] : List Int32).length) J K) (Ps := []) rfl trivial ?_
                  refine ww_if_eq 58 rfl (tgt := 122) rfl (fun c14 => ?_) (fun c14 => ?_)
                  · refine ww_run 68 15 (pc' := 145) (lv' := [(2, .int 1), (1, .int 0), (0, .ref 0)]) (st' := [.int 0]) (w' := wMr tp (cdB cd (200 * t) []) (upd (srL sr (4 * t) [([] : List Int32).length]) (((4 * (nI t)) + 3).toNatClampNeg) (nI ([] : List Int32).length)) wo he 0 (nI t) (nI (lkF tp N 0).1) (nI (lkF tp N 0).2.1) (tkM (lkF tp N 0).2.2) v0 hm op (nI ([] : List Int32).length) J K) (Ps := [vp_in ((4 * (nI t)) + 3) 24]) rfl ⟨(by rw [show (4 : Int32) * nI t = nI (4 * t) from pk_mul 4 t, show nI (4 * t) + (3 : Int32) = nI ((4 * t) + 3) from nI_add (4 * t) 3]; exact vp_in_nI (by omega) (by omega)), trivial⟩ ?_
                    rw [show (4 : Int32) * nI t = nI (4 * t) from pk_mul 4 t]
                    rw [show nI (4 * t) + (3 : Int32) = nI ((4 * t) + 3) from nI_add (4 * t) 3]
                    rw [nI_clamp (n := (4 * t + 3)) (by omega)]
                    refine ww_if_ne 83 rfl (tgt := 156) rfl (fun c15 => ?_) (fun c15 => ?_)
                    · exact absurd c15 (by decide)
                    · refine ww_run 84 4 (pc' := 155) (lv' := [(2, .int 1), (1, .int 0), (0, .ref 0)]) (st' := [.int ((-100) - (nI (lkF tp N 0).2.1))]) (w' := wMr tp (cdB cd (200 * t) []) (upd (srL sr (4 * t) [([] : List Int32).length]) ((4 * t + 3)) (nI ([] : List Int32).length)) wo he 0 (nI t) (nI (lkF tp N 0).1) (nI (lkF tp N 0).2.1) (tkM (lkF tp N 0).2.2) v0 hm op (nI ([] : List Int32).length) J K) (Ps := []) rfl trivial ?_
                      refine ww_iret 88 rfl rfl ?_
                      refine Or.inr (Or.inl ⟨_, [], (upd (srL sr (4 * t) [([] : List Int32).length]) ((4 * t + 3)) (nI ([] : List Int32).length)), _, _, _, _, _, _, _, _, ht, (by rw [rf_k hw0]), ?_, rfl, rfl⟩)
                      intro x hx
                      rw [pk_un (by omega)]
                      exact srL_lt _ x hx
                  · exact absurd c14 (by decide)
                · exact absurd c13 (by decide)
            · exact absurd c11 (by decide)
          · refine ww_run 31 2 (pc' := 60) (lv' := [(2, .int 0), (1, .int 1), (0, .ref 0)]) (st' := [.int 1]) (w' := wMr tp (cdB cd (200 * t) []) (srL sr (4 * t) []) wo he (nI N) (nI t) (nI (lkF tp N 0).1) (nI (lkF tp N 0).2.1) (tkM (lkF tp N 0).2.2) v0 hm op (nI ([] : List Int32).length) J K) (Ps := []) rfl trivial ?_
            have hw0 : (lkF tp N 0).2.2 = -10 - nI 0 := kw_ok (by decide) c4 hvl0 c10
            refine ww_run 34 9 (pc' := 73) (lv' := [(1, .int 1), (2, .int 0), (0, .ref 0)]) (st' := [.int ((4 * (nI t)) + 0), .ref 7]) (w' := wMr tp (cdB cd (200 * t) []) (srL sr (4 * t) []) wo he (nI N) (nI t) (nI (lkF tp N 0).1) (nI (lkF tp N 0).2.1) (tkM (lkF tp N 0).2.2) v0 hm op (nI ([] : List Int32).length) J K) (Ps := []) rfl trivial ?_
            rw [show (4 : Int32) * nI t = nI (4 * t) from pk_mul 4 t]
            rw [show nI (4 * t) + (0 : Int32) = nI (4 * t + 0) from nI_add (4 * t) 0]
            refine ww_run 43 3 (pc' := 78) (lv' := [(1, .int 1), (2, .int 0), (0, .ref 0)]) (st' := []) (w' := wMr tp (cdB cd (200 * t) []) (upd (srL sr (4 * t) []) ((nI (4 * t + 0)).toNatClampNeg) (nI ([] : List Int32).length)) wo he (nI N) (nI t) (nI (lkF tp N 0).1) (nI (lkF tp N 0).2.1) (tkM (lkF tp N 0).2.2) v0 hm op (nI ([] : List Int32).length) J K) (Ps := [vp_in (nI (4 * t + 0)) 24]) rfl ⟨(vp_in_nI (by omega) (by omega)), trivial⟩ ?_
            rw [nI_clamp (n := (4 * t + 0)) (by omega)]
            refine ww_run 46 1 (pc' := 79) (lv' := [(1, .int 1), (2, .int 0), (0, .ref 0)]) (st' := [.int 1]) (w' := wMr tp (cdB cd (200 * t) []) (srL sr (4 * t) [([] : List Int32).length]) wo he (nI N) (nI t) (nI (lkF tp N 0).1) (nI (lkF tp N 0).2.1) (tkM (lkF tp N 0).2.2) v0 hm op (nI ([] : List Int32).length) J K) (Ps := []) rfl trivial ?_
            refine ww_if_eq 47 rfl (tgt := 93) rfl (fun c16 => ?_) (fun c16 => ?_)
            · exact absurd c16 (by decide)
            · refine ww_run 48 1 (pc' := 83) (lv' := [(1, .int 1), (2, .int 0), (0, .ref 0)]) (st' := [.ref 0]) (w' := wMr tp (cdB cd (200 * t) []) (srL sr (4 * t) [([] : List Int32).length]) wo he (nI N) (nI t) (nI (lkF tp N 0).1) (nI (lkF tp N 0).2.1) (tkM (lkF tp N 0).2.2) v0 hm op (nI ([] : List Int32).length) J K) (Ps := []) rfl trivial ?_
              refine ww_cV 49 ok_X7_eRead (m_eRead tp (srL sr (4 * t) [([] : List Int32).length]) wo he (nI (lkF tp N 0).2.1) (tkM (lkF tp N 0).2.2) v0 hm op J K cd N t ((lkF tp N 0).1) hN ht hk0.1 [] (by exact Nat.zero_le _) hwo) lk_X7_180 rfl (by omega) (rest := []) rfl (Nat.le_of_ble_eq_true rfl) rfl rfl rfl rfl (fun r w' hq => ?_)
              rcases hq with ⟨a0, O0, he0, hm0, op0, pt0, tk0, vl0, hY0, rfl, rfl⟩ | ⟨O0, p0, he0, hm0, op0, bg0, tk0, vl0, hY0, hp0, hO0, rfl, rfl⟩
              · skip
                refine ww_if_eq 50 rfl (tgt := 93) rfl (fun c17 => ?_) (fun c17 => ?_)
                · refine ww_run 53 4 (pc' := 26) (lv' := [(2, .int (0 + 1)), (1, .int 0), (0, .ref 0)]) (st' := []) (w' := wMr tp (cdB cd (200 * t) O0) (srL sr (4 * t) [([] : List Int32).length]) wo he0 (nI N) (nI t) pt0 (nI a0) tk0 vl0 hm0 op0 (nI O0.length) J K) (Ps := []) rfl trivial ?_
                  rw [show (0 : Int32) + 1 = 1 by decide]
                  refine ww_run 16 2 (pc' := 28) (lv' := [(2, .int 1), (1, .int 0), (0, .ref 0)]) (st' := [.int 3, .int 1]) (w' := wMr tp (cdB cd (200 * t) O0) (srL sr (4 * t) [([] : List Int32).length]) wo he0 (nI N) (nI t) pt0 (nI a0) tk0 vl0 hm0 op0 (nI O0.length) J K) (Ps := []) rfl trivial ?_
                  refine ww_icmp_ge 18 rfl (tgt := 101) rfl (fun c18 => ?_) (fun c18 => ?_)
                  · exact absurd c18 (by decide)
                  · refine ww_run 19 1 (pc' := 32) (lv' := [(2, .int 1), (1, .int 0), (0, .ref 0)]) (st' := [.int 0]) (w' := wMr tp (cdB cd (200 * t) O0) (srL sr (4 * t) [([] : List Int32).length]) wo he0 (nI N) (nI t) pt0 (nI a0) tk0 vl0 hm0 op0 (nI O0.length) J K) (Ps := []) rfl trivial ?_
                    refine ww_if_eq 20 rfl (tgt := 101) rfl (fun c19 => ?_) (fun c19 => ?_)
                    · refine ww_run 57 1 (pc' := 102) (lv' := [(2, .int 1), (1, .int 0), (0, .ref 0)]) (st' := [.int 0]) (w' := wMr tp (cdB cd (200 * t) O0) (srL sr (4 * t) [([] : List Int32).length]) wo he0 (nI N) (nI t) pt0 (nI a0) tk0 vl0 hm0 op0 (nI O0.length) J K) (Ps := []) rfl trivial ?_
                      refine ww_if_eq 58 rfl (tgt := 122) rfl (fun c20 => ?_) (fun c20 => ?_)
                      · refine ww_run 68 15 (pc' := 145) (lv' := [(2, .int 1), (1, .int 0), (0, .ref 0)]) (st' := [.int 0]) (w' := wMr tp (cdB cd (200 * t) O0) (upd (srL sr (4 * t) [([] : List Int32).length]) (((4 * (nI t)) + 3).toNatClampNeg) (nI O0.length)) wo he0 0 (nI t) pt0 (nI a0) tk0 vl0 hm0 op0 (nI O0.length) J K) (Ps := [vp_in ((4 * (nI t)) + 3) 24]) rfl ⟨(by rw [show (4 : Int32) * nI t = nI (4 * t) from pk_mul 4 t, show nI (4 * t) + (3 : Int32) = nI ((4 * t) + 3) from nI_add (4 * t) 3]; exact vp_in_nI (by omega) (by omega)), trivial⟩ ?_
                        rw [show (4 : Int32) * nI t = nI (4 * t) from pk_mul 4 t]
                        rw [show nI (4 * t) + (3 : Int32) = nI ((4 * t) + 3) from nI_add (4 * t) 3]
                        rw [nI_clamp (n := (4 * t + 3)) (by omega)]
                        refine ww_if_ne 83 rfl (tgt := 156) rfl (fun c21 => ?_) (fun c21 => ?_)
                        · exact absurd c21 (by decide)
                        · refine ww_run 84 4 (pc' := 155) (lv' := [(2, .int 1), (1, .int 0), (0, .ref 0)]) (st' := [.int ((-100) - (nI a0))]) (w' := wMr tp (cdB cd (200 * t) O0) (upd (srL sr (4 * t) [([] : List Int32).length]) ((4 * t + 3)) (nI O0.length)) wo he0 0 (nI t) pt0 (nI a0) tk0 vl0 hm0 op0 (nI O0.length) J K) (Ps := []) rfl trivial ?_
                          refine ww_iret 88 rfl rfl ?_
                          refine Or.inr (Or.inl ⟨a0, O0, (upd (srL sr (4 * t) [([] : List Int32).length]) ((4 * t + 3)) (nI O0.length)), _, _, _, _, _, _, _, _, ht, (by rw [rf_y hw0 hY0]), ?_, rfl, rfl⟩)
                          intro x hx
                          rw [pk_un (by omega)]
                          exact srL_lt _ x hx
                      · exact absurd c20 (by decide)
                    · exact absurd c19 (by decide)
                · exact absurd c17 (by decide)
              · skip
                refine ww_if_eq 50 rfl (tgt := 93) rfl (fun c22 => ?_) (fun c22 => ?_)
                · exact absurd c22 (by decide)
                · refine ww_run 51 2 (pc' := 94) (lv' := [(1, .int 1), (2, .int 0), (0, .ref 0)]) (st' := [.int 1]) (w' := wMr tp (cdB cd (200 * t) O0) (srL sr (4 * t) [([] : List Int32).length]) wo he0 (nI N) (nI t) (nI p0) bg0 tk0 vl0 hm0 op0 (nI O0.length) J K) (Ps := []) rfl trivial ?_
                  refine ww_run 54 3 (pc' := 26) (lv' := [(2, .int (0 + 1)), (1, .int 1), (0, .ref 0)]) (st' := []) (w' := wMr tp (cdB cd (200 * t) O0) (srL sr (4 * t) [([] : List Int32).length]) wo he0 (nI N) (nI t) (nI p0) bg0 tk0 vl0 hm0 op0 (nI O0.length) J K) (Ps := []) rfl trivial ?_
                  rw [show (0 : Int32) + 1 = 1 by decide]
                  refine ww_run 16 2 (pc' := 28) (lv' := [(2, .int 1), (1, .int 1), (0, .ref 0)]) (st' := [.int 3, .int 1]) (w' := wMr tp (cdB cd (200 * t) O0) (srL sr (4 * t) [([] : List Int32).length]) wo he0 (nI N) (nI t) (nI p0) bg0 tk0 vl0 hm0 op0 (nI O0.length) J K) (Ps := []) rfl trivial ?_
                  refine ww_icmp_ge 18 rfl (tgt := 101) rfl (fun c23 => ?_) (fun c23 => ?_)
                  · exact absurd c23 (by decide)
                  · refine ww_run 19 1 (pc' := 32) (lv' := [(2, .int 1), (1, .int 1), (0, .ref 0)]) (st' := [.int 1]) (w' := wMr tp (cdB cd (200 * t) O0) (srL sr (4 * t) [([] : List Int32).length]) wo he0 (nI N) (nI t) (nI p0) bg0 tk0 vl0 hm0 op0 (nI O0.length) J K) (Ps := []) rfl trivial ?_
                    refine ww_if_eq 20 rfl (tgt := 101) rfl (fun c24 => ?_) (fun c24 => ?_)
                    · exact absurd c24 (by decide)
                    · refine ww_run 21 1 (pc' := 36) (lv' := [(2, .int 1), (1, .int 1), (0, .ref 0)]) (st' := [.ref 0]) (w' := wMr tp (cdB cd (200 * t) O0) (srL sr (4 * t) [([] : List Int32).length]) wo he0 (nI N) (nI t) (nI p0) bg0 tk0 vl0 hm0 op0 (nI O0.length) J K) (Ps := []) rfl trivial ?_
                      refine ww_cV 22 ok_X7_next (m_next tp (cdB cd (200 * t) O0) (srL sr (4 * t) [([] : List Int32).length]) wo he0 (nI t) bg0 tk0 vl0 hm0 op0 (nI O0.length) J K N p0 hN hp0 hwo) lk_X7_167 rfl (by omega) (rest := []) rfl (Nat.le_of_ble_eq_true rfl) rfl rfl rfl rfl (fun r w' hq => ?_)
                      obtain ⟨rfl, v1, hvl1, rfl⟩ := hq
                      have hk1 := (lkF_gt (B := tp) (N := N) (p := p0) hp0).2.2
                      refine ww_run 23 3 (pc' := 44) (lv' := [(2, .int 1), (1, .int 1), (0, .ref 0)]) (st' := [.int 3, .int (tkM (lkF tp N p0).2.2)]) (w' := wMr tp (cdB cd (200 * t) O0) (srL sr (4 * t) [([] : List Int32).length]) wo he0 (nI N) (nI t) (nI (lkF tp N p0).1) (nI (lkF tp N p0).2.1) (tkM (lkF tp N p0).2.2) v1 hm0 op0 (nI O0.length) J K) (Ps := []) rfl trivial ?_
                      refine ww_icmp_ne 26 rfl (tgt := 59) rfl (fun c25 => ?_) (fun c25 => ?_)
                      · refine ww_run 33 1 (pc' := 60) (lv' := [(2, .int 1), (1, .int 1), (0, .ref 0)]) (st' := [.int 0]) (w' := wMr tp (cdB cd (200 * t) O0) (srL sr (4 * t) [([] : List Int32).length]) wo he0 (nI N) (nI t) (nI (lkF tp N p0).1) (nI (lkF tp N p0).2.1) (tkM (lkF tp N p0).2.2) v1 hm0 op0 (nI O0.length) J K) (Ps := []) rfl trivial ?_
                        have hw1 : ¬ (lkF tp N p0).2.2 = -10 - nI 1 := kw_no (by decide) hvl1 (Or.inl c25)
                        refine ww_run 34 9 (pc' := 73) (lv' := [(1, .int 0), (2, .int 1), (0, .ref 0)]) (st' := [.int ((4 * (nI t)) + 1), .ref 7]) (w' := wMr tp (cdB cd (200 * t) O0) (srL sr (4 * t) [([] : List Int32).length]) wo he0 (nI N) (nI t) (nI (lkF tp N p0).1) (nI (lkF tp N p0).2.1) (tkM (lkF tp N p0).2.2) v1 hm0 op0 (nI O0.length) J K) (Ps := []) rfl trivial ?_
                        rw [show (4 : Int32) * nI t = nI (4 * t) from pk_mul 4 t]
                        rw [nI_1 (4 * t)]
                        refine ww_run 43 3 (pc' := 78) (lv' := [(1, .int 0), (2, .int 1), (0, .ref 0)]) (st' := []) (w' := wMr tp (cdB cd (200 * t) O0) (upd (srL sr (4 * t) [([] : List Int32).length]) ((nI ((4 * t) + 1)).toNatClampNeg) (nI O0.length)) wo he0 (nI N) (nI t) (nI (lkF tp N p0).1) (nI (lkF tp N p0).2.1) (tkM (lkF tp N p0).2.2) v1 hm0 op0 (nI O0.length) J K) (Ps := [vp_in (nI ((4 * t) + 1)) 24]) rfl ⟨(vp_in_nI (by omega) (by omega)), trivial⟩ ?_
                        rw [nI_clamp (n := ((4 * t) + 1)) (by omega)]
                        refine ww_run 46 1 (pc' := 79) (lv' := [(1, .int 0), (2, .int 1), (0, .ref 0)]) (st' := [.int 0]) (w' := wMr tp (cdB cd (200 * t) O0) (srL sr (4 * t) [O0.length, ([] : List Int32).length]) wo he0 (nI N) (nI t) (nI (lkF tp N p0).1) (nI (lkF tp N p0).2.1) (tkM (lkF tp N p0).2.2) v1 hm0 op0 (nI O0.length) J K) (Ps := []) rfl trivial ?_
                        refine ww_if_eq 47 rfl (tgt := 93) rfl (fun c26 => ?_) (fun c26 => ?_)
                        · refine ww_run 53 4 (pc' := 26) (lv' := [(2, .int (1 + 1)), (1, .int 0), (0, .ref 0)]) (st' := []) (w' := wMr tp (cdB cd (200 * t) O0) (srL sr (4 * t) [O0.length, ([] : List Int32).length]) wo he0 (nI N) (nI t) (nI (lkF tp N p0).1) (nI (lkF tp N p0).2.1) (tkM (lkF tp N p0).2.2) v1 hm0 op0 (nI O0.length) J K) (Ps := []) rfl trivial ?_
                          rw [show (1 : Int32) + 1 = 2 by decide]
                          refine ww_run 16 2 (pc' := 28) (lv' := [(2, .int 2), (1, .int 0), (0, .ref 0)]) (st' := [.int 3, .int 2]) (w' := wMr tp (cdB cd (200 * t) O0) (srL sr (4 * t) [O0.length, ([] : List Int32).length]) wo he0 (nI N) (nI t) (nI (lkF tp N p0).1) (nI (lkF tp N p0).2.1) (tkM (lkF tp N p0).2.2) v1 hm0 op0 (nI O0.length) J K) (Ps := []) rfl trivial ?_
                          refine ww_icmp_ge 18 rfl (tgt := 101) rfl (fun c27 => ?_) (fun c27 => ?_)
                          · exact absurd c27 (by decide)
                          · refine ww_run 19 1 (pc' := 32) (lv' := [(2, .int 2), (1, .int 0), (0, .ref 0)]) (st' := [.int 0]) (w' := wMr tp (cdB cd (200 * t) O0) (srL sr (4 * t) [O0.length, ([] : List Int32).length]) wo he0 (nI N) (nI t) (nI (lkF tp N p0).1) (nI (lkF tp N p0).2.1) (tkM (lkF tp N p0).2.2) v1 hm0 op0 (nI O0.length) J K) (Ps := []) rfl trivial ?_
                            refine ww_if_eq 20 rfl (tgt := 101) rfl (fun c28 => ?_) (fun c28 => ?_)
                            · refine ww_run 57 1 (pc' := 102) (lv' := [(2, .int 2), (1, .int 0), (0, .ref 0)]) (st' := [.int 0]) (w' := wMr tp (cdB cd (200 * t) O0) (srL sr (4 * t) [O0.length, ([] : List Int32).length]) wo he0 (nI N) (nI t) (nI (lkF tp N p0).1) (nI (lkF tp N p0).2.1) (tkM (lkF tp N p0).2.2) v1 hm0 op0 (nI O0.length) J K) (Ps := []) rfl trivial ?_
                              refine ww_if_eq 58 rfl (tgt := 122) rfl (fun c29 => ?_) (fun c29 => ?_)
                              · refine ww_run 68 15 (pc' := 145) (lv' := [(2, .int 2), (1, .int 0), (0, .ref 0)]) (st' := [.int 0]) (w' := wMr tp (cdB cd (200 * t) O0) (upd (srL sr (4 * t) [O0.length, ([] : List Int32).length]) (((4 * (nI t)) + 3).toNatClampNeg) (nI O0.length)) wo he0 0 (nI t) (nI (lkF tp N p0).1) (nI (lkF tp N p0).2.1) (tkM (lkF tp N p0).2.2) v1 hm0 op0 (nI O0.length) J K) (Ps := [vp_in ((4 * (nI t)) + 3) 24]) rfl ⟨(by rw [show (4 : Int32) * nI t = nI (4 * t) from pk_mul 4 t, show nI (4 * t) + (3 : Int32) = nI ((4 * t) + 3) from nI_add (4 * t) 3]; exact vp_in_nI (by omega) (by omega)), trivial⟩ ?_
                                rw [show (4 : Int32) * nI t = nI (4 * t) from pk_mul 4 t]
                                rw [show nI (4 * t) + (3 : Int32) = nI ((4 * t) + 3) from nI_add (4 * t) 3]
                                rw [nI_clamp (n := (4 * t + 3)) (by omega)]
                                refine ww_if_ne 83 rfl (tgt := 156) rfl (fun c30 => ?_) (fun c30 => ?_)
                                · exact absurd c30 (by decide)
                                · refine ww_run 84 4 (pc' := 155) (lv' := [(2, .int 2), (1, .int 0), (0, .ref 0)]) (st' := [.int ((-100) - (nI (lkF tp N p0).2.1))]) (w' := wMr tp (cdB cd (200 * t) O0) (upd (srL sr (4 * t) [O0.length, ([] : List Int32).length]) ((4 * t + 3)) (nI O0.length)) wo he0 0 (nI t) (nI (lkF tp N p0).1) (nI (lkF tp N p0).2.1) (tkM (lkF tp N p0).2.2) v1 hm0 op0 (nI O0.length) J K) (Ps := []) rfl trivial ?_
                                  refine ww_iret 88 rfl rfl ?_
                                  refine Or.inr (Or.inl ⟨_, O0, (upd (srL sr (4 * t) [O0.length, ([] : List Int32).length]) ((4 * t + 3)) (nI O0.length)), _, _, _, _, _, _, _, _, ht, (by rw [rf_go hw0 hY0, rf_k hw1]), ?_, rfl, rfl⟩)
                                  intro x hx
                                  rw [pk_un (by omega)]
                                  exact srL_lt _ x hx
                              · exact absurd c29 (by decide)
                            · exact absurd c28 (by decide)
                        · exact absurd c26 (by decide)
                      · refine ww_run 27 3 (pc' := 52) (lv' := [(2, .int 1), (1, .int 1), (0, .ref 0)]) (st' := [.int 1, .int v1]) (w' := wMr tp (cdB cd (200 * t) O0) (srL sr (4 * t) [([] : List Int32).length]) wo he0 (nI N) (nI t) (nI (lkF tp N p0).1) (nI (lkF tp N p0).2.1) (tkM (lkF tp N p0).2.2) v1 hm0 op0 (nI O0.length) J K) (Ps := []) rfl trivial ?_
                        refine ww_icmp_ne 30 rfl (tgt := 59) rfl (fun c31 => ?_) (fun c31 => ?_)
                        · refine ww_run 33 1 (pc' := 60) (lv' := [(2, .int 1), (1, .int 1), (0, .ref 0)]) (st' := [.int 0]) (w' := wMr tp (cdB cd (200 * t) O0) (srL sr (4 * t) [([] : List Int32).length]) wo he0 (nI N) (nI t) (nI (lkF tp N p0).1) (nI (lkF tp N p0).2.1) (tkM (lkF tp N p0).2.2) v1 hm0 op0 (nI O0.length) J K) (Ps := []) rfl trivial ?_
                          have hw1 : ¬ (lkF tp N p0).2.2 = -10 - nI 1 := kw_no (by decide) hvl1 (Or.inr c31)
                          refine ww_run 34 9 (pc' := 73) (lv' := [(1, .int 0), (2, .int 1), (0, .ref 0)]) (st' := [.int ((4 * (nI t)) + 1), .ref 7]) (w' := wMr tp (cdB cd (200 * t) O0) (srL sr (4 * t) [([] : List Int32).length]) wo he0 (nI N) (nI t) (nI (lkF tp N p0).1) (nI (lkF tp N p0).2.1) (tkM (lkF tp N p0).2.2) v1 hm0 op0 (nI O0.length) J K) (Ps := []) rfl trivial ?_
                          rw [show (4 : Int32) * nI t = nI (4 * t) from pk_mul 4 t]
                          rw [nI_1 (4 * t)]
                          refine ww_run 43 3 (pc' := 78) (lv' := [(1, .int 0), (2, .int 1), (0, .ref 0)]) (st' := []) (w' := wMr tp (cdB cd (200 * t) O0) (upd (srL sr (4 * t) [([] : List Int32).length]) ((nI ((4 * t) + 1)).toNatClampNeg) (nI O0.length)) wo he0 (nI N) (nI t) (nI (lkF tp N p0).1) (nI (lkF tp N p0).2.1) (tkM (lkF tp N p0).2.2) v1 hm0 op0 (nI O0.length) J K) (Ps := [vp_in (nI ((4 * t) + 1)) 24]) rfl ⟨(vp_in_nI (by omega) (by omega)), trivial⟩ ?_
                          rw [nI_clamp (n := ((4 * t) + 1)) (by omega)]
                          refine ww_run 46 1 (pc' := 79) (lv' := [(1, .int 0), (2, .int 1), (0, .ref 0)]) (st' := [.int 0]) (w' := wMr tp (cdB cd (200 * t) O0) (srL sr (4 * t) [O0.length, ([] : List Int32).length]) wo he0 (nI N) (nI t) (nI (lkF tp N p0).1) (nI (lkF tp N p0).2.1) (tkM (lkF tp N p0).2.2) v1 hm0 op0 (nI O0.length) J K) (Ps := []) rfl trivial ?_
                          refine ww_if_eq 47 rfl (tgt := 93) rfl (fun c32 => ?_) (fun c32 => ?_)
                          · refine ww_run 53 4 (pc' := 26) (lv' := [(2, .int (1 + 1)), (1, .int 0), (0, .ref 0)]) (st' := []) (w' := wMr tp (cdB cd (200 * t) O0) (srL sr (4 * t) [O0.length, ([] : List Int32).length]) wo he0 (nI N) (nI t) (nI (lkF tp N p0).1) (nI (lkF tp N p0).2.1) (tkM (lkF tp N p0).2.2) v1 hm0 op0 (nI O0.length) J K) (Ps := []) rfl trivial ?_
                            rw [show (1 : Int32) + 1 = 2 by decide]
                            refine ww_run 16 2 (pc' := 28) (lv' := [(2, .int 2), (1, .int 0), (0, .ref 0)]) (st' := [.int 3, .int 2]) (w' := wMr tp (cdB cd (200 * t) O0) (srL sr (4 * t) [O0.length, ([] : List Int32).length]) wo he0 (nI N) (nI t) (nI (lkF tp N p0).1) (nI (lkF tp N p0).2.1) (tkM (lkF tp N p0).2.2) v1 hm0 op0 (nI O0.length) J K) (Ps := []) rfl trivial ?_
                            refine ww_icmp_ge 18 rfl (tgt := 101) rfl (fun c33 => ?_) (fun c33 => ?_)
                            · exact absurd c33 (by decide)
                            · refine ww_run 19 1 (pc' := 32) (lv' := [(2, .int 2), (1, .int 0), (0, .ref 0)]) (st' := [.int 0]) (w' := wMr tp (cdB cd (200 * t) O0) (srL sr (4 * t) [O0.length, ([] : List Int32).length]) wo he0 (nI N) (nI t) (nI (lkF tp N p0).1) (nI (lkF tp N p0).2.1) (tkM (lkF tp N p0).2.2) v1 hm0 op0 (nI O0.length) J K) (Ps := []) rfl trivial ?_
                              refine ww_if_eq 20 rfl (tgt := 101) rfl (fun c34 => ?_) (fun c34 => ?_)
                              · refine ww_run 57 1 (pc' := 102) (lv' := [(2, .int 2), (1, .int 0), (0, .ref 0)]) (st' := [.int 0]) (w' := wMr tp (cdB cd (200 * t) O0) (srL sr (4 * t) [O0.length, ([] : List Int32).length]) wo he0 (nI N) (nI t) (nI (lkF tp N p0).1) (nI (lkF tp N p0).2.1) (tkM (lkF tp N p0).2.2) v1 hm0 op0 (nI O0.length) J K) (Ps := []) rfl trivial ?_
                                refine ww_if_eq 58 rfl (tgt := 122) rfl (fun c35 => ?_) (fun c35 => ?_)
                                · refine ww_run 68 15 (pc' := 145) (lv' := [(2, .int 2), (1, .int 0), (0, .ref 0)]) (st' := [.int 0]) (w' := wMr tp (cdB cd (200 * t) O0) (upd (srL sr (4 * t) [O0.length, ([] : List Int32).length]) (((4 * (nI t)) + 3).toNatClampNeg) (nI O0.length)) wo he0 0 (nI t) (nI (lkF tp N p0).1) (nI (lkF tp N p0).2.1) (tkM (lkF tp N p0).2.2) v1 hm0 op0 (nI O0.length) J K) (Ps := [vp_in ((4 * (nI t)) + 3) 24]) rfl ⟨(by rw [show (4 : Int32) * nI t = nI (4 * t) from pk_mul 4 t, show nI (4 * t) + (3 : Int32) = nI ((4 * t) + 3) from nI_add (4 * t) 3]; exact vp_in_nI (by omega) (by omega)), trivial⟩ ?_
                                  rw [show (4 : Int32) * nI t = nI (4 * t) from pk_mul 4 t]
                                  rw [show nI (4 * t) + (3 : Int32) = nI ((4 * t) + 3) from nI_add (4 * t) 3]
                                  rw [nI_clamp (n := (4 * t + 3)) (by omega)]
                                  refine ww_if_ne 83 rfl (tgt := 156) rfl (fun c36 => ?_) (fun c36 => ?_)
                                  · exact absurd c36 (by decide)
                                  · refine ww_run 84 4 (pc' := 155) (lv' := [(2, .int 2), (1, .int 0), (0, .ref 0)]) (st' := [.int ((-100) - (nI (lkF tp N p0).2.1))]) (w' := wMr tp (cdB cd (200 * t) O0) (upd (srL sr (4 * t) [O0.length, ([] : List Int32).length]) ((4 * t + 3)) (nI O0.length)) wo he0 0 (nI t) (nI (lkF tp N p0).1) (nI (lkF tp N p0).2.1) (tkM (lkF tp N p0).2.2) v1 hm0 op0 (nI O0.length) J K) (Ps := []) rfl trivial ?_
                                    refine ww_iret 88 rfl rfl ?_
                                    refine Or.inr (Or.inl ⟨_, O0, (upd (srL sr (4 * t) [O0.length, ([] : List Int32).length]) ((4 * t + 3)) (nI O0.length)), _, _, _, _, _, _, _, _, ht, (by rw [rf_go hw0 hY0, rf_k hw1]), ?_, rfl, rfl⟩)
                                    intro x hx
                                    rw [pk_un (by omega)]
                                    exact srL_lt _ x hx
                                · exact absurd c35 (by decide)
                              · exact absurd c34 (by decide)
                          · exact absurd c32 (by decide)
                        · refine ww_run 31 2 (pc' := 60) (lv' := [(2, .int 1), (1, .int 1), (0, .ref 0)]) (st' := [.int 1]) (w' := wMr tp (cdB cd (200 * t) O0) (srL sr (4 * t) [([] : List Int32).length]) wo he0 (nI N) (nI t) (nI (lkF tp N p0).1) (nI (lkF tp N p0).2.1) (tkM (lkF tp N p0).2.2) v1 hm0 op0 (nI O0.length) J K) (Ps := []) rfl trivial ?_
                          have hw1 : (lkF tp N p0).2.2 = -10 - nI 1 := kw_ok (by decide) c25 hvl1 c31
                          refine ww_run 34 9 (pc' := 73) (lv' := [(1, .int 1), (2, .int 1), (0, .ref 0)]) (st' := [.int ((4 * (nI t)) + 1), .ref 7]) (w' := wMr tp (cdB cd (200 * t) O0) (srL sr (4 * t) [([] : List Int32).length]) wo he0 (nI N) (nI t) (nI (lkF tp N p0).1) (nI (lkF tp N p0).2.1) (tkM (lkF tp N p0).2.2) v1 hm0 op0 (nI O0.length) J K) (Ps := []) rfl trivial ?_
                          rw [show (4 : Int32) * nI t = nI (4 * t) from pk_mul 4 t]
                          rw [nI_1 (4 * t)]
                          refine ww_run 43 3 (pc' := 78) (lv' := [(1, .int 1), (2, .int 1), (0, .ref 0)]) (st' := []) (w' := wMr tp (cdB cd (200 * t) O0) (upd (srL sr (4 * t) [([] : List Int32).length]) ((nI ((4 * t) + 1)).toNatClampNeg) (nI O0.length)) wo he0 (nI N) (nI t) (nI (lkF tp N p0).1) (nI (lkF tp N p0).2.1) (tkM (lkF tp N p0).2.2) v1 hm0 op0 (nI O0.length) J K) (Ps := [vp_in (nI ((4 * t) + 1)) 24]) rfl ⟨(vp_in_nI (by omega) (by omega)), trivial⟩ ?_
                          rw [nI_clamp (n := ((4 * t) + 1)) (by omega)]
                          refine ww_run 46 1 (pc' := 79) (lv' := [(1, .int 1), (2, .int 1), (0, .ref 0)]) (st' := [.int 1]) (w' := wMr tp (cdB cd (200 * t) O0) (srL sr (4 * t) [O0.length, ([] : List Int32).length]) wo he0 (nI N) (nI t) (nI (lkF tp N p0).1) (nI (lkF tp N p0).2.1) (tkM (lkF tp N p0).2.2) v1 hm0 op0 (nI O0.length) J K) (Ps := []) rfl trivial ?_
                          refine ww_if_eq 47 rfl (tgt := 93) rfl (fun c37 => ?_) (fun c37 => ?_)
                          · exact absurd c37 (by decide)
                          · refine ww_run 48 1 (pc' := 83) (lv' := [(1, .int 1), (2, .int 1), (0, .ref 0)]) (st' := [.ref 0]) (w' := wMr tp (cdB cd (200 * t) O0) (srL sr (4 * t) [O0.length, ([] : List Int32).length]) wo he0 (nI N) (nI t) (nI (lkF tp N p0).1) (nI (lkF tp N p0).2.1) (tkM (lkF tp N p0).2.2) v1 hm0 op0 (nI O0.length) J K) (Ps := []) rfl trivial ?_
                            refine ww_cV 49 ok_X7_eRead (m_eRead tp (srL sr (4 * t) [O0.length, ([] : List Int32).length]) wo he0 (nI (lkF tp N p0).2.1) (tkM (lkF tp N p0).2.2) v1 hm0 op0 J K cd N t ((lkF tp N p0).1) hN ht hk1.1 O0 (by have h9 := (lkF_gt (B := tp) (N := N) hp0).1; have h8 := hk1.2; have h7 : (lkF tp N p0).1 = N ∨ (lkF tp N p0).2.1 < (lkF tp N p0).1 := lk_pos hp0; omega) hwo) lk_X7_180 rfl (by omega) (rest := []) rfl (Nat.le_of_ble_eq_true rfl) rfl rfl rfl rfl (fun r w' hq => ?_)
                            rcases hq with ⟨a1, O1, he1, hm1, op1, pt1, tk1, vl1, hY1, rfl, rfl⟩ | ⟨O1, p1, he1, hm1, op1, bg1, tk1, vl1, hY1, hp1, hO1, rfl, rfl⟩
                            · skip
                              refine ww_if_eq 50 rfl (tgt := 93) rfl (fun c38 => ?_) (fun c38 => ?_)
                              · refine ww_run 53 4 (pc' := 26) (lv' := [(2, .int (1 + 1)), (1, .int 0), (0, .ref 0)]) (st' := []) (w' := wMr tp (cdB cd (200 * t) O1) (srL sr (4 * t) [O0.length, ([] : List Int32).length]) wo he1 (nI N) (nI t) pt1 (nI a1) tk1 vl1 hm1 op1 (nI O1.length) J K) (Ps := []) rfl trivial ?_
                                rw [show (1 : Int32) + 1 = 2 by decide]
                                refine ww_run 16 2 (pc' := 28) (lv' := [(2, .int 2), (1, .int 0), (0, .ref 0)]) (st' := [.int 3, .int 2]) (w' := wMr tp (cdB cd (200 * t) O1) (srL sr (4 * t) [O0.length, ([] : List Int32).length]) wo he1 (nI N) (nI t) pt1 (nI a1) tk1 vl1 hm1 op1 (nI O1.length) J K) (Ps := []) rfl trivial ?_
                                refine ww_icmp_ge 18 rfl (tgt := 101) rfl (fun c39 => ?_) (fun c39 => ?_)
                                · exact absurd c39 (by decide)
                                · refine ww_run 19 1 (pc' := 32) (lv' := [(2, .int 2), (1, .int 0), (0, .ref 0)]) (st' := [.int 0]) (w' := wMr tp (cdB cd (200 * t) O1) (srL sr (4 * t) [O0.length, ([] : List Int32).length]) wo he1 (nI N) (nI t) pt1 (nI a1) tk1 vl1 hm1 op1 (nI O1.length) J K) (Ps := []) rfl trivial ?_
                                  refine ww_if_eq 20 rfl (tgt := 101) rfl (fun c40 => ?_) (fun c40 => ?_)
                                  · refine ww_run 57 1 (pc' := 102) (lv' := [(2, .int 2), (1, .int 0), (0, .ref 0)]) (st' := [.int 0]) (w' := wMr tp (cdB cd (200 * t) O1) (srL sr (4 * t) [O0.length, ([] : List Int32).length]) wo he1 (nI N) (nI t) pt1 (nI a1) tk1 vl1 hm1 op1 (nI O1.length) J K) (Ps := []) rfl trivial ?_
                                    refine ww_if_eq 58 rfl (tgt := 122) rfl (fun c41 => ?_) (fun c41 => ?_)
                                    · refine ww_run 68 15 (pc' := 145) (lv' := [(2, .int 2), (1, .int 0), (0, .ref 0)]) (st' := [.int 0]) (w' := wMr tp (cdB cd (200 * t) O1) (upd (srL sr (4 * t) [O0.length, ([] : List Int32).length]) (((4 * (nI t)) + 3).toNatClampNeg) (nI O1.length)) wo he1 0 (nI t) pt1 (nI a1) tk1 vl1 hm1 op1 (nI O1.length) J K) (Ps := [vp_in ((4 * (nI t)) + 3) 24]) rfl ⟨(by rw [show (4 : Int32) * nI t = nI (4 * t) from pk_mul 4 t, show nI (4 * t) + (3 : Int32) = nI ((4 * t) + 3) from nI_add (4 * t) 3]; exact vp_in_nI (by omega) (by omega)), trivial⟩ ?_
                                      rw [show (4 : Int32) * nI t = nI (4 * t) from pk_mul 4 t]
                                      rw [show nI (4 * t) + (3 : Int32) = nI ((4 * t) + 3) from nI_add (4 * t) 3]
                                      rw [nI_clamp (n := (4 * t + 3)) (by omega)]
                                      refine ww_if_ne 83 rfl (tgt := 156) rfl (fun c42 => ?_) (fun c42 => ?_)
                                      · exact absurd c42 (by decide)
                                      · refine ww_run 84 4 (pc' := 155) (lv' := [(2, .int 2), (1, .int 0), (0, .ref 0)]) (st' := [.int ((-100) - (nI a1))]) (w' := wMr tp (cdB cd (200 * t) O1) (upd (srL sr (4 * t) [O0.length, ([] : List Int32).length]) ((4 * t + 3)) (nI O1.length)) wo he1 0 (nI t) pt1 (nI a1) tk1 vl1 hm1 op1 (nI O1.length) J K) (Ps := []) rfl trivial ?_
                                        refine ww_iret 88 rfl rfl ?_
                                        refine Or.inr (Or.inl ⟨a1, O1, (upd (srL sr (4 * t) [O0.length, ([] : List Int32).length]) ((4 * t + 3)) (nI O1.length)), _, _, _, _, _, _, _, _, ht, (by rw [rf_go hw0 hY0, rf_y hw1 hY1]), ?_, rfl, rfl⟩)
                                        intro x hx
                                        rw [pk_un (by omega)]
                                        exact srL_lt _ x hx
                                    · exact absurd c41 (by decide)
                                  · exact absurd c40 (by decide)
                              · exact absurd c38 (by decide)
                            · skip
                              refine ww_if_eq 50 rfl (tgt := 93) rfl (fun c43 => ?_) (fun c43 => ?_)
                              · exact absurd c43 (by decide)
                              · refine ww_run 51 2 (pc' := 94) (lv' := [(1, .int 1), (2, .int 1), (0, .ref 0)]) (st' := [.int 1]) (w' := wMr tp (cdB cd (200 * t) O1) (srL sr (4 * t) [O0.length, ([] : List Int32).length]) wo he1 (nI N) (nI t) (nI p1) bg1 tk1 vl1 hm1 op1 (nI O1.length) J K) (Ps := []) rfl trivial ?_
                                refine ww_run 54 3 (pc' := 26) (lv' := [(2, .int (1 + 1)), (1, .int 1), (0, .ref 0)]) (st' := []) (w' := wMr tp (cdB cd (200 * t) O1) (srL sr (4 * t) [O0.length, ([] : List Int32).length]) wo he1 (nI N) (nI t) (nI p1) bg1 tk1 vl1 hm1 op1 (nI O1.length) J K) (Ps := []) rfl trivial ?_
                                rw [show (1 : Int32) + 1 = 2 by decide]
                                refine ww_run 16 2 (pc' := 28) (lv' := [(2, .int 2), (1, .int 1), (0, .ref 0)]) (st' := [.int 3, .int 2]) (w' := wMr tp (cdB cd (200 * t) O1) (srL sr (4 * t) [O0.length, ([] : List Int32).length]) wo he1 (nI N) (nI t) (nI p1) bg1 tk1 vl1 hm1 op1 (nI O1.length) J K) (Ps := []) rfl trivial ?_
                                refine ww_icmp_ge 18 rfl (tgt := 101) rfl (fun c44 => ?_) (fun c44 => ?_)
                                · exact absurd c44 (by decide)
                                · refine ww_run 19 1 (pc' := 32) (lv' := [(2, .int 2), (1, .int 1), (0, .ref 0)]) (st' := [.int 1]) (w' := wMr tp (cdB cd (200 * t) O1) (srL sr (4 * t) [O0.length, ([] : List Int32).length]) wo he1 (nI N) (nI t) (nI p1) bg1 tk1 vl1 hm1 op1 (nI O1.length) J K) (Ps := []) rfl trivial ?_
                                  refine ww_if_eq 20 rfl (tgt := 101) rfl (fun c45 => ?_) (fun c45 => ?_)
                                  · exact absurd c45 (by decide)
                                  · refine ww_run 21 1 (pc' := 36) (lv' := [(2, .int 2), (1, .int 1), (0, .ref 0)]) (st' := [.ref 0]) (w' := wMr tp (cdB cd (200 * t) O1) (srL sr (4 * t) [O0.length, ([] : List Int32).length]) wo he1 (nI N) (nI t) (nI p1) bg1 tk1 vl1 hm1 op1 (nI O1.length) J K) (Ps := []) rfl trivial ?_
                                    refine ww_cV 22 ok_X7_next (m_next tp (cdB cd (200 * t) O1) (srL sr (4 * t) [O0.length, ([] : List Int32).length]) wo he1 (nI t) bg1 tk1 vl1 hm1 op1 (nI O1.length) J K N p1 hN hp1 hwo) lk_X7_167 rfl (by omega) (rest := []) rfl (Nat.le_of_ble_eq_true rfl) rfl rfl rfl rfl (fun r w' hq => ?_)
                                    obtain ⟨rfl, v2, hvl2, rfl⟩ := hq
                                    have hk2 := (lkF_gt (B := tp) (N := N) (p := p1) hp1).2.2
                                    refine ww_run 23 3 (pc' := 44) (lv' := [(2, .int 2), (1, .int 1), (0, .ref 0)]) (st' := [.int 3, .int (tkM (lkF tp N p1).2.2)]) (w' := wMr tp (cdB cd (200 * t) O1) (srL sr (4 * t) [O0.length, ([] : List Int32).length]) wo he1 (nI N) (nI t) (nI (lkF tp N p1).1) (nI (lkF tp N p1).2.1) (tkM (lkF tp N p1).2.2) v2 hm1 op1 (nI O1.length) J K) (Ps := []) rfl trivial ?_
                                    refine ww_icmp_ne 26 rfl (tgt := 59) rfl (fun c46 => ?_) (fun c46 => ?_)
                                    · refine ww_run 33 1 (pc' := 60) (lv' := [(2, .int 2), (1, .int 1), (0, .ref 0)]) (st' := [.int 0]) (w' := wMr tp (cdB cd (200 * t) O1) (srL sr (4 * t) [O0.length, ([] : List Int32).length]) wo he1 (nI N) (nI t) (nI (lkF tp N p1).1) (nI (lkF tp N p1).2.1) (tkM (lkF tp N p1).2.2) v2 hm1 op1 (nI O1.length) J K) (Ps := []) rfl trivial ?_
                                      have hw2 : ¬ (lkF tp N p1).2.2 = -10 - nI 2 := kw_no (by decide) hvl2 (Or.inl c46)
                                      refine ww_run 34 9 (pc' := 73) (lv' := [(1, .int 0), (2, .int 2), (0, .ref 0)]) (st' := [.int ((4 * (nI t)) + 2), .ref 7]) (w' := wMr tp (cdB cd (200 * t) O1) (srL sr (4 * t) [O0.length, ([] : List Int32).length]) wo he1 (nI N) (nI t) (nI (lkF tp N p1).1) (nI (lkF tp N p1).2.1) (tkM (lkF tp N p1).2.2) v2 hm1 op1 (nI O1.length) J K) (Ps := []) rfl trivial ?_
                                      rw [show (4 : Int32) * nI t = nI (4 * t) from pk_mul 4 t]
                                      rw [show nI (4 * t) + (2 : Int32) = nI ((4 * t) + 2) from nI_add (4 * t) 2]
                                      refine ww_run 43 3 (pc' := 78) (lv' := [(1, .int 0), (2, .int 2), (0, .ref 0)]) (st' := []) (w' := wMr tp (cdB cd (200 * t) O1) (upd (srL sr (4 * t) [O0.length, ([] : List Int32).length]) ((nI (4 * t + 2)).toNatClampNeg) (nI O1.length)) wo he1 (nI N) (nI t) (nI (lkF tp N p1).1) (nI (lkF tp N p1).2.1) (tkM (lkF tp N p1).2.2) v2 hm1 op1 (nI O1.length) J K) (Ps := [vp_in (nI (4 * t + 2)) 24]) rfl ⟨(vp_in_nI (by omega) (by omega)), trivial⟩ ?_
                                      rw [nI_clamp (n := (4 * t + 2)) (by omega)]
                                      refine ww_run 46 1 (pc' := 79) (lv' := [(1, .int 0), (2, .int 2), (0, .ref 0)]) (st' := [.int 0]) (w' := wMr tp (cdB cd (200 * t) O1) (srL sr (4 * t) [O1.length, O0.length, ([] : List Int32).length]) wo he1 (nI N) (nI t) (nI (lkF tp N p1).1) (nI (lkF tp N p1).2.1) (tkM (lkF tp N p1).2.2) v2 hm1 op1 (nI O1.length) J K) (Ps := []) rfl trivial ?_
                                      refine ww_if_eq 47 rfl (tgt := 93) rfl (fun c47 => ?_) (fun c47 => ?_)
                                      · refine ww_run 53 4 (pc' := 26) (lv' := [(2, .int (2 + 1)), (1, .int 0), (0, .ref 0)]) (st' := []) (w' := wMr tp (cdB cd (200 * t) O1) (srL sr (4 * t) [O1.length, O0.length, ([] : List Int32).length]) wo he1 (nI N) (nI t) (nI (lkF tp N p1).1) (nI (lkF tp N p1).2.1) (tkM (lkF tp N p1).2.2) v2 hm1 op1 (nI O1.length) J K) (Ps := []) rfl trivial ?_
                                        rw [show (2 : Int32) + 1 = 3 by decide]
                                        refine ww_run 16 2 (pc' := 28) (lv' := [(2, .int 3), (1, .int 0), (0, .ref 0)]) (st' := [.int 3, .int 3]) (w' := wMr tp (cdB cd (200 * t) O1) (srL sr (4 * t) [O1.length, O0.length, ([] : List Int32).length]) wo he1 (nI N) (nI t) (nI (lkF tp N p1).1) (nI (lkF tp N p1).2.1) (tkM (lkF tp N p1).2.2) v2 hm1 op1 (nI O1.length) J K) (Ps := []) rfl trivial ?_
                                        refine ww_icmp_ge 18 rfl (tgt := 101) rfl (fun c48 => ?_) (fun c48 => ?_)
                                        · refine ww_run 57 1 (pc' := 102) (lv' := [(2, .int 3), (1, .int 0), (0, .ref 0)]) (st' := [.int 0]) (w' := wMr tp (cdB cd (200 * t) O1) (srL sr (4 * t) [O1.length, O0.length, ([] : List Int32).length]) wo he1 (nI N) (nI t) (nI (lkF tp N p1).1) (nI (lkF tp N p1).2.1) (tkM (lkF tp N p1).2.2) v2 hm1 op1 (nI O1.length) J K) (Ps := []) rfl trivial ?_
                                          refine ww_if_eq 58 rfl (tgt := 122) rfl (fun c49 => ?_) (fun c49 => ?_)
                                          · refine ww_run 68 15 (pc' := 145) (lv' := [(2, .int 3), (1, .int 0), (0, .ref 0)]) (st' := [.int 0]) (w' := wMr tp (cdB cd (200 * t) O1) (upd (srL sr (4 * t) [O1.length, O0.length, ([] : List Int32).length]) (((4 * (nI t)) + 3).toNatClampNeg) (nI O1.length)) wo he1 0 (nI t) (nI (lkF tp N p1).1) (nI (lkF tp N p1).2.1) (tkM (lkF tp N p1).2.2) v2 hm1 op1 (nI O1.length) J K) (Ps := [vp_in ((4 * (nI t)) + 3) 24]) rfl ⟨(by rw [show (4 : Int32) * nI t = nI (4 * t) from pk_mul 4 t, show nI (4 * t) + (3 : Int32) = nI ((4 * t) + 3) from nI_add (4 * t) 3]; exact vp_in_nI (by omega) (by omega)), trivial⟩ ?_
                                            rw [show (4 : Int32) * nI t = nI (4 * t) from pk_mul 4 t]
                                            rw [show nI (4 * t) + (3 : Int32) = nI ((4 * t) + 3) from nI_add (4 * t) 3]
                                            rw [nI_clamp (n := (4 * t + 3)) (by omega)]
                                            refine ww_if_ne 83 rfl (tgt := 156) rfl (fun c50 => ?_) (fun c50 => ?_)
                                            · exact absurd c50 (by decide)
                                            · refine ww_run 84 4 (pc' := 155) (lv' := [(2, .int 3), (1, .int 0), (0, .ref 0)]) (st' := [.int ((-100) - (nI (lkF tp N p1).2.1))]) (w' := wMr tp (cdB cd (200 * t) O1) (upd (srL sr (4 * t) [O1.length, O0.length, ([] : List Int32).length]) ((4 * t + 3)) (nI O1.length)) wo he1 0 (nI t) (nI (lkF tp N p1).1) (nI (lkF tp N p1).2.1) (tkM (lkF tp N p1).2.2) v2 hm1 op1 (nI O1.length) J K) (Ps := []) rfl trivial ?_
                                              refine ww_iret 88 rfl rfl ?_
                                              refine Or.inr (Or.inl ⟨_, O1, (upd (srL sr (4 * t) [O1.length, O0.length, ([] : List Int32).length]) ((4 * t + 3)) (nI O1.length)), _, _, _, _, _, _, _, _, ht, (by rw [rf_go hw0 hY0, rf_go hw1 hY1, rf_k hw2]), ?_, rfl, rfl⟩)
                                              intro x hx
                                              rw [pk_un (by omega)]
                                              exact srL_lt _ x hx
                                          · exact absurd c49 (by decide)
                                        · exact absurd c48 (by decide)
                                      · exact absurd c47 (by decide)
                                    · refine ww_run 27 3 (pc' := 52) (lv' := [(2, .int 2), (1, .int 1), (0, .ref 0)]) (st' := [.int 2, .int v2]) (w' := wMr tp (cdB cd (200 * t) O1) (srL sr (4 * t) [O0.length, ([] : List Int32).length]) wo he1 (nI N) (nI t) (nI (lkF tp N p1).1) (nI (lkF tp N p1).2.1) (tkM (lkF tp N p1).2.2) v2 hm1 op1 (nI O1.length) J K) (Ps := []) rfl trivial ?_
                                      refine ww_icmp_ne 30 rfl (tgt := 59) rfl (fun c51 => ?_) (fun c51 => ?_)
                                      · refine ww_run 33 1 (pc' := 60) (lv' := [(2, .int 2), (1, .int 1), (0, .ref 0)]) (st' := [.int 0]) (w' := wMr tp (cdB cd (200 * t) O1) (srL sr (4 * t) [O0.length, ([] : List Int32).length]) wo he1 (nI N) (nI t) (nI (lkF tp N p1).1) (nI (lkF tp N p1).2.1) (tkM (lkF tp N p1).2.2) v2 hm1 op1 (nI O1.length) J K) (Ps := []) rfl trivial ?_
                                        have hw2 : ¬ (lkF tp N p1).2.2 = -10 - nI 2 := kw_no (by decide) hvl2 (Or.inr c51)
                                        refine ww_run 34 9 (pc' := 73) (lv' := [(1, .int 0), (2, .int 2), (0, .ref 0)]) (st' := [.int ((4 * (nI t)) + 2), .ref 7]) (w' := wMr tp (cdB cd (200 * t) O1) (srL sr (4 * t) [O0.length, ([] : List Int32).length]) wo he1 (nI N) (nI t) (nI (lkF tp N p1).1) (nI (lkF tp N p1).2.1) (tkM (lkF tp N p1).2.2) v2 hm1 op1 (nI O1.length) J K) (Ps := []) rfl trivial ?_
                                        rw [show (4 : Int32) * nI t = nI (4 * t) from pk_mul 4 t]
                                        rw [show nI (4 * t) + (2 : Int32) = nI ((4 * t) + 2) from nI_add (4 * t) 2]
                                        refine ww_run 43 3 (pc' := 78) (lv' := [(1, .int 0), (2, .int 2), (0, .ref 0)]) (st' := []) (w' := wMr tp (cdB cd (200 * t) O1) (upd (srL sr (4 * t) [O0.length, ([] : List Int32).length]) ((nI (4 * t + 2)).toNatClampNeg) (nI O1.length)) wo he1 (nI N) (nI t) (nI (lkF tp N p1).1) (nI (lkF tp N p1).2.1) (tkM (lkF tp N p1).2.2) v2 hm1 op1 (nI O1.length) J K) (Ps := [vp_in (nI (4 * t + 2)) 24]) rfl ⟨(vp_in_nI (by omega) (by omega)), trivial⟩ ?_
                                        rw [nI_clamp (n := (4 * t + 2)) (by omega)]
                                        refine ww_run 46 1 (pc' := 79) (lv' := [(1, .int 0), (2, .int 2), (0, .ref 0)]) (st' := [.int 0]) (w' := wMr tp (cdB cd (200 * t) O1) (srL sr (4 * t) [O1.length, O0.length, ([] : List Int32).length]) wo he1 (nI N) (nI t) (nI (lkF tp N p1).1) (nI (lkF tp N p1).2.1) (tkM (lkF tp N p1).2.2) v2 hm1 op1 (nI O1.length) J K) (Ps := []) rfl trivial ?_
                                        refine ww_if_eq 47 rfl (tgt := 93) rfl (fun c52 => ?_) (fun c52 => ?_)
                                        · refine ww_run 53 4 (pc' := 26) (lv' := [(2, .int (2 + 1)), (1, .int 0), (0, .ref 0)]) (st' := []) (w' := wMr tp (cdB cd (200 * t) O1) (srL sr (4 * t) [O1.length, O0.length, ([] : List Int32).length]) wo he1 (nI N) (nI t) (nI (lkF tp N p1).1) (nI (lkF tp N p1).2.1) (tkM (lkF tp N p1).2.2) v2 hm1 op1 (nI O1.length) J K) (Ps := []) rfl trivial ?_
                                          rw [show (2 : Int32) + 1 = 3 by decide]
                                          refine ww_run 16 2 (pc' := 28) (lv' := [(2, .int 3), (1, .int 0), (0, .ref 0)]) (st' := [.int 3, .int 3]) (w' := wMr tp (cdB cd (200 * t) O1) (srL sr (4 * t) [O1.length, O0.length, ([] : List Int32).length]) wo he1 (nI N) (nI t) (nI (lkF tp N p1).1) (nI (lkF tp N p1).2.1) (tkM (lkF tp N p1).2.2) v2 hm1 op1 (nI O1.length) J K) (Ps := []) rfl trivial ?_
                                          refine ww_icmp_ge 18 rfl (tgt := 101) rfl (fun c53 => ?_) (fun c53 => ?_)
                                          · refine ww_run 57 1 (pc' := 102) (lv' := [(2, .int 3), (1, .int 0), (0, .ref 0)]) (st' := [.int 0]) (w' := wMr tp (cdB cd (200 * t) O1) (srL sr (4 * t) [O1.length, O0.length, ([] : List Int32).length]) wo he1 (nI N) (nI t) (nI (lkF tp N p1).1) (nI (lkF tp N p1).2.1) (tkM (lkF tp N p1).2.2) v2 hm1 op1 (nI O1.length) J K) (Ps := []) rfl trivial ?_
                                            refine ww_if_eq 58 rfl (tgt := 122) rfl (fun c54 => ?_) (fun c54 => ?_)
                                            · refine ww_run 68 15 (pc' := 145) (lv' := [(2, .int 3), (1, .int 0), (0, .ref 0)]) (st' := [.int 0]) (w' := wMr tp (cdB cd (200 * t) O1) (upd (srL sr (4 * t) [O1.length, O0.length, ([] : List Int32).length]) (((4 * (nI t)) + 3).toNatClampNeg) (nI O1.length)) wo he1 0 (nI t) (nI (lkF tp N p1).1) (nI (lkF tp N p1).2.1) (tkM (lkF tp N p1).2.2) v2 hm1 op1 (nI O1.length) J K) (Ps := [vp_in ((4 * (nI t)) + 3) 24]) rfl ⟨(by rw [show (4 : Int32) * nI t = nI (4 * t) from pk_mul 4 t, show nI (4 * t) + (3 : Int32) = nI ((4 * t) + 3) from nI_add (4 * t) 3]; exact vp_in_nI (by omega) (by omega)), trivial⟩ ?_
                                              rw [show (4 : Int32) * nI t = nI (4 * t) from pk_mul 4 t]
                                              rw [show nI (4 * t) + (3 : Int32) = nI ((4 * t) + 3) from nI_add (4 * t) 3]
                                              rw [nI_clamp (n := (4 * t + 3)) (by omega)]
                                              refine ww_if_ne 83 rfl (tgt := 156) rfl (fun c55 => ?_) (fun c55 => ?_)
                                              · exact absurd c55 (by decide)
                                              · refine ww_run 84 4 (pc' := 155) (lv' := [(2, .int 3), (1, .int 0), (0, .ref 0)]) (st' := [.int ((-100) - (nI (lkF tp N p1).2.1))]) (w' := wMr tp (cdB cd (200 * t) O1) (upd (srL sr (4 * t) [O1.length, O0.length, ([] : List Int32).length]) ((4 * t + 3)) (nI O1.length)) wo he1 0 (nI t) (nI (lkF tp N p1).1) (nI (lkF tp N p1).2.1) (tkM (lkF tp N p1).2.2) v2 hm1 op1 (nI O1.length) J K) (Ps := []) rfl trivial ?_
                                                refine ww_iret 88 rfl rfl ?_
                                                refine Or.inr (Or.inl ⟨_, O1, (upd (srL sr (4 * t) [O1.length, O0.length, ([] : List Int32).length]) ((4 * t + 3)) (nI O1.length)), _, _, _, _, _, _, _, _, ht, (by rw [rf_go hw0 hY0, rf_go hw1 hY1, rf_k hw2]), ?_, rfl, rfl⟩)
                                                intro x hx
                                                rw [pk_un (by omega)]
                                                exact srL_lt _ x hx
                                            · exact absurd c54 (by decide)
                                          · exact absurd c53 (by decide)
                                        · exact absurd c52 (by decide)
                                      · refine ww_run 31 2 (pc' := 60) (lv' := [(2, .int 2), (1, .int 1), (0, .ref 0)]) (st' := [.int 1]) (w' := wMr tp (cdB cd (200 * t) O1) (srL sr (4 * t) [O0.length, ([] : List Int32).length]) wo he1 (nI N) (nI t) (nI (lkF tp N p1).1) (nI (lkF tp N p1).2.1) (tkM (lkF tp N p1).2.2) v2 hm1 op1 (nI O1.length) J K) (Ps := []) rfl trivial ?_
                                        have hw2 : (lkF tp N p1).2.2 = -10 - nI 2 := kw_ok (by decide) c46 hvl2 c51
                                        refine ww_run 34 9 (pc' := 73) (lv' := [(1, .int 1), (2, .int 2), (0, .ref 0)]) (st' := [.int ((4 * (nI t)) + 2), .ref 7]) (w' := wMr tp (cdB cd (200 * t) O1) (srL sr (4 * t) [O0.length, ([] : List Int32).length]) wo he1 (nI N) (nI t) (nI (lkF tp N p1).1) (nI (lkF tp N p1).2.1) (tkM (lkF tp N p1).2.2) v2 hm1 op1 (nI O1.length) J K) (Ps := []) rfl trivial ?_
                                        rw [show (4 : Int32) * nI t = nI (4 * t) from pk_mul 4 t]
                                        rw [show nI (4 * t) + (2 : Int32) = nI ((4 * t) + 2) from nI_add (4 * t) 2]
                                        refine ww_run 43 3 (pc' := 78) (lv' := [(1, .int 1), (2, .int 2), (0, .ref 0)]) (st' := []) (w' := wMr tp (cdB cd (200 * t) O1) (upd (srL sr (4 * t) [O0.length, ([] : List Int32).length]) ((nI (4 * t + 2)).toNatClampNeg) (nI O1.length)) wo he1 (nI N) (nI t) (nI (lkF tp N p1).1) (nI (lkF tp N p1).2.1) (tkM (lkF tp N p1).2.2) v2 hm1 op1 (nI O1.length) J K) (Ps := [vp_in (nI (4 * t + 2)) 24]) rfl ⟨(vp_in_nI (by omega) (by omega)), trivial⟩ ?_
                                        rw [nI_clamp (n := (4 * t + 2)) (by omega)]
                                        refine ww_run 46 1 (pc' := 79) (lv' := [(1, .int 1), (2, .int 2), (0, .ref 0)]) (st' := [.int 1]) (w' := wMr tp (cdB cd (200 * t) O1) (srL sr (4 * t) [O1.length, O0.length, ([] : List Int32).length]) wo he1 (nI N) (nI t) (nI (lkF tp N p1).1) (nI (lkF tp N p1).2.1) (tkM (lkF tp N p1).2.2) v2 hm1 op1 (nI O1.length) J K) (Ps := []) rfl trivial ?_
                                        refine ww_if_eq 47 rfl (tgt := 93) rfl (fun c56 => ?_) (fun c56 => ?_)
                                        · exact absurd c56 (by decide)
                                        · refine ww_run 48 1 (pc' := 83) (lv' := [(1, .int 1), (2, .int 2), (0, .ref 0)]) (st' := [.ref 0]) (w' := wMr tp (cdB cd (200 * t) O1) (srL sr (4 * t) [O1.length, O0.length, ([] : List Int32).length]) wo he1 (nI N) (nI t) (nI (lkF tp N p1).1) (nI (lkF tp N p1).2.1) (tkM (lkF tp N p1).2.2) v2 hm1 op1 (nI O1.length) J K) (Ps := []) rfl trivial ?_
                                          refine ww_cV 49 ok_X7_eRead (m_eRead tp (srL sr (4 * t) [O1.length, O0.length, ([] : List Int32).length]) wo he1 (nI (lkF tp N p1).2.1) (tkM (lkF tp N p1).2.2) v2 hm1 op1 J K cd N t ((lkF tp N p1).1) hN ht hk2.1 O1 (by have h9 := (lkF_gt (B := tp) (N := N) hp1).1; have h8 := hk2.2; have h7 : (lkF tp N p1).1 = N ∨ (lkF tp N p1).2.1 < (lkF tp N p1).1 := lk_pos hp1; omega) hwo) lk_X7_180 rfl (by omega) (rest := []) rfl (Nat.le_of_ble_eq_true rfl) rfl rfl rfl rfl (fun r w' hq => ?_)
                                          rcases hq with ⟨a2, O2, he2, hm2, op2, pt2, tk2, vl2, hY2, rfl, rfl⟩ | ⟨O2, p2, he2, hm2, op2, bg2, tk2, vl2, hY2, hp2, hO2, rfl, rfl⟩
                                          · skip
                                            refine ww_if_eq 50 rfl (tgt := 93) rfl (fun c57 => ?_) (fun c57 => ?_)
                                            · refine ww_run 53 4 (pc' := 26) (lv' := [(2, .int (2 + 1)), (1, .int 0), (0, .ref 0)]) (st' := []) (w' := wMr tp (cdB cd (200 * t) O2) (srL sr (4 * t) [O1.length, O0.length, ([] : List Int32).length]) wo he2 (nI N) (nI t) pt2 (nI a2) tk2 vl2 hm2 op2 (nI O2.length) J K) (Ps := []) rfl trivial ?_
                                              rw [show (2 : Int32) + 1 = 3 by decide]
                                              refine ww_run 16 2 (pc' := 28) (lv' := [(2, .int 3), (1, .int 0), (0, .ref 0)]) (st' := [.int 3, .int 3]) (w' := wMr tp (cdB cd (200 * t) O2) (srL sr (4 * t) [O1.length, O0.length, ([] : List Int32).length]) wo he2 (nI N) (nI t) pt2 (nI a2) tk2 vl2 hm2 op2 (nI O2.length) J K) (Ps := []) rfl trivial ?_
                                              refine ww_icmp_ge 18 rfl (tgt := 101) rfl (fun c58 => ?_) (fun c58 => ?_)
                                              · refine ww_run 57 1 (pc' := 102) (lv' := [(2, .int 3), (1, .int 0), (0, .ref 0)]) (st' := [.int 0]) (w' := wMr tp (cdB cd (200 * t) O2) (srL sr (4 * t) [O1.length, O0.length, ([] : List Int32).length]) wo he2 (nI N) (nI t) pt2 (nI a2) tk2 vl2 hm2 op2 (nI O2.length) J K) (Ps := []) rfl trivial ?_
                                                refine ww_if_eq 58 rfl (tgt := 122) rfl (fun c59 => ?_) (fun c59 => ?_)
                                                · refine ww_run 68 15 (pc' := 145) (lv' := [(2, .int 3), (1, .int 0), (0, .ref 0)]) (st' := [.int 0]) (w' := wMr tp (cdB cd (200 * t) O2) (upd (srL sr (4 * t) [O1.length, O0.length, ([] : List Int32).length]) (((4 * (nI t)) + 3).toNatClampNeg) (nI O2.length)) wo he2 0 (nI t) pt2 (nI a2) tk2 vl2 hm2 op2 (nI O2.length) J K) (Ps := [vp_in ((4 * (nI t)) + 3) 24]) rfl ⟨(by rw [show (4 : Int32) * nI t = nI (4 * t) from pk_mul 4 t, show nI (4 * t) + (3 : Int32) = nI ((4 * t) + 3) from nI_add (4 * t) 3]; exact vp_in_nI (by omega) (by omega)), trivial⟩ ?_
                                                  rw [show (4 : Int32) * nI t = nI (4 * t) from pk_mul 4 t]
                                                  rw [show nI (4 * t) + (3 : Int32) = nI ((4 * t) + 3) from nI_add (4 * t) 3]
                                                  rw [nI_clamp (n := (4 * t + 3)) (by omega)]
                                                  refine ww_if_ne 83 rfl (tgt := 156) rfl (fun c60 => ?_) (fun c60 => ?_)
                                                  · exact absurd c60 (by decide)
                                                  · refine ww_run 84 4 (pc' := 155) (lv' := [(2, .int 3), (1, .int 0), (0, .ref 0)]) (st' := [.int ((-100) - (nI a2))]) (w' := wMr tp (cdB cd (200 * t) O2) (upd (srL sr (4 * t) [O1.length, O0.length, ([] : List Int32).length]) ((4 * t + 3)) (nI O2.length)) wo he2 0 (nI t) pt2 (nI a2) tk2 vl2 hm2 op2 (nI O2.length) J K) (Ps := []) rfl trivial ?_
                                                    refine ww_iret 88 rfl rfl ?_
                                                    refine Or.inr (Or.inl ⟨a2, O2, (upd (srL sr (4 * t) [O1.length, O0.length, ([] : List Int32).length]) ((4 * t + 3)) (nI O2.length)), _, _, _, _, _, _, _, _, ht, (by rw [rf_go hw0 hY0, rf_go hw1 hY1, rf_y hw2 hY2]), ?_, rfl, rfl⟩)
                                                    intro x hx
                                                    rw [pk_un (by omega)]
                                                    exact srL_lt _ x hx
                                                · exact absurd c59 (by decide)
                                              · exact absurd c58 (by decide)
                                            · exact absurd c57 (by decide)
                                          · skip
                                            refine ww_if_eq 50 rfl (tgt := 93) rfl (fun c61 => ?_) (fun c61 => ?_)
                                            · exact absurd c61 (by decide)
                                            · refine ww_run 51 2 (pc' := 94) (lv' := [(1, .int 1), (2, .int 2), (0, .ref 0)]) (st' := [.int 1]) (w' := wMr tp (cdB cd (200 * t) O2) (srL sr (4 * t) [O1.length, O0.length, ([] : List Int32).length]) wo he2 (nI N) (nI t) (nI p2) bg2 tk2 vl2 hm2 op2 (nI O2.length) J K) (Ps := []) rfl trivial ?_
                                              refine ww_run 54 3 (pc' := 26) (lv' := [(2, .int (2 + 1)), (1, .int 1), (0, .ref 0)]) (st' := []) (w' := wMr tp (cdB cd (200 * t) O2) (srL sr (4 * t) [O1.length, O0.length, ([] : List Int32).length]) wo he2 (nI N) (nI t) (nI p2) bg2 tk2 vl2 hm2 op2 (nI O2.length) J K) (Ps := []) rfl trivial ?_
                                              rw [show (2 : Int32) + 1 = 3 by decide]
                                              refine ww_run 16 2 (pc' := 28) (lv' := [(2, .int 3), (1, .int 1), (0, .ref 0)]) (st' := [.int 3, .int 3]) (w' := wMr tp (cdB cd (200 * t) O2) (srL sr (4 * t) [O1.length, O0.length, ([] : List Int32).length]) wo he2 (nI N) (nI t) (nI p2) bg2 tk2 vl2 hm2 op2 (nI O2.length) J K) (Ps := []) rfl trivial ?_
                                              refine ww_icmp_ge 18 rfl (tgt := 101) rfl (fun c62 => ?_) (fun c62 => ?_)
                                              · refine ww_run 57 1 (pc' := 102) (lv' := [(2, .int 3), (1, .int 1), (0, .ref 0)]) (st' := [.int 1]) (w' := wMr tp (cdB cd (200 * t) O2) (srL sr (4 * t) [O1.length, O0.length, ([] : List Int32).length]) wo he2 (nI N) (nI t) (nI p2) bg2 tk2 vl2 hm2 op2 (nI O2.length) J K) (Ps := []) rfl trivial ?_
                                                refine ww_if_eq 58 rfl (tgt := 122) rfl (fun c63 => ?_) (fun c63 => ?_)
                                                · exact absurd c63 (by decide)
                                                · refine ww_run 59 1 (pc' := 106) (lv' := [(2, .int 3), (1, .int 1), (0, .ref 0)]) (st' := [.ref 0]) (w' := wMr tp (cdB cd (200 * t) O2) (srL sr (4 * t) [O1.length, O0.length, ([] : List Int32).length]) wo he2 (nI N) (nI t) (nI p2) bg2 tk2 vl2 hm2 op2 (nI O2.length) J K) (Ps := []) rfl trivial ?_
                                                  refine ww_cV 60 ok_X7_next (m_next tp (cdB cd (200 * t) O2) (srL sr (4 * t) [O1.length, O0.length, ([] : List Int32).length]) wo he2 (nI t) bg2 tk2 vl2 hm2 op2 (nI O2.length) J K N p2 hN hp2 hwo) lk_X7_167 rfl (by omega) (rest := []) rfl (Nat.le_of_ble_eq_true rfl) rfl rfl rfl rfl (fun r w' hq => ?_)
                                                  obtain ⟨rfl, v3, hvl3, rfl⟩ := hq
                                                  have hk3 := (lkF_gt (B := tp) (N := N) (p := p2) hp2).2.2
                                                  refine ww_run 61 2 (pc' := 113) (lv' := [(2, .int 3), (1, .int 1), (0, .ref 0)]) (st' := [.int (tkM (lkF tp N p2).2.2)]) (w' := wMr tp (cdB cd (200 * t) O2) (srL sr (4 * t) [O1.length, O0.length, ([] : List Int32).length]) wo he2 (nI N) (nI t) (nI (lkF tp N p2).1) (nI (lkF tp N p2).2.1) (tkM (lkF tp N p2).2.2) v3 hm2 op2 (nI O2.length) J K) (Ps := []) rfl trivial ?_
                                                  refine ww_if_ne 63 rfl (tgt := 120) rfl (fun c64 => ?_) (fun c64 => ?_)
                                                  · refine ww_run 66 1 (pc' := 121) (lv' := [(2, .int 3), (1, .int 1), (0, .ref 0)]) (st' := [.int 0]) (w' := wMr tp (cdB cd (200 * t) O2) (srL sr (4 * t) [O1.length, O0.length, ([] : List Int32).length]) wo he2 (nI N) (nI t) (nI (lkF tp N p2).1) (nI (lkF tp N p2).2.1) (tkM (lkF tp N p2).2.2) v3 hm2 op2 (nI O2.length) J K) (Ps := []) rfl trivial ?_
                                                    have hw3 : ¬ (lkF tp N p2).2.2 = -1 := fun q => c64 (by rw [q]; decide)
                                                    refine ww_run 67 16 (pc' := 145) (lv' := [(1, .int 0), (2, .int 3), (0, .ref 0)]) (st' := [.int 0]) (w' := wMr tp (cdB cd (200 * t) O2) (upd (srL sr (4 * t) [O1.length, O0.length, ([] : List Int32).length]) (((4 * (nI t)) + 3).toNatClampNeg) (nI O2.length)) wo he2 0 (nI t) (nI (lkF tp N p2).1) (nI (lkF tp N p2).2.1) (tkM (lkF tp N p2).2.2) v3 hm2 op2 (nI O2.length) J K) (Ps := [vp_in ((4 * (nI t)) + 3) 24]) rfl ⟨(by rw [show (4 : Int32) * nI t = nI (4 * t) from pk_mul 4 t, show nI (4 * t) + (3 : Int32) = nI ((4 * t) + 3) from nI_add (4 * t) 3]; exact vp_in_nI (by omega) (by omega)), trivial⟩ ?_
                                                    rw [show (4 : Int32) * nI t = nI (4 * t) from pk_mul 4 t]
                                                    rw [show nI (4 * t) + (3 : Int32) = nI ((4 * t) + 3) from nI_add (4 * t) 3]
                                                    rw [nI_clamp (n := (4 * t + 3)) (by omega)]
                                                    refine ww_if_ne 83 rfl (tgt := 156) rfl (fun c65 => ?_) (fun c65 => ?_)
                                                    · exact absurd c65 (by decide)
                                                    · refine ww_run 84 4 (pc' := 155) (lv' := [(1, .int 0), (2, .int 3), (0, .ref 0)]) (st' := [.int ((-100) - (nI (lkF tp N p2).2.1))]) (w' := wMr tp (cdB cd (200 * t) O2) (upd (srL sr (4 * t) [O1.length, O0.length, ([] : List Int32).length]) ((4 * t + 3)) (nI O2.length)) wo he2 0 (nI t) (nI (lkF tp N p2).1) (nI (lkF tp N p2).2.1) (tkM (lkF tp N p2).2.2) v3 hm2 op2 (nI O2.length) J K) (Ps := []) rfl trivial ?_
                                                      refine ww_iret 88 rfl rfl ?_
                                                      refine Or.inr (Or.inl ⟨_, O2, (upd (srL sr (4 * t) [O1.length, O0.length, ([] : List Int32).length]) ((4 * t + 3)) (nI O2.length)), _, _, _, _, _, _, _, _, ht, (by rw [rf_go hw0 hY0, rf_go hw1 hY1, rf_go hw2 hY2, rf_n hw3]), ?_, rfl, rfl⟩)
                                                      intro x hx
                                                      rw [pk_un (by omega)]
                                                      exact srL_lt _ x hx
                                                  · refine ww_run 64 2 (pc' := 121) (lv' := [(2, .int 3), (1, .int 1), (0, .ref 0)]) (st' := [.int 1]) (w' := wMr tp (cdB cd (200 * t) O2) (srL sr (4 * t) [O1.length, O0.length, ([] : List Int32).length]) wo he2 (nI N) (nI t) (nI (lkF tp N p2).1) (nI (lkF tp N p2).2.1) (tkM (lkF tp N p2).2.2) v3 hm2 op2 (nI O2.length) J K) (Ps := []) rfl trivial ?_
                                                    have hw3 : (lkF tp N p2).2.2 = -1 := tk_i0 c64
                                                    refine ww_run 67 16 (pc' := 145) (lv' := [(1, .int 1), (2, .int 3), (0, .ref 0)]) (st' := [.int 1]) (w' := wMr tp (cdB cd (200 * t) O2) (upd (srL sr (4 * t) [O1.length, O0.length, ([] : List Int32).length]) (((4 * (nI t)) + 3).toNatClampNeg) (nI O2.length)) wo he2 0 (nI t) (nI (lkF tp N p2).1) (nI (lkF tp N p2).2.1) (tkM (lkF tp N p2).2.2) v3 hm2 op2 (nI O2.length) J K) (Ps := [vp_in ((4 * (nI t)) + 3) 24]) rfl ⟨(by rw [show (4 : Int32) * nI t = nI (4 * t) from pk_mul 4 t, show nI (4 * t) + (3 : Int32) = nI ((4 * t) + 3) from nI_add (4 * t) 3]; exact vp_in_nI (by omega) (by omega)), trivial⟩ ?_
                                                    rw [show (4 : Int32) * nI t = nI (4 * t) from pk_mul 4 t]
                                                    rw [show nI (4 * t) + (3 : Int32) = nI ((4 * t) + 3) from nI_add (4 * t) 3]
                                                    rw [nI_clamp (n := (4 * t + 3)) (by omega)]
                                                    refine ww_if_ne 83 rfl (tgt := 156) rfl (fun c66 => ?_) (fun c66 => ?_)
                                                    · refine ww_run 89 10 (pc' := 172) (lv' := [(1, .int 1), (2, .int 3), (0, .ref 0)]) (st' := [.int (((nI t) + 1) - 1)]) (w' := wMr tp (cdB cd (200 * t) O2) (upd (srL sr (4 * t) [O1.length, O0.length, ([] : List Int32).length]) ((4 * t + 3)) (nI O2.length)) wo he2 0 ((nI t) + 1) (nI (lkF tp N p2).1) (nI (lkF tp N p2).2.1) (tkM (lkF tp N p2).2.2) v3 hm2 op2 (nI O2.length) J K) (Ps := []) rfl trivial ?_
                                                      rw [nI_1 t]
                                                      rw [nI_pred t]
                                                      refine ww_iret 99 rfl rfl ?_
                                                      exact Or.inr (Or.inr ⟨O2, [O2.length, O1.length, O0.length, ([] : List Int32).length], _, _, _, _, _, _, _, _, ht, (by rw [rf_go hw0 hY0, rf_go hw1 hY1, rf_go hw2 hY2, rf_e hw3]), rfl, rfl⟩)
                                                    · exact absurd c66 (by decide)
                                              · exact absurd c62 (by decide)
  · have c1 : t = 6 := (nI_eq (a := t) (b := 6) (by omega) (by omega)).mp c1
    refine ww_run 4 1 (pc' := 11) (lv' := [(0, .ref 0)]) (st' := [.int (-4)]) (w' := wMr tp cd sr wo he (nI N) (nI t) pt bg tk vl hm op ou J K) (Ps := []) rfl trivial ?_
    refine ww_iret 5 rfl rfl ?_
    exact Or.inl ⟨c1, rfl, rfl⟩
