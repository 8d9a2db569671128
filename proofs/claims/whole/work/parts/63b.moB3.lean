/-- what may be copied -/
def cpOK (si sj i j n : Int32) : Prop := ¬ n < 0 ∧ ¬ i < 0 ∧ ¬ j < 0 ∧ ¬ si < i ∧ ¬ sj < j ∧ ¬ si - i < n ∧ n ≤ sj - j
theorem cp_nat {s : Nat} {i n : Int32} (hs : s ≤ 40) (h0 : ¬ n < 0) (h1 : ¬ i < 0) (h2 : ¬ nI s < i) (h3 : ¬ nI s - i < n) : ∃ a b : Nat, a + b ≤ s ∧ i = nI a ∧ n = nI b := by
  obtain ⟨a, ha, rfl⟩ := nI_of h1
  obtain ⟨b, hb, rfl⟩ := nI_of h0
  have h2' := Int32.not_lt.mp h2
  rw [nI_leI ha (by omega)] at h2'
  have h3' := Int32.not_lt.mp h3
  rw [pk_sub h2', nI_leI hb (by omega)] at h3'
  exact ⟨a, b, by omega, rfl, rfl⟩
/-- so far copied, from below or from above -/
def cpS (f : Nat → Int32) (a b n k : Nat) : Nat → Int32 := fun q => if (if a < b then b + n - k ≤ q ∧ q < b + n else b ≤ q ∧ q < b + k) then f (a + (q - b)) else f q
theorem cpS_0 {f : Nat → Int32} {a b n : Nat} : cpS f a b n 0 = f := by
  funext q
  unfold cpS
  rw [if_neg]
  split <;> omega
theorem cpS_n {f : Nat → Int32} {a b n : Nat} : cpS f a b n n = va_cpy f f a b n := by
  funext q
  unfold cpS va_cpy
  have : (if a < b then b + n - n ≤ q ∧ q < b + n else b ≤ q ∧ q < b + n) ↔ (b ≤ q ∧ q < b + n) := by
    split
    · rw [Nat.add_sub_cancel]
    · exact Iff.rfl
  simp only [this]
theorem cpS_s {f : Nat → Int32} {a b n k x : Nat} (hk : k < n) (hx : x = if a < b then n - 1 - k else k) : upd (cpS f a b n k) (b + x) (cpS f a b n k (a + x)) = cpS f a b n (k + 1) := by
  have hr : cpS f a b n k (a + x) = f (a + x) := by
    unfold cpS
    rw [if_neg]
    split
    · next h => rw [if_pos h] at hx; omega
    · next h => rw [if_neg h] at hx; omega
  rw [hr]
  funext q
  by_cases e : q = b + x
  · subst e
    rw [upd_s]
    unfold cpS
    rw [if_pos]
    · congr 1; omega
    · split
      · next h => rw [if_pos h] at hx; omega
      · next h => rw [if_neg h] at hx; omega
  · rw [upd_n e]
    unfold cpS
    have : (if a < b then b + n - k ≤ q ∧ q < b + n else b ≤ q ∧ q < b + k) ↔ (if a < b then b + n - (k + 1) ≤ q ∧ q < b + n else b ≤ q ∧ q < b + (k + 1)) := by
      split
      · next h => rw [if_pos h] at hx; omega
      · next h => rw [if_neg h] at hx; omega
    simp only [this]
theorem cp_ce {g : Nat → Nat → Int32} {s o i j n : Nat} (hi : i + n ≤ 40) (hj : j + n ≤ 40) : va_cpy (ceF g) (ceF g) (40 * s + i) (40 * o + j) n = ceF (va_up g o (va_cpy (g s) (g o) i j n)) := by
  funext q
  unfold va_cpy ceF va_up
  by_cases h : 40 * o + j ≤ q ∧ q < 40 * o + j + n
  · have h1 : q / 40 = o := by omega
    have h2 : (40 * s + i + (q - (40 * o + j))) / 40 = s := by omega
    have h3 : (40 * s + i + (q - (40 * o + j))) % 40 = i + (q % 40 - j) := by omega
    rw [if_pos h, if_pos h1, h2, h3]
    (try simp only)
    rw [if_pos (by omega)]
  · rw [if_neg h]
    by_cases h1 : q / 40 = o
    · rw [if_pos h1]
      (try simp only)
      rw [if_neg (by omega), h1]
    · rw [if_neg h1]
set_option maxHeartbeats 4000000 in
set_option maxRecDepth 100000 in
theorem l_X7_copy_147 {Q : Option Value → List va_E → Prop} {d : Nat} (hd : 0 ≤ d) (so sz J : Nat → Int32) (K : Nat → Nat → Int32) (g : Nat → Nat → Int32) (s o i0 j0 k : Nat) (hs : s < 4) (ho : o < 4) (hi0 : i0 + k ≤ 40) (hj0 : j0 + k ≤ 40) (KK : WW M_X7_copy d Q xz 201 [(0, .ref 0), (1, .int (nI s)), (2, .int (nI i0)), (3, .int (nI o)), (4, .int (nI j0)), (5, .int (nI k)), (6, .int (nI (40 * s + i0))), (7, .int (nI (40 * o + j0))), (8, .int (nI k))] [] (wMs so sz (cpS (ceF g) (40 * s + i0) (40 * o + j0) k k) J K)) :
    ∀ (n i : Nat) (cc : Nat → Int32), i ≤ k → k + 1 ≤ i + n → cc = cpS (ceF g) (40 * s + i0) (40 * o + j0) k i → WW M_X7_copy d Q xz 147 [(0, .ref 0), (1, .int (nI s)), (2, .int (nI i0)), (3, .int (nI o)), (4, .int (nI j0)), (5, .int (nI k)), (6, .int (nI (40 * s + i0))), (7, .int (nI (40 * o + j0))), (8, .int (nI i))] [] (wMs so sz cc J K) := by
  intro n
  induction n with
  | zero => intro i; intros; omega
  | succ n ih =>
    intro i cc hi hn hcc
    refine ww_run 87 2 (pc' := 151) (lv' := [(0, .ref 0), (1, .int (nI s)), (2, .int (nI i0)), (3, .int (nI o)), (4, .int (nI j0)), (5, .int (nI k)), (6, .int (nI (40 * s + i0))), (7, .int (nI (40 * o + j0))), (8, .int (nI i))]) (st' := [.int (nI k), .int (nI i)]) (w' := wMs so sz cc J K) (Ps := []) rfl trivial ?_
    refine ww_icmp_ge 89 rfl (tgt := 201) rfl (fun c1 => ?_) (fun c1 => ?_)
    · have c1 : k ≤ i := (nI_leI (a := k) (b := i) (by omega) (by omega)).mp c1
      obtain rfl : i = k := by omega
      subst hcc
      exact KK
    · have c1 : ¬ k ≤ i := fun q => c1 ((nI_leI (a := k) (b := i) (by omega) (by omega)).mpr q)
      refine ww_run 90 2 (pc' := 158) (lv' := [(0, .ref 0), (1, .int (nI s)), (2, .int (nI i0)), (3, .int (nI o)), (4, .int (nI j0)), (5, .int (nI k)), (6, .int (nI (40 * s + i0))), (7, .int (nI (40 * o + j0))), (8, .int (nI i))]) (st' := [.int (nI (40 * o + j0)), .int (nI (40 * s + i0))]) (w' := wMs so sz cc J K) (Ps := []) rfl trivial ?_
      refine ww_icmp_ge 92 rfl (tgt := 171) rfl (fun c2 => ?_) (fun c2 => ?_)
      · have c2 : 40 * o + j0 ≤ 40 * s + i0 := (nI_leI (a := (40 * o + j0)) (b := (40 * s + i0)) (by omega) (by omega)).mp c2
        refine ww_run 99 1 (pc' := 173) (lv' := [(0, .ref 0), (1, .int (nI s)), (2, .int (nI i0)), (3, .int (nI o)), (4, .int (nI j0)), (5, .int (nI k)), (6, .int (nI (40 * s + i0))), (7, .int (nI (40 * o + j0))), (8, .int (nI i))]) (st' := [.int (nI i)]) (w' := wMs so sz cc J K) (Ps := []) rfl trivial ?_
        refine ww_run 100 15 (pc' := 147) (lv' := [(8, .int ((nI i) + 1)), (9, .int (nI i)), (0, .ref 0), (1, .int (nI s)), (2, .int (nI i0)), (3, .int (nI o)), (4, .int (nI j0)), (5, .int (nI k)), (6, .int (nI (40 * s + i0))), (7, .int (nI (40 * o + j0)))]) (st' := []) (w' := wMs so sz (upd cc (((nI (40 * o + j0)) + (nI i)).toNatClampNeg) (cc ((nI (40 * s + i0)) + (nI i)).toNatClampNeg)) J K) (Ps := [vp_in ((nI (40 * s + i0)) + (nI i)) 160, vp_in ((nI (40 * o + j0)) + (nI i)) 160]) rfl ⟨(by rw [nI_add (40 * s + i0) i]; exact vp_in_nI (by omega) (by omega)), (by rw [nI_add (40 * o + j0) i]; exact vp_in_nI (by omega) (by omega)), trivial⟩ ?_
        rw [nI_1 i]
        rw [nI_add (40 * o + j0) i]
        rw [nI_clamp (n := (40 * o + j0 + i)) (by omega)]
        rw [nI_add (40 * s + i0) i]
        rw [nI_clamp (n := (40 * s + i0 + i)) (by omega)]
        refine ww_lv [2, 3, 4, 5, 6, 7, 8, 9, 0] (lv' := [(0, .ref 0), (1, .int (nI s)), (2, .int (nI i0)), (3, .int (nI o)), (4, .int (nI j0)), (5, .int (nI k)), (6, .int (nI (40 * s + i0))), (7, .int (nI (40 * o + j0))), (8, .int (nI (i + 1)))]) rfl ?_
        refine ih (i + 1) _ (by omega) (by omega) ?_
        rw [hcc, cpS_s (x := i) (by omega) (by rw [if_neg (by omega)])]
      · have c2 : ¬ 40 * o + j0 ≤ 40 * s + i0 := fun q => c2 ((nI_leI (a := (40 * o + j0)) (b := (40 * s + i0)) (by omega) (by omega)).mpr q)
        refine ww_run 93 6 (pc' := 173) (lv' := [(0, .ref 0), (1, .int (nI s)), (2, .int (nI i0)), (3, .int (nI o)), (4, .int (nI j0)), (5, .int (nI k)), (6, .int (nI (40 * s + i0))), (7, .int (nI (40 * o + j0))), (8, .int (nI i))]) (st' := [.int (((nI k) - 1) - (nI i))]) (w' := wMs so sz cc J K) (Ps := []) rfl trivial ?_
        rw [show nI k - 1 - nI i = nI (k - 1 - i) from by rw [show (1 : Int32) = nI 1 from rfl, pk_sub (by omega), pk_sub (by omega)]]
        refine ww_run 100 15 (pc' := 147) (lv' := [(8, .int ((nI i) + 1)), (9, .int (nI (k - 1 - i))), (0, .ref 0), (1, .int (nI s)), (2, .int (nI i0)), (3, .int (nI o)), (4, .int (nI j0)), (5, .int (nI k)), (6, .int (nI (40 * s + i0))), (7, .int (nI (40 * o + j0)))]) (st' := []) (w' := wMs so sz (upd cc (((nI (40 * o + j0)) + (nI (k - 1 - i))).toNatClampNeg) (cc ((nI (40 * s + i0)) + (nI (k - 1 - i))).toNatClampNeg)) J K) (Ps := [vp_in ((nI (40 * s + i0)) + (nI (k - 1 - i))) 160, vp_in ((nI (40 * o + j0)) + (nI (k - 1 - i))) 160]) rfl ⟨(by rw [nI_add (40 * s + i0) (k - 1 - i)]; exact vp_in_nI (by omega) (by omega)), (by rw [nI_add (40 * o + j0) (k - 1 - i)]; exact vp_in_nI (by omega) (by omega)), trivial⟩ ?_
        rw [nI_1 i]
        rw [nI_add (40 * o + j0) (k - 1 - i)]
        rw [nI_clamp (n := (40 * o + j0 + (k - 1 - i))) (by omega)]
        rw [nI_add (40 * s + i0) (k - 1 - i)]
        rw [nI_clamp (n := (40 * s + i0 + (k - 1 - i))) (by omega)]
        refine ww_lv [2, 3, 4, 5, 6, 7, 8, 9, 0] (lv' := [(0, .ref 0), (1, .int (nI s)), (2, .int (nI i0)), (3, .int (nI o)), (4, .int (nI j0)), (5, .int (nI k)), (6, .int (nI (40 * s + i0))), (7, .int (nI (40 * o + j0))), (8, .int (nI (i + 1)))]) rfl ?_
        refine ih (i + 1) _ (by omega) (by omega) ?_
        rw [hcc, cpS_s (x := (k - 1 - i)) (by omega) (by rw [if_pos (by omega)])]
set_option maxHeartbeats 4000000 in
set_option maxRecDepth 100000 in
theorem m_copy (so sz J : Nat → Int32) (K : Nat → Nat → Int32) (g : Nat → Nat → Int32) (hsz : ∀ s, s < 4 → sm 40 (sz s)) (ss ii oo jj nn : Int32) : Co M_X7_copy 1 0 0 [.ref 0, .int ss, .int ii, .int oo, .int jj, .int nn] (wMs so sz (ceF g) J K) (fun r w' => ((¬ (mIn ss 0 3 ∧ mIn oo 0 3)) ∧ r = some (.int (-2)) ∧ w' = wMs so sz (ceF g) J K) ∨ (((mIn ss 0 3 ∧ mIn oo 0 3) ∧ (so ss.toNatClampNeg = -1 ∨ so oo.toNatClampNeg = -1)) ∧ r = some (.int (-11)) ∧ w' = wMs so sz (ceF g) J K) ∨ (((mIn ss 0 3 ∧ mIn oo 0 3) ∧ ¬ (so ss.toNatClampNeg = -1 ∨ so oo.toNatClampNeg = -1) ∧ ¬ so ss.toNatClampNeg = so oo.toNatClampNeg) ∧ r = some (.int (-13)) ∧ w' = wMs so sz (ceF g) J K) ∨ (((mIn ss 0 3 ∧ mIn oo 0 3) ∧ ¬ (so ss.toNatClampNeg = -1 ∨ so oo.toNatClampNeg = -1) ∧ so ss.toNatClampNeg = so oo.toNatClampNeg ∧ ¬ cpOK (sz ss.toNatClampNeg) (sz oo.toNatClampNeg) ii jj nn) ∧ r = some (.int (-12)) ∧ w' = wMs so sz (ceF g) J K) ∨ (((mIn ss 0 3 ∧ mIn oo 0 3) ∧ ¬ (so ss.toNatClampNeg = -1 ∨ so oo.toNatClampNeg = -1) ∧ so ss.toNatClampNeg = so oo.toNatClampNeg ∧ cpOK (sz ss.toNatClampNeg) (sz oo.toNatClampNeg) ii jj nn) ∧ r = some (.int nn) ∧ w' = wMs so sz (ceF (va_up g oo.toNatClampNeg (va_cpy (g ss.toNatClampNeg) (g oo.toNatClampNeg) ii.toNatClampNeg jj.toNatClampNeg nn.toNatClampNeg))) J K)) := by
  refine Co.of ok_X7_copy rfl ?_
  refine ww_run 0 3 (pc' := 3) (lv' := [(0, .ref 0), (1, .int ss), (2, .int ii), (3, .int oo), (4, .int jj), (5, .int nn)]) (st' := [.int 3, .int 0, .int ss]) (w' := wMs so sz (ceF g) J K) (Ps := []) rfl trivial ?_
  refine ww_cSi 3 ok_X7_in (Co.fr0 (c_X7_in ss 0 3) rfl) lk_X7_108 rfl (by omega) (rest := []) rfl (Nat.le_of_ble_eq_true rfl) rfl ?_
  refine ww_if_eq 4 rfl (tgt := 18) rfl (fun c1 => ?_) (fun c1 => ?_)
  · rw [b2i_eq0] at c1
    refine ww_run 10 1 (pc' := 20) (lv' := [(0, .ref 0), (1, .int ss), (2, .int ii), (3, .int oo), (4, .int jj), (5, .int nn)]) (st' := [.int (-2)]) (w' := wMs so sz (ceF g) J K) (Ps := []) rfl trivial ?_
    refine ww_iret 11 rfl rfl ?_
    exact Or.inl ⟨by grind, rfl, rfl⟩
  · rw [b2i_ne0] at c1
    refine ww_run 5 3 (pc' := 12) (lv' := [(0, .ref 0), (1, .int ss), (2, .int ii), (3, .int oo), (4, .int jj), (5, .int nn)]) (st' := [.int 3, .int 0, .int oo]) (w' := wMs so sz (ceF g) J K) (Ps := []) rfl trivial ?_
    refine ww_cSi 8 ok_X7_in (Co.fr0 (c_X7_in oo 0 3) rfl) lk_X7_108 rfl (by omega) (rest := []) rfl (Nat.le_of_ble_eq_true rfl) rfl ?_
    refine ww_if_ne 9 rfl (tgt := 21) rfl (fun c2 => ?_) (fun c2 => ?_)
    · rw [b2i_ne0] at c2
      refine ww_run 12 5 (pc' := 28) (lv' := [(0, .ref 0), (1, .int ss), (2, .int ii), (3, .int oo), (4, .int jj), (5, .int nn)]) (st' := [.int (-1), .int (so ss.toNatClampNeg)]) (w' := wMs so sz (ceF g) J K) (Ps := [vp_in ss 4]) rfl ⟨(vp_m4 (by assumption)), trivial⟩ ?_
      refine ww_icmp_eq 17 rfl (tgt := 41) rfl (fun c3 => ?_) (fun c3 => ?_)
      · refine ww_run 24 1 (pc' := 43) (lv' := [(0, .ref 0), (1, .int ss), (2, .int ii), (3, .int oo), (4, .int jj), (5, .int nn)]) (st' := [.int (-11)]) (w' := wMs so sz (ceF g) J K) (Ps := []) rfl trivial ?_
        refine ww_iret 25 rfl rfl ?_
        refine Or.inr (Or.inl ⟨?_, rfl, rfl⟩)
        grind
      · refine ww_run 18 5 (pc' := 38) (lv' := [(0, .ref 0), (1, .int ss), (2, .int ii), (3, .int oo), (4, .int jj), (5, .int nn)]) (st' := [.int (-1), .int (so oo.toNatClampNeg)]) (w' := wMs so sz (ceF g) J K) (Ps := [vp_in oo 4]) rfl ⟨(vp_m4 (by assumption)), trivial⟩ ?_
        refine ww_icmp_ne 23 rfl (tgt := 44) rfl (fun c4 => ?_) (fun c4 => ?_)
        · refine ww_run 26 8 (pc' := 56) (lv' := [(0, .ref 0), (1, .int ss), (2, .int ii), (3, .int oo), (4, .int jj), (5, .int nn)]) (st' := [.int (so oo.toNatClampNeg), .int (so ss.toNatClampNeg)]) (w' := wMs so sz (ceF g) J K) (Ps := [vp_in ss 4, vp_in oo 4]) rfl ⟨(vp_m4 (by assumption)), (vp_m4 (by assumption)), trivial⟩ ?_
          refine ww_icmp_eq 34 rfl (tgt := 62) rfl (fun c5 => ?_) (fun c5 => ?_)
          · refine ww_run 37 1 (pc' := 64) (lv' := [(0, .ref 0), (1, .int ss), (2, .int ii), (3, .int oo), (4, .int jj), (5, .int nn)]) (st' := [.int nn]) (w' := wMs so sz (ceF g) J K) (Ps := []) rfl trivial ?_
            refine ww_if_lt 38 rfl (tgt := 124) rfl (fun c6 => ?_) (fun c6 => ?_)
            · refine ww_run 71 1 (pc' := 126) (lv' := [(0, .ref 0), (1, .int ss), (2, .int ii), (3, .int oo), (4, .int jj), (5, .int nn)]) (st' := [.int (-12)]) (w' := wMs so sz (ceF g) J K) (Ps := []) rfl trivial ?_
              refine ww_iret 72 rfl rfl ?_
              refine Or.inr (Or.inr (Or.inr (Or.inl ⟨?_, rfl, rfl⟩)))
              unfold cpOK
              grind
            · refine ww_run 39 1 (pc' := 68) (lv' := [(0, .ref 0), (1, .int ss), (2, .int ii), (3, .int oo), (4, .int jj), (5, .int nn)]) (st' := [.int ii]) (w' := wMs so sz (ceF g) J K) (Ps := []) rfl trivial ?_
              refine ww_if_lt 40 rfl (tgt := 124) rfl (fun c7 => ?_) (fun c7 => ?_)
              · refine ww_run 71 1 (pc' := 126) (lv' := [(0, .ref 0), (1, .int ss), (2, .int ii), (3, .int oo), (4, .int jj), (5, .int nn)]) (st' := [.int (-12)]) (w' := wMs so sz (ceF g) J K) (Ps := []) rfl trivial ?_
                refine ww_iret 72 rfl rfl ?_
                refine Or.inr (Or.inr (Or.inr (Or.inl ⟨?_, rfl, rfl⟩)))
                unfold cpOK
                grind
              · refine ww_run 41 1 (pc' := 73) (lv' := [(0, .ref 0), (1, .int ss), (2, .int ii), (3, .int oo), (4, .int jj), (5, .int nn)]) (st' := [.int jj]) (w' := wMs so sz (ceF g) J K) (Ps := []) rfl trivial ?_
                refine ww_if_lt 42 rfl (tgt := 124) rfl (fun c8 => ?_) (fun c8 => ?_)
                · refine ww_run 71 1 (pc' := 126) (lv' := [(0, .ref 0), (1, .int ss), (2, .int ii), (3, .int oo), (4, .int jj), (5, .int nn)]) (st' := [.int (-12)]) (w' := wMs so sz (ceF g) J K) (Ps := []) rfl trivial ?_
                  refine ww_iret 72 rfl rfl ?_
                  refine Or.inr (Or.inr (Or.inr (Or.inl ⟨?_, rfl, rfl⟩)))
                  unfold cpOK
                  grind
                · refine ww_run 43 5 (pc' := 83) (lv' := [(0, .ref 0), (1, .int ss), (2, .int ii), (3, .int oo), (4, .int jj), (5, .int nn)]) (st' := [.int (sz ss.toNatClampNeg), .int ii]) (w' := wMs so sz (ceF g) J K) (Ps := [vp_in ss 4]) rfl ⟨(vp_m4 (by assumption)), trivial⟩ ?_
                  refine ww_icmp_gt 48 rfl (tgt := 124) rfl (fun c9 => ?_) (fun c9 => ?_)
                  · refine ww_run 71 1 (pc' := 126) (lv' := [(0, .ref 0), (1, .int ss), (2, .int ii), (3, .int oo), (4, .int jj), (5, .int nn)]) (st' := [.int (-12)]) (w' := wMs so sz (ceF g) J K) (Ps := []) rfl trivial ?_
                    refine ww_iret 72 rfl rfl ?_
                    refine Or.inr (Or.inr (Or.inr (Or.inl ⟨?_, rfl, rfl⟩)))
                    unfold cpOK
                    grind
                  · refine ww_run 49 5 (pc' := 94) (lv' := [(0, .ref 0), (1, .int ss), (2, .int ii), (3, .int oo), (4, .int jj), (5, .int nn)]) (st' := [.int (sz oo.toNatClampNeg), .int jj]) (w' := wMs so sz (ceF g) J K) (Ps := [vp_in oo 4]) rfl ⟨(vp_m4 (by assumption)), trivial⟩ ?_
                    refine ww_icmp_gt 54 rfl (tgt := 124) rfl (fun c10 => ?_) (fun c10 => ?_)
                    · refine ww_run 71 1 (pc' := 126) (lv' := [(0, .ref 0), (1, .int ss), (2, .int ii), (3, .int oo), (4, .int jj), (5, .int nn)]) (st' := [.int (-12)]) (w' := wMs so sz (ceF g) J K) (Ps := []) rfl trivial ?_
                      refine ww_iret 72 rfl rfl ?_
                      refine Or.inr (Or.inr (Or.inr (Or.inl ⟨?_, rfl, rfl⟩)))
                      unfold cpOK
                      grind
                    · refine ww_run 55 7 (pc' := 107) (lv' := [(0, .ref 0), (1, .int ss), (2, .int ii), (3, .int oo), (4, .int jj), (5, .int nn)]) (st' := [.int ((sz ss.toNatClampNeg) - ii), .int nn]) (w' := wMs so sz (ceF g) J K) (Ps := [vp_in ss 4]) rfl ⟨(vp_m4 (by assumption)), trivial⟩ ?_
                      refine ww_icmp_gt 62 rfl (tgt := 124) rfl (fun c11 => ?_) (fun c11 => ?_)
                      · refine ww_run 71 1 (pc' := 126) (lv' := [(0, .ref 0), (1, .int ss), (2, .int ii), (3, .int oo), (4, .int jj), (5, .int nn)]) (st' := [.int (-12)]) (w' := wMs so sz (ceF g) J K) (Ps := []) rfl trivial ?_
                        refine ww_iret 72 rfl rfl ?_
                        refine Or.inr (Or.inr (Or.inr (Or.inl ⟨?_, rfl, rfl⟩)))
                        unfold cpOK
                        grind
                      · refine ww_run 63 7 (pc' := 121) (lv' := [(0, .ref 0), (1, .int ss), (2, .int ii), (3, .int oo), (4, .int jj), (5, .int nn)]) (st' := [.int ((sz oo.toNatClampNeg) - jj), .int nn]) (w' := wMs so sz (ceF g) J K) (Ps := [vp_in oo 4]) rfl ⟨(vp_m4 (by assumption)), trivial⟩ ?_
                        refine ww_icmp_le 70 rfl (tgt := 127) rfl (fun c12 => ?_) (fun c12 => ?_)
                        · have hok : cpOK (sz ss.toNatClampNeg) (sz oo.toNatClampNeg) ii jj nn := ⟨c6, c7, c8, c9, c10, c11, c12⟩
                          obtain ⟨s, hs, rfl⟩ := s4_nI c1
                          obtain ⟨o, ho, rfl⟩ := s4_nI c2
                          obtain ⟨za, hza, eza⟩ := hsz s hs
                          obtain ⟨zb, hzb, ezb⟩ := hsz o ho
                          obtain ⟨i0, k, hik, rfl, rfl⟩ := cp_nat hza c6 c7 (by rw [nI_clamp (n := s) (by omega), eza] at c9; exact c9) (by rw [nI_clamp (n := s) (by omega), eza] at c11; exact c11)
                          obtain ⟨j0, k2, hjk, rfl, ek2⟩ := cp_nat hzb c6 c8 (by rw [nI_clamp (n := o) (by omega), ezb] at c10; exact c10) (by rw [nI_clamp (n := o) (by omega), ezb] at c12; exact Int32.not_lt.mpr c12)
                          have hkk : k = k2 := (nI_eq (by omega) (by omega)).mp ek2
                          subst hkk
                          refine ww_run 73 14 (pc' := 147) (lv' := [(8, .int 0), (7, .int ((40 * (nI o)) + (nI j0))), (6, .int ((40 * (nI s)) + (nI i0))), (0, .ref 0), (1, .int (nI s)), (2, .int (nI i0)), (3, .int (nI o)), (4, .int (nI j0)), (5, .int (nI k))]) (st' := []) (w' := wMs so sz (ceF g) J K) (Ps := []) rfl trivial ?_
                          rw [show (40 : Int32) * nI o = nI (40 * o) from pk_mul 40 o]
                          rw [show (40 : Int32) * nI s = nI (40 * s) from pk_mul 40 s]
                          rw [nI_add (40 * o) j0]
                          rw [nI_add (40 * s) i0]
                          refine ww_lv [3, 4, 5, 6, 7, 8, 2, 1, 0] (lv' := [(0, .ref 0), (1, .int (nI s)), (2, .int (nI i0)), (3, .int (nI o)), (4, .int (nI j0)), (5, .int (nI k)), (6, .int (nI (40 * s + i0))), (7, .int (nI (40 * o + j0))), (8, .int 0)]) rfl ?_
                          refine l_X7_copy_147 (by omega) so sz J K g s o i0 j0 k hs ho (by omega) (by omega) ?_ (k + 1) 0 (ceF g) (by omega) (by omega) (by rw [cpS_0])
                          rw [cpS_n, cp_ce (by omega) (by omega)]
                          refine ww_run 115 1 (pc' := 203) (lv' := [(0, .ref 0), (1, .int (nI s)), (2, .int (nI i0)), (3, .int (nI o)), (4, .int (nI j0)), (5, .int (nI k)), (6, .int (nI (40 * s + i0))), (7, .int (nI (40 * o + j0))), (8, .int (nI k))]) (st' := [.int (nI k)]) (w' := wMs so sz (ceF (va_up g o (va_cpy (g s) (g o) i0 j0 k))) J K) (Ps := []) rfl trivial ?_
                          refine ww_iret 116 rfl rfl ?_
                          refine Or.inr (Or.inr (Or.inr (Or.inr ⟨⟨⟨c1, c2⟩, ?_, c5, hok⟩, rfl, ?_⟩)))
                          · exact fun q => q.elim c3 c4
                          · first | rfl | simp only [nI_clamp (n := s) (by omega), nI_clamp (n := o) (by omega), nI_clamp (n := i0) (by omega), nI_clamp (n := j0) (by omega), nI_clamp (n := k) (by omega)]
                        · refine ww_run 71 1 (pc' := 126) (lv' := [(0, .ref 0), (1, .int ss), (2, .int ii), (3, .int oo), (4, .int jj), (5, .int nn)]) (st' := [.int (-12)]) (w' := wMs so sz (ceF g) J K) (Ps := []) rfl trivial ?_
                          refine ww_iret 72 rfl rfl ?_
                          refine Or.inr (Or.inr (Or.inr (Or.inl ⟨?_, rfl, rfl⟩)))
                          unfold cpOK
                          grind
          · refine ww_run 35 1 (pc' := 61) (lv' := [(0, .ref 0), (1, .int ss), (2, .int ii), (3, .int oo), (4, .int jj), (5, .int nn)]) (st' := [.int (-13)]) (w' := wMs so sz (ceF g) J K) (Ps := []) rfl trivial ?_
            refine ww_iret 36 rfl rfl ?_
            refine Or.inr (Or.inr (Or.inl ⟨?_, rfl, rfl⟩))
            grind
        · refine ww_run 24 1 (pc' := 43) (lv' := [(0, .ref 0), (1, .int ss), (2, .int ii), (3, .int oo), (4, .int jj), (5, .int nn)]) (st' := [.int (-11)]) (w' := wMs so sz (ceF g) J K) (Ps := []) rfl trivial ?_
          refine ww_iret 25 rfl rfl ?_
          refine Or.inr (Or.inl ⟨?_, rfl, rfl⟩)
          grind
    · rw [b2i_eq0] at c2
      refine ww_run 10 1 (pc' := 20) (lv' := [(0, .ref 0), (1, .int ss), (2, .int ii), (3, .int oo), (4, .int jj), (5, .int nn)]) (st' := [.int (-2)]) (w' := wMs so sz (ceF g) J K) (Ps := []) rfl trivial ?_
      refine ww_iret 11 rfl rfl ?_
      exact Or.inl ⟨by grind, rfl, rfl⟩
def takV (lo ki : Nat → Int32) (P C : Nat) (i k : Int32) : Int32 := if ¬ mIn k 0 6 then -2 else if ¬ mIn i 0 10 then -12 else if i < 5 then (if nI P ≤ i then -11 else if k = 6 then lo i.toNatClampNeg else -13) else if nI C ≤ i - 5 then -11 else if k < 6 ∧ (k = 0 ∨ ki (i - 5).toNatClampNeg = k ∨ (k = 1 ∧ ki (i - 5).toNatClampNeg = 3) ∨ (k = 2 ∧ ki (i - 5).toNatClampNeg = 4)) then i - 5 else -13
set_option maxHeartbeats 4000000 in
set_option maxRecDepth 100000 in
theorem m_taken (ki mo ho cd sr stk names till sitter on was sat stood rose turn : Nat → Int32) (ru lent : Int32) (J : Nat → Int32) (K : Nat → Nat → Int32) (fr lo fa : Nat → Int32) (P : Nat) (hP : P ≤ 5) (C : Nat) (hC : C ≤ 6) (ii kk : Int32) : Co M_X7_taken 1 0 0 [.ref 0, .int ii, .int kk] (wMv (wiF fr lo fa) ki mo ho cd sr stk names till sitter on was sat stood rose turn (nI P) (nI C) ru lent J K) (Qi (takV lo ki P C ii kk) (wMv (wiF fr lo fa) ki mo ho cd sr stk names till sitter on was sat stood rose turn (nI P) (nI C) ru lent J K)) := by
  refine Co.of ok_X7_taken rfl ?_
  refine ww_run 0 3 (pc' := 4) (lv' := [(0, .ref 0), (1, .int ii), (2, .int kk)]) (st' := [.int 6, .int 0, .int kk]) (w' := wMv (wiF fr lo fa) ki mo ho cd sr stk names till sitter on was sat stood rose turn (nI P) (nI C) ru lent J K) (Ps := []) rfl trivial ?_
  refine ww_cSi 3 ok_X7_in (Co.fr0 (c_X7_in kk 0 6) rfl) lk_X7_108 rfl (by omega) (rest := []) rfl (Nat.le_of_ble_eq_true rfl) rfl ?_
  refine ww_if_ne 4 rfl (tgt := 13) rfl (fun c1 => ?_) (fun c1 => ?_)
  · rw [b2i_ne0] at c1
    refine ww_run 7 3 (pc' := 17) (lv' := [(0, .ref 0), (1, .int ii), (2, .int kk)]) (st' := [.int 10, .int 0, .int ii]) (w' := wMv (wiF fr lo fa) ki mo ho cd sr stk names till sitter on was sat stood rose turn (nI P) (nI C) ru lent J K) (Ps := []) rfl trivial ?_
    refine ww_cSi 10 ok_X7_in (Co.fr0 (c_X7_in ii 0 10) rfl) lk_X7_108 rfl (by omega) (rest := []) rfl (Nat.le_of_ble_eq_true rfl) rfl ?_
    refine ww_if_ne 11 rfl (tgt := 26) rfl (fun c2 => ?_) (fun c2 => ?_)
    · rw [b2i_ne0] at c2
      refine ww_run 14 2 (pc' := 28) (lv' := [(0, .ref 0), (1, .int ii), (2, .int kk)]) (st' := [.int 5, .int ii]) (w' := wMv (wiF fr lo fa) ki mo ho cd sr stk names till sitter on was sat stood rose turn (nI P) (nI C) ru lent J K) (Ps := []) rfl trivial ?_
      refine ww_icmp_ge 16 rfl (tgt := 66) rfl (fun c3 => ?_) (fun c3 => ?_)
      · obtain ⟨i, hi, rfl⟩ : ∃ i : Nat, i ≤ 5 ∧ ii = nI (i + 5) := by
          obtain ⟨j, hj, rfl⟩ := nI_of2 (M := 10) (n := 10) rfl (Int32.not_lt.mpr c2.1) c2.2
          have h5 : 5 ≤ j := by
            have h6 := c3
            rw [Int32.le_iff_toInt_le, nI_toInt (by omega)] at h6
            have e5 : (5 : Int32).toInt = 5 := rfl
            omega
          exact ⟨j - 5, by omega, by rw [Nat.sub_add_cancel h5]⟩
        refine ww_run 37 3 (pc' := 69) (lv' := [(0, .ref 0), (1, .int (nI (i + 5))), (2, .int kk)]) (st' := [.int ((nI (i + 5)) - 5)]) (w' := wMv (wiF fr lo fa) ki mo ho cd sr stk names till sitter on was sat stood rose turn (nI P) (nI C) ru lent J K) (Ps := []) rfl trivial ?_
        rw [show nI (i + 5) - 5 = nI i from by rw [show (5 : Int32) = nI 5 from rfl, pk_sub (by omega)]; rfl]
        refine ww_run 40 2 (pc' := 73) (lv' := [(0, .ref 0), (1, .int (nI (i + 5))), (2, .int kk)]) (st' := [.int (nI C), .int (nI i)]) (w' := wMv (wiF fr lo fa) ki mo ho cd sr stk names till sitter on was sat stood rose turn (nI P) (nI C) ru lent J K) (Ps := []) rfl trivial ?_
        refine ww_icmp_lt 42 rfl (tgt := 81) rfl (fun c4 => ?_) (fun c4 => ?_)
        · have c4 : i < C := (nI_ltI (a := i) (b := C) (by omega) (by omega)).mp c4
          refine ww_run 45 2 (pc' := 84) (lv' := [(0, .ref 0), (1, .int (nI (i + 5))), (2, .int kk)]) (st' := [.int 6, .int kk]) (w' := wMv (wiF fr lo fa) ki mo ho cd sr stk names till sitter on was sat stood rose turn (nI P) (nI C) ru lent J K) (Ps := []) rfl trivial ?_
          refine ww_icmp_ge 47 rfl (tgt := 108) rfl (fun c5 => ?_) (fun c5 => ?_)
          · refine ww_run 61 1 (pc' := 110) (lv' := [(0, .ref 0), (1, .int (nI (i + 5))), (2, .int kk)]) (st' := [.int (-13)]) (w' := wMv (wiF fr lo fa) ki mo ho cd sr stk names till sitter on was sat stood rose turn (nI P) (nI C) ru lent J K) (Ps := []) rfl trivial ?_
            refine ww_iret 62 rfl rfl ?_
            have hge : ¬ nI (i + 5) < (5 : Int32) := Int32.not_lt.mpr c3
            have e5 : nI (i + 5) - 5 = nI i := by rw [show (5 : Int32) = nI 5 from rfl, pk_sub (by omega)]; rfl
            exact ⟨by unfold takV; rw [if_neg (fun q => q c1), if_neg (fun q => q c2), if_neg hge, e5]; simp only [nI_leI (a := C) (b := i) (by omega) (by omega), nI_clamp (n := i) (by omega)]; rw [if_neg (by omega), if_neg (fun q => absurd q.1 (Int32.not_lt.mpr c5))], rfl⟩
          · refine ww_run 48 5 (pc' := 94) (lv' := [(0, .ref 0), (1, .int (nI (i + 5))), (2, .int kk)]) (st' := [.int ((nI (i + 5)) - 5), .ref 2]) (w' := wMv (wiF fr lo fa) ki mo ho cd sr stk names till sitter on was sat stood rose turn (nI P) (nI C) ru lent J K) (Ps := []) rfl trivial ?_
            rw [show nI (i + 5) - 5 = nI i from by rw [show (5 : Int32) = nI 5 from rfl, pk_sub (by omega)]; rfl]
            refine ww_run 53 2 (pc' := 96) (lv' := [(0, .ref 0), (1, .int (nI (i + 5))), (2, .int kk)]) (st' := [.int kk, .int (ki (nI i).toNatClampNeg)]) (w' := wMv (wiF fr lo fa) ki mo ho cd sr stk names till sitter on was sat stood rose turn (nI P) (nI C) ru lent J K) (Ps := [vp_in (nI i) 6]) rfl ⟨(vp_in_nI (by omega) (by omega)), trivial⟩ ?_
            rw [nI_clamp (n := i) (by omega)]
            refine ww_cSi 55 ok_X7_isUnder (Co.fr0 (c_X7_isUnder (ki i) kk) rfl) lk_X7_339 rfl (by omega) (rest := []) rfl (Nat.le_of_ble_eq_true rfl) rfl ?_
            refine ww_if_eq 56 rfl (tgt := 108) rfl (fun c6 => ?_) (fun c6 => ?_)
            · rw [b2i_eq0] at c6
              refine ww_run 61 1 (pc' := 110) (lv' := [(0, .ref 0), (1, .int (nI (i + 5))), (2, .int kk)]) (st' := [.int (-13)]) (w' := wMv (wiF fr lo fa) ki mo ho cd sr stk names till sitter on was sat stood rose turn (nI P) (nI C) ru lent J K) (Ps := []) rfl trivial ?_
              refine ww_iret 62 rfl rfl ?_
              have hge : ¬ nI (i + 5) < (5 : Int32) := Int32.not_lt.mpr c3
              have e5 : nI (i + 5) - 5 = nI i := by rw [show (5 : Int32) = nI 5 from rfl, pk_sub (by omega)]; rfl
              exact ⟨by unfold takV; rw [if_neg (fun q => q c1), if_neg (fun q => q c2), if_neg hge, e5]; simp only [nI_leI (a := C) (b := i) (by omega) (by omega), nI_clamp (n := i) (by omega)]; rw [if_neg (by omega), if_neg (fun q => c6 q.2)], rfl⟩
            · rw [b2i_ne0] at c6
              refine ww_run 57 3 (pc' := 105) (lv' := [(0, .ref 0), (1, .int (nI (i + 5))), (2, .int kk)]) (st' := [.int ((nI (i + 5)) - 5)]) (w' := wMv (wiF fr lo fa) ki mo ho cd sr stk names till sitter on was sat stood rose turn (nI P) (nI C) ru lent J K) (Ps := []) rfl trivial ?_
              rw [show nI (i + 5) - 5 = nI i from by rw [show (5 : Int32) = nI 5 from rfl, pk_sub (by omega)]; rfl]
              refine ww_run 60 1 (pc' := 110) (lv' := [(0, .ref 0), (1, .int (nI (i + 5))), (2, .int kk)]) (st' := [.int (nI i)]) (w' := wMv (wiF fr lo fa) ki mo ho cd sr stk names till sitter on was sat stood rose turn (nI P) (nI C) ru lent J K) (Ps := []) rfl trivial ?_
              refine ww_iret 62 rfl rfl ?_
              have hge : ¬ nI (i + 5) < (5 : Int32) := Int32.not_lt.mpr c3
              have e5 : nI (i + 5) - 5 = nI i := by rw [show (5 : Int32) = nI 5 from rfl, pk_sub (by omega)]; rfl
              exact ⟨by unfold takV; rw [if_neg (fun q => q c1), if_neg (fun q => q c2), if_neg hge, e5]; simp only [nI_leI (a := C) (b := i) (by omega) (by omega), nI_clamp (n := i) (by omega)]; rw [if_neg (by omega), if_pos ⟨Int32.not_le.mp c5, c6⟩], rfl⟩
        · have c4 : ¬ i < C := fun q => c4 ((nI_ltI (a := i) (b := C) (by omega) (by omega)).mpr q)
          refine ww_run 43 2 (pc' := 110) (lv' := [(0, .ref 0), (1, .int (nI (i + 5))), (2, .int kk)]) (st' := [.int (-11)]) (w' := wMv (wiF fr lo fa) ki mo ho cd sr stk names till sitter on was sat stood rose turn (nI P) (nI C) ru lent J K) (Ps := []) rfl trivial ?_
          refine ww_iret 62 rfl rfl ?_
          have hge : ¬ nI (i + 5) < (5 : Int32) := Int32.not_lt.mpr c3
          have e5 : nI (i + 5) - 5 = nI i := by rw [show (5 : Int32) = nI 5 from rfl, pk_sub (by omega)]; rfl
          exact ⟨by unfold takV; rw [if_neg (fun q => q c1), if_neg (fun q => q c2), if_neg hge, e5]; simp only [nI_leI (a := C) (b := i) (by omega) (by omega), nI_clamp (n := i) (by omega)]; rw [if_pos (by omega)], rfl⟩
      · obtain ⟨i, hi, rfl⟩ := nI_of2 (M := 10) (n := 10) rfl (Int32.not_lt.mpr c2.1) c2.2
        have hi5 : i < 5 := by
          rw [Int32.not_le, Int32.lt_iff_toInt_lt, nI_toInt (by omega)] at c3
          have e5 : (5 : Int32).toInt = 5 := rfl
          omega
        refine ww_run 17 3 (pc' := 36) (lv' := [(0, .ref 0), (1, .int (nI i)), (2, .int kk)]) (st' := [.int (nI P), .int (nI i)]) (w' := wMv (wiF fr lo fa) ki mo ho cd sr stk names till sitter on was sat stood rose turn (nI P) (nI C) ru lent J K) (Ps := []) rfl trivial ?_
        refine ww_icmp_lt 20 rfl (tgt := 44) rfl (fun c7 => ?_) (fun c7 => ?_)
        · have c7 : i < P := (nI_ltI (a := i) (b := P) (by omega) (by omega)).mp c7
          refine ww_run 23 2 (pc' := 47) (lv' := [(0, .ref 0), (1, .int (nI i)), (2, .int kk)]) (st' := [.int 6, .int kk]) (w' := wMv (wiF fr lo fa) ki mo ho cd sr stk names till sitter on was sat stood rose turn (nI P) (nI C) ru lent J K) (Ps := []) rfl trivial ?_
          refine ww_icmp_ne 25 rfl (tgt := 63) rfl (fun c8 => ?_) (fun c8 => ?_)
          · refine ww_run 35 1 (pc' := 65) (lv' := [(0, .ref 0), (1, .int (nI i)), (2, .int kk)]) (st' := [.int (-13)]) (w' := wMv (wiF fr lo fa) ki mo ho cd sr stk names till sitter on was sat stood rose turn (nI P) (nI C) ru lent J K) (Ps := []) rfl trivial ?_
            refine ww_iret 36 rfl rfl ?_
            have hlt : nI i < (5 : Int32) := Int32.not_le.mp c3
            exact ⟨by unfold takV; rw [if_neg (fun q => q c1), if_neg (fun q => q c2), if_pos hlt]; simp only [nI_leI (a := P) (b := i) (by omega) (by omega), nI_clamp (n := i) (by omega)]; rw [if_neg (by omega), if_neg c8], rfl⟩
          · refine ww_run 26 9 (pc' := 65) (lv' := [(0, .ref 0), (1, .int (nI i)), (2, .int kk)]) (st' := [.int ((wiF fr lo fa) ((3 * (nI i)) + 1).toNatClampNeg)]) (w' := wMv (wiF fr lo fa) ki mo ho cd sr stk names till sitter on was sat stood rose turn (nI P) (nI C) ru lent J K) (Ps := [vp_in ((3 * (nI i)) + 1) 15]) rfl ⟨(by rw [show (3 : Int32) * nI i = nI (3 * i) from pk_mul 3 i, nI_1 (3 * i)]; exact vp_in_nI (by omega) (by omega)), trivial⟩ ?_
            rw [show (3 : Int32) * nI i = nI (3 * i) from pk_mul 3 i]
            rw [nI_1 (3 * i)]
            rw [nI_clamp (n := ((3 * i) + 1)) (by omega)]
            rw [wi1]
            refine ww_iret 36 rfl rfl ?_
            have hlt : nI i < (5 : Int32) := Int32.not_le.mp c3
            exact ⟨by unfold takV; rw [if_neg (fun q => q c1), if_neg (fun q => q c2), if_pos hlt]; simp only [nI_leI (a := P) (b := i) (by omega) (by omega), nI_clamp (n := i) (by omega)]; rw [if_neg (by omega), if_pos c8], rfl⟩
        · have c7 : ¬ i < P := fun q => c7 ((nI_ltI (a := i) (b := P) (by omega) (by omega)).mpr q)
          refine ww_run 21 2 (pc' := 65) (lv' := [(0, .ref 0), (1, .int (nI i)), (2, .int kk)]) (st' := [.int (-11)]) (w' := wMv (wiF fr lo fa) ki mo ho cd sr stk names till sitter on was sat stood rose turn (nI P) (nI C) ru lent J K) (Ps := []) rfl trivial ?_
          refine ww_iret 36 rfl rfl ?_
          have hlt : nI i < (5 : Int32) := Int32.not_le.mp c3
          exact ⟨by unfold takV; rw [if_neg (fun q => q c1), if_neg (fun q => q c2), if_pos hlt]; simp only [nI_leI (a := P) (b := i) (by omega) (by omega), nI_clamp (n := i) (by omega)]; rw [if_pos (by omega)], rfl⟩
    · rw [b2i_eq0] at c2
      refine ww_run 12 1 (pc' := 25) (lv' := [(0, .ref 0), (1, .int ii), (2, .int kk)]) (st' := [.int (-12)]) (w' := wMv (wiF fr lo fa) ki mo ho cd sr stk names till sitter on was sat stood rose turn (nI P) (nI C) ru lent J K) (Ps := []) rfl trivial ?_
      refine ww_iret 13 rfl rfl ?_
      exact ⟨by unfold takV; rw [if_neg (fun q => q c1), if_pos c2], rfl⟩
  · rw [b2i_eq0] at c1
    refine ww_run 5 1 (pc' := 12) (lv' := [(0, .ref 0), (1, .int ii), (2, .int kk)]) (st' := [.int (-2)]) (w' := wMv (wiF fr lo fa) ki mo ho cd sr stk names till sitter on was sat stood rose turn (nI P) (nI C) ru lent J K) (Ps := []) rfl trivial ?_
    refine ww_iret 6 rfl rfl ?_
    exact ⟨by unfold takV; rw [if_pos c1], rfl⟩
