set_option maxHeartbeats 4000000 in
set_option maxRecDepth 100000 in
theorem ly_nx_0 {Q : Option Value → List va_E → Prop} {d : Nat} (hd : 1 ≤ d) (tp cd sr wo he : Nat → Int32) (tx bg tk vl hm op ou : Int32) (J : Nat → Int32) (K : Nat → Nat → Int32)  (N : Nat) (hN : N ≤ 160) (V : Nat) (KK : WW M_X7_next d Q xz 52 [(0, .ref 0)] [] (wMr tp cd sr wo he (nI N) tx (nI V) bg tk vl hm op ou J K)) :
    ∀ (n i : Nat) , i ≤ N → N + 1 ≤ i + n → spn isBk tp N (N - i) i = V → WW M_X7_next d Q xz 0 [(0, .ref 0)] [] (wMr tp cd sr wo he (nI N) tx (nI i) bg tk vl hm op ou J K) := by
  intro n
  induction n with
  | zero => intro i; intros; omega
  | succ n ih =>
    intro i  hi hn hv
    refine ww_run 0 4 (pc' := 8) (lv' := [(0, .ref 0)]) (st' := [.int (nI N), .int (nI i)]) (w' := wMr tp cd sr wo he (nI N) tx (nI i) bg tk vl hm op ou J K) (Ps := []) rfl trivial ?_
    refine ww_icmp_ge 4 rfl (tgt := 52) rfl (fun c1 => ?_) (fun c1 => ?_)
    · have c1 : N ≤ i := (nI_leI (a := N) (b := i) (by omega) (by omega)).mp c1
      obtain rfl : i = N := by omega
      rw [Nat.sub_self] at hv
      simp only [spn] at hv
      subst hv
      exact KK
    · have c1 : ¬ N ≤ i := fun q9 => c1 ((nI_leI (a := N) (b := i) (by omega) (by omega)).mpr q9)
      refine ww_run 5 6 (pc' := 22) (lv' := [(0, .ref 0)]) (st' := [.int 32, .int (tp (nI i).toNatClampNeg)]) (w' := wMr tp cd sr wo he (nI N) tx (nI i) bg tk vl hm op ou J K) (Ps := [vp_in (nI i) 160]) rfl ⟨(vp_in_nI (by omega) (by omega)), trivial⟩ ?_
      rw [nI_clamp (n := i) (by omega)]
      refine ww_icmp_eq 11 rfl (tgt := 39) rfl (fun c2 => ?_) (fun c2 => ?_)
      · refine ww_run 19 7 (pc' := 0) (lv' := [(0, .ref 0)]) (st' := []) (w' := wMr tp cd sr wo he (nI N) tx ((nI i) + 1) bg tk vl hm op ou J K) (Ps := []) rfl trivial ?_
        rw [nI_1 i]
        refine ih (i + 1) (by omega) (by omega) ?_
        rw [show N - i = (N - (i + 1)) + 1 by omega] at hv
        simp only [spn] at hv
        rw [if_pos ⟨by omega, Or.inl c2⟩] at hv
        exact hv
      · refine ww_run 12 6 (pc' := 36) (lv' := [(0, .ref 0)]) (st' := [.int 10, .int (tp (nI i).toNatClampNeg)]) (w' := wMr tp cd sr wo he (nI N) tx (nI i) bg tk vl hm op ou J K) (Ps := [vp_in (nI i) 160]) rfl ⟨(vp_in_nI (by omega) (by omega)), trivial⟩ ?_
        rw [nI_clamp (n := i) (by omega)]
        refine ww_icmp_ne 18 rfl (tgt := 52) rfl (fun c3 => ?_) (fun c3 => ?_)
        · rw [show N - i = (N - (i + 1)) + 1 by omega] at hv
          simp only [spn] at hv
          rw [if_neg (fun q => q.2.elim c2 c3)] at hv
          subst hv
          exact KK
        · refine ww_run 19 7 (pc' := 0) (lv' := [(0, .ref 0)]) (st' := []) (w' := wMr tp cd sr wo he (nI N) tx ((nI i) + 1) bg tk vl hm op ou J K) (Ps := []) rfl trivial ?_
          rw [nI_1 i]
          refine ih (i + 1) (by omega) (by omega) ?_
          rw [show N - i = (N - (i + 1)) + 1 by omega] at hv
          simp only [spn] at hv
          rw [if_pos ⟨by omega, Or.inr c3⟩] at hv
          exact hv
set_option maxHeartbeats 4000000 in
set_option maxRecDepth 100000 in
theorem ly_nx_103 {Q : Option Value → List va_E → Prop} {d : Nat} (hd : 1 ≤ d) (tp cd sr wo he : Nat → Int32) (tx bg tk vl hm op ou : Int32) (J : Nat → Int32) (K : Nat → Nat → Int32)  (N : Nat) (hN : N ≤ 160) (V : Nat) (c0 : Int32) (KK : WW M_X7_next d Q xz 146 [(0, .ref 0), (1, .int c0)] [] (wMr tp cd sr wo he (nI N) tx (nI V) bg tk vl hm op ou J K)) :
    ∀ (n i : Nat) , i ≤ N → N + 1 ≤ i + n → spn isLt tp N (N - i) i = V → WW M_X7_next d Q xz 103 [(0, .ref 0), (1, .int c0)] [] (wMr tp cd sr wo he (nI N) tx (nI i) bg tk vl hm op ou J K) := by
  intro n
  induction n with
  | zero => intro i; intros; omega
  | succ n ih =>
    intro i  hi hn hv
    refine ww_run 53 4 (pc' := 111) (lv' := [(0, .ref 0), (1, .int c0)]) (st' := [.int (nI N), .int (nI i)]) (w' := wMr tp cd sr wo he (nI N) tx (nI i) bg tk vl hm op ou J K) (Ps := []) rfl trivial ?_
    refine ww_icmp_ge 57 rfl (tgt := 146) rfl (fun c1 => ?_) (fun c1 => ?_)
    · have c1 : N ≤ i := (nI_leI (a := N) (b := i) (by omega) (by omega)).mp c1
      obtain rfl : i = N := by omega
      rw [Nat.sub_self] at hv
      simp only [spn] at hv
      subst hv
      exact KK
    · have c1 : ¬ N ≤ i := fun q9 => c1 ((nI_leI (a := N) (b := i) (by omega) (by omega)).mpr q9)
      refine ww_run 58 7 (pc' := 127) (lv' := [(0, .ref 0), (1, .int c0)]) (st' := [.int 122, .int 97, .int (tp (nI i).toNatClampNeg)]) (w' := wMr tp cd sr wo he (nI N) tx (nI i) bg tk vl hm op ou J K) (Ps := [vp_in (nI i) 160]) rfl ⟨(vp_in_nI (by omega) (by omega)), trivial⟩ ?_
      rw [nI_clamp (n := i) (by omega)]
      refine ww_cSi 65 ok_X7_in (Co.fr0 (c_X7_in (tp i) 97 122) rfl) lk_X7_108 rfl (by omega) (rest := []) rfl (Nat.le_of_ble_eq_true rfl) rfl ?_
      refine ww_if_eq 66 rfl (tgt := 146) rfl (fun c2 => ?_) (fun c2 => ?_)
      · rw [b2i_eq0] at c2
        rw [show N - i = (N - (i + 1)) + 1 by omega] at hv
        simp only [spn] at hv
        rw [if_neg (fun q => c2 q.2)] at hv
        subst hv
        exact KK
      · rw [b2i_ne0] at c2
        refine ww_run 67 7 (pc' := 103) (lv' := [(0, .ref 0), (1, .int c0)]) (st' := []) (w' := wMr tp cd sr wo he (nI N) tx ((nI i) + 1) bg tk vl hm op ou J K) (Ps := []) rfl trivial ?_
        rw [nI_1 i]
        refine ih (i + 1) (by omega) (by omega) ?_
        rw [show N - i = (N - (i + 1)) + 1 by omega] at hv
        simp only [spn] at hv
        rw [if_pos ⟨by omega, c2⟩] at hv
        exact hv
set_option maxHeartbeats 4000000 in
set_option maxRecDepth 100000 in
theorem ly_nx_230 {Q : Option Value → List va_E → Prop} {d : Nat} (hd : 1 ≤ d) (tp cd sr wo he : Nat → Int32) (tx bg tk hm op ou : Int32) (J : Nat → Int32) (K : Nat → Nat → Int32)  (N q : Nat) (hN : N ≤ 160) (V : Nat × Int32) (c0 : Int32) (KK : WW M_X7_next d Q xz 309 [(0, .ref 0), (1, .int c0), (2, .int (nI (V.1 - q)))] [] (wMr tp cd sr wo he (nI N) tx (nI V.1) bg tk (if V.1 - q ≤ 4 then V.2 else 0) hm op ou J K)) :
    ∀ (n i : Nat) (acc : Int32), i ≤ N → N + 1 ≤ i + n → q ≤ i → dgR tp N (N - i) (i, acc) = V → WW M_X7_next d Q xz 230 [(0, .ref 0), (1, .int c0), (2, .int (nI (i - q)))] [] (wMr tp cd sr wo he (nI N) tx (nI i) bg tk (if i - q ≤ 4 then acc else 0) hm op ou J K) := by
  intro n
  induction n with
  | zero => intro i; intros; omega
  | succ n ih =>
    intro i acc hi hn hqi hv
    refine ww_run 121 4 (pc' := 238) (lv' := [(0, .ref 0), (1, .int c0), (2, .int (nI (i - q)))]) (st' := [.int (nI N), .int (nI i)]) (w' := wMr tp cd sr wo he (nI N) tx (nI i) bg tk (if i - q ≤ 4 then acc else 0) hm op ou J K) (Ps := []) rfl trivial ?_
    refine ww_icmp_ge 125 rfl (tgt := 309) rfl (fun c1 => ?_) (fun c1 => ?_)
    · have c1 : N ≤ i := (nI_leI (a := N) (b := i) (by omega) (by omega)).mp c1
      obtain rfl : i = N := by omega
      rw [Nat.sub_self] at hv
      simp only [dgR] at hv
      subst hv
      exact KK
    · have c1 : ¬ N ≤ i := fun q9 => c1 ((nI_leI (a := N) (b := i) (by omega) (by omega)).mpr q9)
      refine ww_run 126 7 (pc' := 254) (lv' := [(0, .ref 0), (1, .int c0), (2, .int (nI (i - q)))]) (st' := [.int 57, .int 48, .int (tp (nI i).toNatClampNeg)]) (w' := wMr tp cd sr wo he (nI N) tx (nI i) bg tk (if i - q ≤ 4 then acc else 0) hm op ou J K) (Ps := [vp_in (nI i) 160]) rfl ⟨(vp_in_nI (by omega) (by omega)), trivial⟩ ?_
      rw [nI_clamp (n := i) (by omega)]
      refine ww_cSi 133 ok_X7_in (Co.fr0 (c_X7_in (tp i) 48 57) rfl) lk_X7_108 rfl (by omega) (rest := []) rfl (Nat.le_of_ble_eq_true rfl) rfl ?_
      refine ww_if_eq 134 rfl (tgt := 309) rfl (fun c2 => ?_) (fun c2 => ?_)
      · rw [b2i_eq0] at c2
        rw [show N - i = (N - (i + 1)) + 1 by omega] at hv
        simp only [dgR] at hv
        rw [if_neg (fun z => c2 z.2)] at hv
        subst hv
        exact KK
      · rw [b2i_ne0] at c2
        refine ww_run 135 3 (pc' := 263) (lv' := [(0, .ref 0), (1, .int c0), (2, .int (nI (i - q)))]) (st' := [.int 4, .int (nI (i - q)), .ref 0]) (w' := wMr tp cd sr wo he (nI N) tx (nI i) bg tk (if i - q ≤ 4 then acc else 0) hm op ou J K) (Ps := []) rfl trivial ?_
        refine ww_icmp_ge 138 rfl (tgt := 289) rfl (fun c3 => ?_) (fun c3 => ?_)
        · have c3 : 4 ≤ i - q := (nI_leI (a := 4) (b := (i - q)) (by omega) (by omega)).mp c3
          refine ww_run 152 10 (pc' := 230) (lv' := [(2, .int ((nI (i - q)) + 1)), (0, .ref 0), (1, .int c0)]) (st' := []) (w' := wMr tp cd sr wo he (nI N) tx ((nI i) + 1) bg tk 0 hm op ou J K) (Ps := []) rfl trivial ?_
          rw [nI_1 (i - q)]
          rw [nI_1 i]
          refine ww_lv [1, 2, 0] (lv' := [(0, .ref 0), (1, .int c0), (2, .int (nI ((i - q) + 1)))]) rfl ?_
          have hh := ih (i + 1) (acc * 10 + tp i - 48) (by omega) (by omega) (by omega) ?_
          · rw [if_neg (show ¬ i + 1 - q ≤ 4 by omega)] at hh
            rw [show i + 1 - q = i - q + 1 by omega] at hh
            exact hh
          · rw [show N - i = (N - (i + 1)) + 1 by omega] at hv
            simp only [dgR] at hv
            rw [if_pos ⟨by omega, c2⟩] at hv
            exact hv
        · have c3 : ¬ 4 ≤ i - q := fun q9 => c3 ((nI_leI (a := 4) (b := (i - q)) (by omega) (by omega)).mpr q9)
          refine ww_run 139 13 (pc' := 290) (lv' := [(0, .ref 0), (1, .int c0), (2, .int (nI (i - q)))]) (st' := [.int (((10 * (if i - q ≤ 4 then acc else 0)) + (tp (nI i).toNatClampNeg)) - 48), .ref 0]) (w' := wMr tp cd sr wo he (nI N) tx (nI i) bg tk (if i - q ≤ 4 then acc else 0) hm op ou J K) (Ps := [vp_in (nI i) 160]) rfl ⟨(vp_in_nI (by omega) (by omega)), trivial⟩ ?_
          rw [nI_clamp (n := i) (by omega)]
          refine ww_run 153 9 (pc' := 230) (lv' := [(2, .int ((nI (i - q)) + 1)), (0, .ref 0), (1, .int c0)]) (st' := []) (w' := wMr tp cd sr wo he (nI N) tx ((nI i) + 1) bg tk (((10 * (if i - q ≤ 4 then acc else 0)) + (tp i)) - 48) hm op ou J K) (Ps := []) rfl trivial ?_
          rw [nI_1 (i - q)]
          rw [nI_1 i]
          refine ww_lv [1, 2, 0] (lv' := [(0, .ref 0), (1, .int c0), (2, .int (nI ((i - q) + 1)))]) rfl ?_
          have hh := ih (i + 1) (acc * 10 + tp i - 48) (by omega) (by omega) (by omega) ?_
          · rw [if_pos (show i + 1 - q ≤ 4 by omega)] at hh
            rw [show i + 1 - q = i - q + 1 by omega] at hh
            rw [if_pos (show i - q ≤ 4 by omega), Int32.mul_comm 10 acc]
            exact hh
          · rw [show N - i = (N - (i + 1)) + 1 by omega] at hv
            simp only [dgR] at hv
            rw [if_pos ⟨by omega, c2⟩] at hv
            exact hv
theorem ly_nx_230x {Q : Option Value → List va_E → Prop} {d : Nat} (tp cd sr wo he : Nat → Int32) (tx bg tk hm op ou : Int32) (J : Nat → Int32) (K : Nat → Nat → Int32) (N q : Nat) (hN : N ≤ 160) (V : Nat × Int32) (c0 : Int32) (KK : WW M_X7_next d Q xz 309 [(0, .ref 0), (1, .int c0), (2, .int (nI (V.1 - q)))] [] (wMr tp cd sr wo he (nI N) tx (nI V.1) bg tk (if V.1 - q ≤ 4 then V.2 else 0) hm op ou J K)) (hV : dgR tp N (N - q) (q, 0) = V) (hq : q ≤ N) (hd : 1 ≤ d := by omega) : WW M_X7_next d Q xz 230 [(0, .ref 0), (1, .int c0), (2, .int 0)] [] (wMr tp cd sr wo he (nI N) tx (nI q) bg tk 0 hm op ou J K) := by
  have h := ly_nx_230 hd tp cd sr wo he tx bg tk hm op ou J K N q hN V c0 KK (N + 1) q 0 hq (by omega) (Nat.le_refl q) hV
  rw [Nat.sub_self, if_pos (Nat.zero_le 4)] at h
  exact h
theorem nx_fin (tp cd sr wo he : Nat → Int32) (tx hm op ou : Int32) (J : Nat → Int32) (K : Nat → Nat → Int32) (N p x y : Nat) (T0 v c : Int32) (hL : lkF tp N p = (x, y, c)) (hT : tkM c = T0) (hv : vlM c v) : (none : Option Value) = none ∧ ∃ v', vlM (lkF tp N p).2.2 v' ∧ wMr tp cd sr wo he (nI N) tx (nI x) (nI y) T0 v hm op ou J K = wMr tp cd sr wo he (nI N) tx (nI (lkF tp N p).1) (nI (lkF tp N p).2.1) (tkM (lkF tp N p).2.2) v' hm op ou J K := by
  rw [hL]
  subst hT
  exact ⟨rfl, v, hv, rfl⟩
set_option maxHeartbeats 4000000 in
set_option maxRecDepth 100000 in
theorem m_next (tp cd sr wo he : Nat → Int32) (tx bg tk vl hm op ou : Int32) (J : Nat → Int32) (K : Nat → Nat → Int32) (N p : Nat) (hN : N ≤ 160) (hp : p ≤ N) (hwo : ∀ j, j < 96 → wo j = woT j) : Co M_X7_next 1 0 0 [.ref 0] (wMr tp cd sr wo he (nI N) tx (nI p) bg tk vl hm op ou J K) (fun r w' => r = none ∧ ∃ v, vlM (lkF tp N p).2.2 v ∧ w' = wMr tp cd sr wo he (nI N) tx (nI (lkF tp N p).1) (nI (lkF tp N p).2.1) (tkM (lkF tp N p).2.2) v hm op ou J K) := by
  refine Co.of ok_X7_next rfl ?_
  obtain ⟨q, hq⟩ : ∃ q, spn isBk tp N (N - p) p = q := ⟨_, rfl⟩
  have h1 : p ≤ q := hq ▸ spn_ge (N - p) p
  have h2 : q ≤ N := hq ▸ spn_le (N - p) p hp
  refine ly_nx_0 (by omega) tp cd sr wo he tx bg tk vl hm op ou J K N hN q ?_ (N + 1) p (by omega) (by omega) hq
  refine ww_run 26 14 (pc' := 78) (lv' := [(0, .ref 0)]) (st' := [.int (nI N), .int (nI q)]) (w' := wMr tp cd sr wo he (nI N) tx (nI q) (nI q) 0 0 hm op ou J K) (Ps := []) rfl trivial ?_
  refine ww_icmp_ne 40 rfl (tgt := 82) rfl (fun c1 => ?_) (fun c1 => ?_)
  · have c1 : ¬ q = N := fun q9 => c1 ((nI_eq (a := q) (b := N) (by omega) (by omega)).mpr q9)
    refine ww_run 42 9 (pc' := 97) (lv' := [(1, .int (tp (nI q).toNatClampNeg)), (0, .ref 0)]) (st' := [.int 122, .int 97, .int (tp (nI q).toNatClampNeg)]) (w' := wMr tp cd sr wo he (nI N) tx (nI q) (nI q) 0 0 hm op ou J K) (Ps := [vp_in (nI q) 160]) rfl ⟨(vp_in_nI (by omega) (by omega)), trivial⟩ ?_
    rw [nI_clamp (n := q) (by omega)]
    refine ww_cSi 51 ok_X7_in (Co.fr0 (c_X7_in (tp q) 97 122) rfl) lk_X7_108 rfl (by omega) (rest := []) rfl (Nat.le_of_ble_eq_true rfl) rfl ?_
    refine ww_if_eq 52 rfl (tgt := 217) rfl (fun c2 => ?_) (fun c2 => ?_)
    · rw [b2i_eq0] at c2
      refine ww_run 114 3 (pc' := 222) (lv' := [(1, .int (tp q)), (0, .ref 0)]) (st' := [.int 57, .int 48, .int (tp q)]) (w' := wMr tp cd sr wo he (nI N) tx (nI q) (nI q) 0 0 hm op ou J K) (Ps := []) rfl trivial ?_
      refine ww_cSi 117 ok_X7_in (Co.fr0 (c_X7_in (tp q) 48 57) rfl) lk_X7_108 rfl (by omega) (rest := []) rfl (Nat.le_of_ble_eq_true rfl) rfl ?_
      refine ww_if_eq 118 rfl (tgt := 326) rfl (fun c3 => ?_) (fun c3 => ?_)
      · rw [b2i_eq0] at c3
        refine ww_run 171 2 (pc' := 329) (lv' := [(1, .int (tp q)), (0, .ref 0)]) (st' := [.int 40, .int (tp q)]) (w' := wMr tp cd sr wo he (nI N) tx (nI q) (nI q) 0 0 hm op ou J K) (Ps := []) rfl trivial ?_
        refine ww_icmp_eq 173 rfl (tgt := 374) rfl (fun c4 => ?_) (fun c4 => ?_)
        · refine ww_run 195 2 (pc' := 379) (lv' := [(1, .int (tp q)), (0, .ref 0)]) (st' := [.int 1]) (w' := wMr tp cd sr wo he (nI N) tx (nI q) (nI q) 0 0 hm op ou J K) (Ps := []) rfl trivial ?_
          refine ww_run 198 3 (pc' := 382) (lv' := [(2, .int 1), (1, .int (tp q)), (0, .ref 0)]) (st' := [.int 1, .ref 0]) (w' := wMr tp cd sr wo he (nI N) tx (nI q) (nI q) 0 0 hm op ou J K) (Ps := []) rfl trivial ?_
          refine ww_if_eq 201 rfl (tgt := 389) rfl (fun c5 => ?_) (fun c5 => ?_)
          · exact absurd c5 (by decide)
          · refine ww_run 202 2 (pc' := 390) (lv' := [(2, .int 1), (1, .int (tp q)), (0, .ref 0)]) (st' := [.int (tp q), .ref 0]) (w' := wMr tp cd sr wo he (nI N) tx (nI q) (nI q) 0 0 hm op ou J K) (Ps := []) rfl trivial ?_
            refine ww_run 205 7 (pc' := 403) (lv' := [(2, .int 1), (1, .int (tp q)), (0, .ref 0)]) (st' := []) (w' := wMr tp cd sr wo he (nI N) tx ((nI q) + 1) (nI q) (tp q) 0 hm op ou J K) (Ps := []) rfl trivial ?_
            rw [nI_1 q]
            refine ww_vret 212 rfl rfl ?_
            have hL : lkF tp N p = (q + 1, q, sgV 40) := by unfold lkF; rw [hq]; unfold lkQ; rw [if_pos (show q < N by omega), if_neg (c := isLt (tp q)) c2, if_neg c3, c4]
            rw [c4]
            exact nx_fin _ _ _ _ _ _ _ _ _ _ _ N p _ _ _ _ _ hL (by decide) (by decide)
        · refine ww_run 174 2 (pc' := 335) (lv' := [(1, .int (tp q)), (0, .ref 0)]) (st' := [.int 41, .int (tp q)]) (w' := wMr tp cd sr wo he (nI N) tx (nI q) (nI q) 0 0 hm op ou J K) (Ps := []) rfl trivial ?_
          refine ww_icmp_eq 176 rfl (tgt := 374) rfl (fun c6 => ?_) (fun c6 => ?_)
          · refine ww_run 195 2 (pc' := 379) (lv' := [(1, .int (tp q)), (0, .ref 0)]) (st' := [.int 1]) (w' := wMr tp cd sr wo he (nI N) tx (nI q) (nI q) 0 0 hm op ou J K) (Ps := []) rfl trivial ?_
            refine ww_run 198 3 (pc' := 382) (lv' := [(2, .int 1), (1, .int (tp q)), (0, .ref 0)]) (st' := [.int 1, .ref 0]) (w' := wMr tp cd sr wo he (nI N) tx (nI q) (nI q) 0 0 hm op ou J K) (Ps := []) rfl trivial ?_
            refine ww_if_eq 201 rfl (tgt := 389) rfl (fun c7 => ?_) (fun c7 => ?_)
            · exact absurd c7 (by decide)
            · refine ww_run 202 2 (pc' := 390) (lv' := [(2, .int 1), (1, .int (tp q)), (0, .ref 0)]) (st' := [.int (tp q), .ref 0]) (w' := wMr tp cd sr wo he (nI N) tx (nI q) (nI q) 0 0 hm op ou J K) (Ps := []) rfl trivial ?_
              refine ww_run 205 7 (pc' := 403) (lv' := [(2, .int 1), (1, .int (tp q)), (0, .ref 0)]) (st' := []) (w' := wMr tp cd sr wo he (nI N) tx ((nI q) + 1) (nI q) (tp q) 0 hm op ou J K) (Ps := []) rfl trivial ?_
              rw [nI_1 q]
              refine ww_vret 212 rfl rfl ?_
              have hL : lkF tp N p = (q + 1, q, sgV 41) := by unfold lkF; rw [hq]; unfold lkQ; rw [if_pos (show q < N by omega), if_neg (c := isLt (tp q)) c2, if_neg c3, c6]
              rw [c6]
              exact nx_fin _ _ _ _ _ _ _ _ _ _ _ N p _ _ _ _ _ hL (by decide) (by decide)
          · refine ww_run 177 2 (pc' := 341) (lv' := [(1, .int (tp q)), (0, .ref 0)]) (st' := [.int 59, .int (tp q)]) (w' := wMr tp cd sr wo he (nI N) tx (nI q) (nI q) 0 0 hm op ou J K) (Ps := []) rfl trivial ?_
            refine ww_icmp_eq 179 rfl (tgt := 374) rfl (fun c8 => ?_) (fun c8 => ?_)
            · refine ww_run 195 2 (pc' := 379) (lv' := [(1, .int (tp q)), (0, .ref 0)]) (st' := [.int 1]) (w' := wMr tp cd sr wo he (nI N) tx (nI q) (nI q) 0 0 hm op ou J K) (Ps := []) rfl trivial ?_
              refine ww_run 198 3 (pc' := 382) (lv' := [(2, .int 1), (1, .int (tp q)), (0, .ref 0)]) (st' := [.int 1, .ref 0]) (w' := wMr tp cd sr wo he (nI N) tx (nI q) (nI q) 0 0 hm op ou J K) (Ps := []) rfl trivial ?_
              refine ww_if_eq 201 rfl (tgt := 389) rfl (fun c9 => ?_) (fun c9 => ?_)
              · exact absurd c9 (by decide)
              · refine ww_run 202 2 (pc' := 390) (lv' := [(2, .int 1), (1, .int (tp q)), (0, .ref 0)]) (st' := [.int (tp q), .ref 0]) (w' := wMr tp cd sr wo he (nI N) tx (nI q) (nI q) 0 0 hm op ou J K) (Ps := []) rfl trivial ?_
                refine ww_run 205 7 (pc' := 403) (lv' := [(2, .int 1), (1, .int (tp q)), (0, .ref 0)]) (st' := []) (w' := wMr tp cd sr wo he (nI N) tx ((nI q) + 1) (nI q) (tp q) 0 hm op ou J K) (Ps := []) rfl trivial ?_
                rw [nI_1 q]
                refine ww_vret 212 rfl rfl ?_
                have hL : lkF tp N p = (q + 1, q, sgV 59) := by unfold lkF; rw [hq]; unfold lkQ; rw [if_pos (show q < N by omega), if_neg (c := isLt (tp q)) c2, if_neg c3, c8]
                rw [c8]
                exact nx_fin _ _ _ _ _ _ _ _ _ _ _ N p _ _ _ _ _ hL (by decide) (by decide)
            · refine ww_run 180 2 (pc' := 347) (lv' := [(1, .int (tp q)), (0, .ref 0)]) (st' := [.int 43, .int (tp q)]) (w' := wMr tp cd sr wo he (nI N) tx (nI q) (nI q) 0 0 hm op ou J K) (Ps := []) rfl trivial ?_
              refine ww_icmp_eq 182 rfl (tgt := 374) rfl (fun c10 => ?_) (fun c10 => ?_)
              · refine ww_run 195 2 (pc' := 379) (lv' := [(1, .int (tp q)), (0, .ref 0)]) (st' := [.int 1]) (w' := wMr tp cd sr wo he (nI N) tx (nI q) (nI q) 0 0 hm op ou J K) (Ps := []) rfl trivial ?_
                refine ww_run 198 3 (pc' := 382) (lv' := [(2, .int 1), (1, .int (tp q)), (0, .ref 0)]) (st' := [.int 1, .ref 0]) (w' := wMr tp cd sr wo he (nI N) tx (nI q) (nI q) 0 0 hm op ou J K) (Ps := []) rfl trivial ?_
                refine ww_if_eq 201 rfl (tgt := 389) rfl (fun c11 => ?_) (fun c11 => ?_)
                · exact absurd c11 (by decide)
                · refine ww_run 202 2 (pc' := 390) (lv' := [(2, .int 1), (1, .int (tp q)), (0, .ref 0)]) (st' := [.int (tp q), .ref 0]) (w' := wMr tp cd sr wo he (nI N) tx (nI q) (nI q) 0 0 hm op ou J K) (Ps := []) rfl trivial ?_
                  refine ww_run 205 7 (pc' := 403) (lv' := [(2, .int 1), (1, .int (tp q)), (0, .ref 0)]) (st' := []) (w' := wMr tp cd sr wo he (nI N) tx ((nI q) + 1) (nI q) (tp q) 0 hm op ou J K) (Ps := []) rfl trivial ?_
                  rw [nI_1 q]
                  refine ww_vret 212 rfl rfl ?_
                  have hL : lkF tp N p = (q + 1, q, sgV 43) := by unfold lkF; rw [hq]; unfold lkQ; rw [if_pos (show q < N by omega), if_neg (c := isLt (tp q)) c2, if_neg c3, c10]
                  rw [c10]
                  exact nx_fin _ _ _ _ _ _ _ _ _ _ _ N p _ _ _ _ _ hL (by decide) (by decide)
              · refine ww_run 183 2 (pc' := 353) (lv' := [(1, .int (tp q)), (0, .ref 0)]) (st' := [.int 45, .int (tp q)]) (w' := wMr tp cd sr wo he (nI N) tx (nI q) (nI q) 0 0 hm op ou J K) (Ps := []) rfl trivial ?_
                refine ww_icmp_eq 185 rfl (tgt := 374) rfl (fun c12 => ?_) (fun c12 => ?_)
                · refine ww_run 195 2 (pc' := 379) (lv' := [(1, .int (tp q)), (0, .ref 0)]) (st' := [.int 1]) (w' := wMr tp cd sr wo he (nI N) tx (nI q) (nI q) 0 0 hm op ou J K) (Ps := []) rfl trivial ?_
                  refine ww_run 198 3 (pc' := 382) (lv' := [(2, .int 1), (1, .int (tp q)), (0, .ref 0)]) (st' := [.int 1, .ref 0]) (w' := wMr tp cd sr wo he (nI N) tx (nI q) (nI q) 0 0 hm op ou J K) (Ps := []) rfl trivial ?_
                  refine ww_if_eq 201 rfl (tgt := 389) rfl (fun c13 => ?_) (fun c13 => ?_)
                  · exact absurd c13 (by decide)
                  · refine ww_run 202 2 (pc' := 390) (lv' := [(2, .int 1), (1, .int (tp q)), (0, .ref 0)]) (st' := [.int (tp q), .ref 0]) (w' := wMr tp cd sr wo he (nI N) tx (nI q) (nI q) 0 0 hm op ou J K) (Ps := []) rfl trivial ?_
                    refine ww_run 205 7 (pc' := 403) (lv' := [(2, .int 1), (1, .int (tp q)), (0, .ref 0)]) (st' := []) (w' := wMr tp cd sr wo he (nI N) tx ((nI q) + 1) (nI q) (tp q) 0 hm op ou J K) (Ps := []) rfl trivial ?_
                    rw [nI_1 q]
                    refine ww_vret 212 rfl rfl ?_
                    have hL : lkF tp N p = (q + 1, q, sgV 45) := by unfold lkF; rw [hq]; unfold lkQ; rw [if_pos (show q < N by omega), if_neg (c := isLt (tp q)) c2, if_neg c3, c12]
                    rw [c12]
                    exact nx_fin _ _ _ _ _ _ _ _ _ _ _ N p _ _ _ _ _ hL (by decide) (by decide)
                · refine ww_run 186 2 (pc' := 359) (lv' := [(1, .int (tp q)), (0, .ref 0)]) (st' := [.int 42, .int (tp q)]) (w' := wMr tp cd sr wo he (nI N) tx (nI q) (nI q) 0 0 hm op ou J K) (Ps := []) rfl trivial ?_
                  refine ww_icmp_eq 188 rfl (tgt := 374) rfl (fun c14 => ?_) (fun c14 => ?_)
                  · refine ww_run 195 2 (pc' := 379) (lv' := [(1, .int (tp q)), (0, .ref 0)]) (st' := [.int 1]) (w' := wMr tp cd sr wo he (nI N) tx (nI q) (nI q) 0 0 hm op ou J K) (Ps := []) rfl trivial ?_
                    refine ww_run 198 3 (pc' := 382) (lv' := [(2, .int 1), (1, .int (tp q)), (0, .ref 0)]) (st' := [.int 1, .ref 0]) (w' := wMr tp cd sr wo he (nI N) tx (nI q) (nI q) 0 0 hm op ou J K) (Ps := []) rfl trivial ?_
                    refine ww_if_eq 201 rfl (tgt := 389) rfl (fun c15 => ?_) (fun c15 => ?_)
                    · exact absurd c15 (by decide)
                    · refine ww_run 202 2 (pc' := 390) (lv' := [(2, .int 1), (1, .int (tp q)), (0, .ref 0)]) (st' := [.int (tp q), .ref 0]) (w' := wMr tp cd sr wo he (nI N) tx (nI q) (nI q) 0 0 hm op ou J K) (Ps := []) rfl trivial ?_
                      refine ww_run 205 7 (pc' := 403) (lv' := [(2, .int 1), (1, .int (tp q)), (0, .ref 0)]) (st' := []) (w' := wMr tp cd sr wo he (nI N) tx ((nI q) + 1) (nI q) (tp q) 0 hm op ou J K) (Ps := []) rfl trivial ?_
                      rw [nI_1 q]
                      refine ww_vret 212 rfl rfl ?_
                      have hL : lkF tp N p = (q + 1, q, sgV 42) := by unfold lkF; rw [hq]; unfold lkQ; rw [if_pos (show q < N by omega), if_neg (c := isLt (tp q)) c2, if_neg c3, c14]
                      rw [c14]
                      exact nx_fin _ _ _ _ _ _ _ _ _ _ _ N p _ _ _ _ _ hL (by decide) (by decide)
                  · refine ww_run 189 2 (pc' := 365) (lv' := [(1, .int (tp q)), (0, .ref 0)]) (st' := [.int 60, .int (tp q)]) (w' := wMr tp cd sr wo he (nI N) tx (nI q) (nI q) 0 0 hm op ou J K) (Ps := []) rfl trivial ?_
                    refine ww_icmp_eq 191 rfl (tgt := 374) rfl (fun c16 => ?_) (fun c16 => ?_)
                    · refine ww_run 195 2 (pc' := 379) (lv' := [(1, .int (tp q)), (0, .ref 0)]) (st' := [.int 1]) (w' := wMr tp cd sr wo he (nI N) tx (nI q) (nI q) 0 0 hm op ou J K) (Ps := []) rfl trivial ?_
                      refine ww_run 198 3 (pc' := 382) (lv' := [(2, .int 1), (1, .int (tp q)), (0, .ref 0)]) (st' := [.int 1, .ref 0]) (w' := wMr tp cd sr wo he (nI N) tx (nI q) (nI q) 0 0 hm op ou J K) (Ps := []) rfl trivial ?_
                      refine ww_if_eq 201 rfl (tgt := 389) rfl (fun c17 => ?_) (fun c17 => ?_)
                      · exact absurd c17 (by decide)
                      · refine ww_run 202 2 (pc' := 390) (lv' := [(2, .int 1), (1, .int (tp q)), (0, .ref 0)]) (st' := [.int (tp q), .ref 0]) (w' := wMr tp cd sr wo he (nI N) tx (nI q) (nI q) 0 0 hm op ou J K) (Ps := []) rfl trivial ?_
                        refine ww_run 205 7 (pc' := 403) (lv' := [(2, .int 1), (1, .int (tp q)), (0, .ref 0)]) (st' := []) (w' := wMr tp cd sr wo he (nI N) tx ((nI q) + 1) (nI q) (tp q) 0 hm op ou J K) (Ps := []) rfl trivial ?_
                        rw [nI_1 q]
                        refine ww_vret 212 rfl rfl ?_
                        have hL : lkF tp N p = (q + 1, q, sgV 60) := by unfold lkF; rw [hq]; unfold lkQ; rw [if_pos (show q < N by omega), if_neg (c := isLt (tp q)) c2, if_neg c3, c16]
                        rw [c16]
                        exact nx_fin _ _ _ _ _ _ _ _ _ _ _ N p _ _ _ _ _ hL (by decide) (by decide)
                    · refine ww_run 192 2 (pc' := 371) (lv' := [(1, .int (tp q)), (0, .ref 0)]) (st' := [.int 61, .int (tp q)]) (w' := wMr tp cd sr wo he (nI N) tx (nI q) (nI q) 0 0 hm op ou J K) (Ps := []) rfl trivial ?_
                      refine ww_icmp_ne 194 rfl (tgt := 378) rfl (fun c18 => ?_) (fun c18 => ?_)
                      · refine ww_run 197 4 (pc' := 382) (lv' := [(2, .int 0), (1, .int (tp q)), (0, .ref 0)]) (st' := [.int 0, .ref 0]) (w' := wMr tp cd sr wo he (nI N) tx (nI q) (nI q) 0 0 hm op ou J K) (Ps := []) rfl trivial ?_
                        refine ww_if_eq 201 rfl (tgt := 389) rfl (fun c19 => ?_) (fun c19 => ?_)
                        · refine ww_run 204 8 (pc' := 403) (lv' := [(2, .int 0), (1, .int (tp q)), (0, .ref 0)]) (st' := []) (w' := wMr tp cd sr wo he (nI N) tx ((nI q) + 1) (nI q) (-1) 0 hm op ou J K) (Ps := []) rfl trivial ?_
                          rw [nI_1 q]
                          refine ww_vret 212 rfl rfl ?_
                          have hL : lkF tp N p = (q + 1, q, -2) := by unfold lkF; rw [hq]; unfold lkQ; rw [if_pos (show q < N by omega), if_neg (c := isLt (tp q)) c2, if_neg c3]; unfold sgV; rw [if_neg c4, if_neg c6, if_neg c14, if_neg c10, if_neg c12, if_neg c8, if_neg c16, if_neg c18]
                          exact nx_fin _ _ _ _ _ _ _ _ _ _ _ N p _ _ _ _ _ hL (by decide) (by decide)
                        · exact absurd c19 (by decide)
                      · refine ww_run 195 2 (pc' := 379) (lv' := [(1, .int (tp q)), (0, .ref 0)]) (st' := [.int 1]) (w' := wMr tp cd sr wo he (nI N) tx (nI q) (nI q) 0 0 hm op ou J K) (Ps := []) rfl trivial ?_
                        refine ww_run 198 3 (pc' := 382) (lv' := [(2, .int 1), (1, .int (tp q)), (0, .ref 0)]) (st' := [.int 1, .ref 0]) (w' := wMr tp cd sr wo he (nI N) tx (nI q) (nI q) 0 0 hm op ou J K) (Ps := []) rfl trivial ?_
                        refine ww_if_eq 201 rfl (tgt := 389) rfl (fun c20 => ?_) (fun c20 => ?_)
                        · exact absurd c20 (by decide)
                        · refine ww_run 202 2 (pc' := 390) (lv' := [(2, .int 1), (1, .int (tp q)), (0, .ref 0)]) (st' := [.int (tp q), .ref 0]) (w' := wMr tp cd sr wo he (nI N) tx (nI q) (nI q) 0 0 hm op ou J K) (Ps := []) rfl trivial ?_
                          refine ww_run 205 7 (pc' := 403) (lv' := [(2, .int 1), (1, .int (tp q)), (0, .ref 0)]) (st' := []) (w' := wMr tp cd sr wo he (nI N) tx ((nI q) + 1) (nI q) (tp q) 0 hm op ou J K) (Ps := []) rfl trivial ?_
                          rw [nI_1 q]
                          refine ww_vret 212 rfl rfl ?_
                          have hL : lkF tp N p = (q + 1, q, sgV 61) := by unfold lkF; rw [hq]; unfold lkQ; rw [if_pos (show q < N by omega), if_neg (c := isLt (tp q)) c2, if_neg c3, c18]
                          rw [c18]
                          exact nx_fin _ _ _ _ _ _ _ _ _ _ _ N p _ _ _ _ _ hL (by decide) (by decide)
      · rw [b2i_ne0] at c3
        refine ww_run 119 2 (pc' := 230) (lv' := [(2, .int 0), (1, .int (tp q)), (0, .ref 0)]) (st' := []) (w' := wMr tp cd sr wo he (nI N) tx (nI q) (nI q) 0 0 hm op ou J K) (Ps := []) rfl trivial ?_
        refine ww_lv [2, 1, 0] (lv' := [(0, .ref 0), (1, .int (tp q)), (2, .int 0)]) rfl ?_
        obtain ⟨V, hV⟩ : ∃ V, dgR tp N (N - q) (q, 0) = V := ⟨_, rfl⟩
        have g1 : q ≤ V.1 := hV ▸ dgR_ge (N - q) (q, 0)
        have g2 : V.1 ≤ N := hV ▸ dgR_le (N - q) (q, 0) h2
        refine ly_nx_230x tp cd sr wo he tx (nI q) 0 hm op ou J K N q hN V (tp q) ?_ hV h2
        refine ww_run 162 3 (pc' := 312) (lv' := [(0, .ref 0), (1, .int (tp q)), (2, .int (nI (V.1 - q)))]) (st' := [.int 4, .int (nI (V.1 - q)), .ref 0]) (w' := wMr tp cd sr wo he (nI N) tx (nI V.1) (nI q) 0 (if V.1 - q ≤ 4 then V.2 else 0) hm op ou J K) (Ps := []) rfl trivial ?_
        refine ww_icmp_le 165 rfl (tgt := 319) rfl (fun c21 => ?_) (fun c21 => ?_)
        · have c21 : V.1 - q ≤ 4 := (nI_leI (a := (V.1 - q)) (b := 4) (by omega) (by omega)).mp c21
          refine ww_run 168 3 (pc' := 403) (lv' := [(0, .ref 0), (1, .int (tp q)), (2, .int (nI (V.1 - q)))]) (st' := []) (w' := wMr tp cd sr wo he (nI N) tx (nI V.1) (nI q) 1 (if V.1 - q ≤ 4 then V.2 else 0) hm op ou J K) (Ps := []) rfl trivial ?_
          refine ww_vret 212 rfl rfl ?_
          have hL : lkF tp N p = (V.1, q, V.2) := by unfold lkF; rw [hq]; unfold lkQ; rw [if_pos (show q < N by omega), if_neg (c := isLt (tp q)) c2, if_pos c3, hV, if_neg (by omega)]
          have hb := dg_lt (B := tp) (N := N) (N - q) q 0 4 (by omega) (by rw [hV]; omega) (by decide) (by decide)
          rw [hV] at hb
          have b1 : (0 : Int32) ≤ V.2 := Int32.le_iff_toInt_le.mpr hb.1
          have b2 : V.2 < 10000 := Int32.lt_iff_toInt_lt.mpr (by have : (10000 : Int32).toInt = 10000 := rfl; omega)
          have hne : ¬ V.2 = -1 := fun z => by rw [z] at b1; exact absurd b1 (by decide)
          have hvl : vlM V.2 (if V.1 - q ≤ 4 then V.2 else 0) := ⟨fun _ => if_pos (by omega), fun z => absurd b2 (Int32.not_lt.mpr z.1), fun z => by exfalso; rcases z with z | z | z <;> (rw [z] at b1; exact absurd b1 (by decide))⟩
          exact nx_fin _ _ _ _ _ _ _ _ _ _ _ N p _ _ _ _ _ hL (by unfold tkM; rw [if_neg hne, if_pos ⟨b1, b2⟩]) hvl
        · have c21 : ¬ V.1 - q ≤ 4 := fun q9 => c21 ((nI_leI (a := (V.1 - q)) (b := 4) (by omega) (by omega)).mpr q9)
          refine ww_run 166 2 (pc' := 320) (lv' := [(0, .ref 0), (1, .int (tp q)), (2, .int (nI (V.1 - q)))]) (st' := [.int (-1), .ref 0]) (w' := wMr tp cd sr wo he (nI N) tx (nI V.1) (nI q) 0 (if V.1 - q ≤ 4 then V.2 else 0) hm op ou J K) (Ps := []) rfl trivial ?_
          refine ww_run 169 2 (pc' := 403) (lv' := [(0, .ref 0), (1, .int (tp q)), (2, .int (nI (V.1 - q)))]) (st' := []) (w' := wMr tp cd sr wo he (nI N) tx (nI V.1) (nI q) (-1) (if V.1 - q ≤ 4 then V.2 else 0) hm op ou J K) (Ps := []) rfl trivial ?_
          refine ww_vret 212 rfl rfl ?_
          have hL : lkF tp N p = (V.1, q, -2) := by unfold lkF; rw [hq]; unfold lkQ; rw [if_pos (show q < N by omega), if_neg (c := isLt (tp q)) c2, if_pos c3, hV, if_pos (by omega)]
          exact nx_fin _ _ _ _ _ _ _ _ _ _ _ N p _ _ _ _ _ hL (by decide) ⟨fun z => absurd z.1 (by decide), fun z => absurd z.1 (by decide), fun z => absurd z (by decide)⟩
    · rw [b2i_ne0] at c2
      refine ww_lv [1, 0] (lv' := [(0, .ref 0), (1, .int (tp q))]) rfl ?_
      obtain ⟨e, hee⟩ : ∃ e, spn isLt tp N (N - q) q = e := ⟨_, rfl⟩
      have g1 : q ≤ e := hee ▸ spn_ge (N - q) q
      have g2 : e ≤ N := hee ▸ spn_le (N - q) q h2
      have g3 : ∀ j, q ≤ j → j < e → isLt (tp j) := fun j a b => spn_all (N - q) q j a (hee ▸ b)
      refine ly_nx_103 (by omega) tp cd sr wo he tx (nI q) 0 0 hm op ou J K N hN e (tp q) ?_ (N + 1) q (by omega) (by omega) hee
      refine ww_run 74 5 (pc' := 155) (lv' := [(0, .ref 0), (1, .int (tp q))]) (st' := [.int (nI e), .int (nI q), .ref 0]) (w' := wMr tp cd sr wo he (nI N) tx (nI e) (nI q) 0 0 hm op ou J K) (Ps := []) rfl trivial ?_
      refine ww_cVi 79 ok_X7_wordFrom (m_wordFrom tp cd sr wo he (nI N) tx (nI e) (nI q) 0 0 hm op ou J K q e (by omega) g1 hwo) lk_X7_140 rfl (by omega) (rest := []) rfl (Nat.le_of_ble_eq_true rfl) rfl rfl rfl rfl ?_
      have hk12 : wfF tp q e 12 0 ≤ 12 := by have := (wf_le (tp := tp) (a := q) (e := e) 12 0).1; omega
      have hwd := wd_wf g1 g3
      generalize wfF tp q e 12 0 = k at hk12 hwd ⊢
      refine ww_run 80 4 (pc' := 162) (lv' := [(2, .int (nI k)), (0, .ref 0), (1, .int (tp q))]) (st' := [.int 3, .int (nI k), .ref 0]) (w' := wMr tp cd sr wo he (nI N) tx (nI e) (nI q) 0 0 hm op ou J K) (Ps := []) rfl trivial ?_
      refine ww_icmp_ge 84 rfl (tgt := 169) rfl (fun c22 => ?_) (fun c22 => ?_)
      · have c22 : 3 ≤ k := (nI_leI (a := 3) (b := k) (by omega) (by omega)).mp c22
        refine ww_run 87 2 (pc' := 172) (lv' := [(2, .int (nI k)), (0, .ref 0), (1, .int (tp q))]) (st' := [.int 9, .int (nI k), .ref 0]) (w' := wMr tp cd sr wo he (nI N) tx (nI e) (nI q) 0 0 hm op ou J K) (Ps := []) rfl trivial ?_
        refine ww_icmp_ge 89 rfl (tgt := 179) rfl (fun c23 => ?_) (fun c23 => ?_)
        · have c23 : 9 ≤ k := (nI_leI (a := 9) (b := k) (by omega) (by omega)).mp c23
          refine ww_run 92 2 (pc' := 182) (lv' := [(2, .int (nI k)), (0, .ref 0), (1, .int (tp q))]) (st' := [.int 12, .int (nI k), .ref 0]) (w' := wMr tp cd sr wo he (nI N) tx (nI e) (nI q) 0 0 hm op ou J K) (Ps := []) rfl trivial ?_
          refine ww_icmp_ne 94 rfl (tgt := 189) rfl (fun c24 => ?_) (fun c24 => ?_)
          · have c24 : ¬ k = 12 := fun q9 => c24 ((nI_eq (a := k) (b := 12) (by omega) (by omega)).mpr q9)
            refine ww_run 97 9 (pc' := 201) (lv' := [(2, .int (nI k)), (0, .ref 0), (1, .int (tp q))]) (st' := [.int 3, .int (nI k), .ref 0]) (w' := wMr tp cd sr wo he (nI N) tx (nI e) (nI q) ((4 + (nI k)) - 9) 0 hm op ou J K) (Ps := []) rfl trivial ?_
            rw [show (4 : Int32) + nI k = nI (4 + k) from nI_add 4 k]
            refine ww_icmp_ge 106 rfl (tgt := 208) rfl (fun c25 => ?_) (fun c25 => ?_)
            · have c25 : 3 ≤ k := (nI_leI (a := 3) (b := k) (by omega) (by omega)).mp c25
              refine ww_run 109 5 (pc' := 403) (lv' := [(2, .int (nI k)), (0, .ref 0), (1, .int (tp q))]) (st' := []) (w' := wMr tp cd sr wo he (nI N) tx (nI e) (nI q) ((nI (4 + k)) - 9) ((nI k) - 3) hm op ou J K) (Ps := []) rfl trivial ?_
              refine ww_vret 212 rfl rfl ?_
              have hL : lkF tp N p = (e, q, wdC k) := by unfold lkF; rw [hq]; unfold lkQ; rw [if_pos (show q < N by omega), if_pos (c := isLt (tp q)) c2, hee, hwd]
              rcases (show k = 9 ∨ k = 10 ∨ k = 11 by omega) with rfl | rfl | rfl
              all_goals (exact nx_fin _ _ _ _ _ _ _ _ _ _ _ N p _ _ _ _ _ hL (by decide) (by decide))
            · have c25 : ¬ 3 ≤ k := fun q9 => c25 ((nI_leI (a := 3) (b := k) (by omega) (by omega)).mpr q9)
              refine ww_run 107 2 (pc' := 211) (lv' := [(2, .int (nI k)), (0, .ref 0), (1, .int (tp q))]) (st' := [.int (nI k), .ref 0]) (w' := wMr tp cd sr wo he (nI N) tx (nI e) (nI q) ((nI (4 + k)) - 9) 0 hm op ou J K) (Ps := []) rfl trivial ?_
              refine ww_run 112 2 (pc' := 403) (lv' := [(2, .int (nI k)), (0, .ref 0), (1, .int (tp q))]) (st' := []) (w' := wMr tp cd sr wo he (nI N) tx (nI e) (nI q) ((nI (4 + k)) - 9) (nI k) hm op ou J K) (Ps := []) rfl trivial ?_
              refine ww_vret 212 rfl rfl ?_
              exfalso
              omega
          · have c24 : k = 12 := (nI_eq (a := k) (b := 12) (by omega) (by omega)).mp c24
            refine ww_run 95 2 (pc' := 195) (lv' := [(2, .int (nI k)), (0, .ref 0), (1, .int (tp q))]) (st' := [.int (-1), .ref 0]) (w' := wMr tp cd sr wo he (nI N) tx (nI e) (nI q) 0 0 hm op ou J K) (Ps := []) rfl trivial ?_
            refine ww_run 102 4 (pc' := 201) (lv' := [(2, .int (nI k)), (0, .ref 0), (1, .int (tp q))]) (st' := [.int 3, .int (nI k), .ref 0]) (w' := wMr tp cd sr wo he (nI N) tx (nI e) (nI q) (-1) 0 hm op ou J K) (Ps := []) rfl trivial ?_
            refine ww_icmp_ge 106 rfl (tgt := 208) rfl (fun c26 => ?_) (fun c26 => ?_)
            · have c26 : 3 ≤ k := (nI_leI (a := 3) (b := k) (by omega) (by omega)).mp c26
              refine ww_run 109 5 (pc' := 403) (lv' := [(2, .int (nI k)), (0, .ref 0), (1, .int (tp q))]) (st' := []) (w' := wMr tp cd sr wo he (nI N) tx (nI e) (nI q) (-1) ((nI k) - 3) hm op ou J K) (Ps := []) rfl trivial ?_
              refine ww_vret 212 rfl rfl ?_
              have hL : lkF tp N p = (e, q, wdC k) := by unfold lkF; rw [hq]; unfold lkQ; rw [if_pos (show q < N by omega), if_pos (c := isLt (tp q)) c2, hee, hwd]
              rcases (show k = 12 by omega) with rfl
              all_goals (exact nx_fin _ _ _ _ _ _ _ _ _ _ _ N p _ _ _ _ _ hL (by decide) (by decide))
            · have c26 : ¬ 3 ≤ k := fun q9 => c26 ((nI_leI (a := 3) (b := k) (by omega) (by omega)).mpr q9)
              refine ww_run 107 2 (pc' := 211) (lv' := [(2, .int (nI k)), (0, .ref 0), (1, .int (tp q))]) (st' := [.int (nI k), .ref 0]) (w' := wMr tp cd sr wo he (nI N) tx (nI e) (nI q) (-1) 0 hm op ou J K) (Ps := []) rfl trivial ?_
              refine ww_run 112 2 (pc' := 403) (lv' := [(2, .int (nI k)), (0, .ref 0), (1, .int (tp q))]) (st' := []) (w' := wMr tp cd sr wo he (nI N) tx (nI e) (nI q) (-1) (nI k) hm op ou J K) (Ps := []) rfl trivial ?_
              refine ww_vret 212 rfl rfl ?_
              exfalso
              omega
        · have c23 : ¬ 9 ≤ k := fun q9 => c23 ((nI_leI (a := 9) (b := k) (by omega) (by omega)).mpr q9)
          refine ww_run 90 2 (pc' := 195) (lv' := [(2, .int (nI k)), (0, .ref 0), (1, .int (tp q))]) (st' := [.int 2, .ref 0]) (w' := wMr tp cd sr wo he (nI N) tx (nI e) (nI q) 0 0 hm op ou J K) (Ps := []) rfl trivial ?_
          refine ww_run 102 4 (pc' := 201) (lv' := [(2, .int (nI k)), (0, .ref 0), (1, .int (tp q))]) (st' := [.int 3, .int (nI k), .ref 0]) (w' := wMr tp cd sr wo he (nI N) tx (nI e) (nI q) 2 0 hm op ou J K) (Ps := []) rfl trivial ?_
          refine ww_icmp_ge 106 rfl (tgt := 208) rfl (fun c27 => ?_) (fun c27 => ?_)
          · have c27 : 3 ≤ k := (nI_leI (a := 3) (b := k) (by omega) (by omega)).mp c27
            refine ww_run 109 5 (pc' := 403) (lv' := [(2, .int (nI k)), (0, .ref 0), (1, .int (tp q))]) (st' := []) (w' := wMr tp cd sr wo he (nI N) tx (nI e) (nI q) 2 ((nI k) - 3) hm op ou J K) (Ps := []) rfl trivial ?_
            refine ww_vret 212 rfl rfl ?_
            have hL : lkF tp N p = (e, q, wdC k) := by unfold lkF; rw [hq]; unfold lkQ; rw [if_pos (show q < N by omega), if_pos (c := isLt (tp q)) c2, hee, hwd]
            rcases (show k = 3 ∨ k = 4 ∨ k = 5 ∨ k = 6 ∨ k = 7 ∨ k = 8 by omega) with rfl | rfl | rfl | rfl | rfl | rfl
            all_goals (exact nx_fin _ _ _ _ _ _ _ _ _ _ _ N p _ _ _ _ _ hL (by decide) (by decide))
          · have c27 : ¬ 3 ≤ k := fun q9 => c27 ((nI_leI (a := 3) (b := k) (by omega) (by omega)).mpr q9)
            refine ww_run 107 2 (pc' := 211) (lv' := [(2, .int (nI k)), (0, .ref 0), (1, .int (tp q))]) (st' := [.int (nI k), .ref 0]) (w' := wMr tp cd sr wo he (nI N) tx (nI e) (nI q) 2 0 hm op ou J K) (Ps := []) rfl trivial ?_
            refine ww_run 112 2 (pc' := 403) (lv' := [(2, .int (nI k)), (0, .ref 0), (1, .int (tp q))]) (st' := []) (w' := wMr tp cd sr wo he (nI N) tx (nI e) (nI q) 2 (nI k) hm op ou J K) (Ps := []) rfl trivial ?_
            refine ww_vret 212 rfl rfl ?_
            exfalso
            omega
      · have c22 : ¬ 3 ≤ k := fun q9 => c22 ((nI_leI (a := 3) (b := k) (by omega) (by omega)).mpr q9)
        refine ww_run 85 2 (pc' := 195) (lv' := [(2, .int (nI k)), (0, .ref 0), (1, .int (tp q))]) (st' := [.int 3, .ref 0]) (w' := wMr tp cd sr wo he (nI N) tx (nI e) (nI q) 0 0 hm op ou J K) (Ps := []) rfl trivial ?_
        refine ww_run 102 4 (pc' := 201) (lv' := [(2, .int (nI k)), (0, .ref 0), (1, .int (tp q))]) (st' := [.int 3, .int (nI k), .ref 0]) (w' := wMr tp cd sr wo he (nI N) tx (nI e) (nI q) 3 0 hm op ou J K) (Ps := []) rfl trivial ?_
        refine ww_icmp_ge 106 rfl (tgt := 208) rfl (fun c28 => ?_) (fun c28 => ?_)
        · have c28 : 3 ≤ k := (nI_leI (a := 3) (b := k) (by omega) (by omega)).mp c28
          refine ww_run 109 5 (pc' := 403) (lv' := [(2, .int (nI k)), (0, .ref 0), (1, .int (tp q))]) (st' := []) (w' := wMr tp cd sr wo he (nI N) tx (nI e) (nI q) 3 ((nI k) - 3) hm op ou J K) (Ps := []) rfl trivial ?_
          refine ww_vret 212 rfl rfl ?_
          exfalso
          omega
        · have c28 : ¬ 3 ≤ k := fun q9 => c28 ((nI_leI (a := 3) (b := k) (by omega) (by omega)).mpr q9)
          refine ww_run 107 2 (pc' := 211) (lv' := [(2, .int (nI k)), (0, .ref 0), (1, .int (tp q))]) (st' := [.int (nI k), .ref 0]) (w' := wMr tp cd sr wo he (nI N) tx (nI e) (nI q) 3 0 hm op ou J K) (Ps := []) rfl trivial ?_
          refine ww_run 112 2 (pc' := 403) (lv' := [(2, .int (nI k)), (0, .ref 0), (1, .int (tp q))]) (st' := []) (w' := wMr tp cd sr wo he (nI N) tx (nI e) (nI q) 3 (nI k) hm op ou J K) (Ps := []) rfl trivial ?_
          refine ww_vret 212 rfl rfl ?_
          have hL : lkF tp N p = (e, q, wdC k) := by unfold lkF; rw [hq]; unfold lkQ; rw [if_pos (show q < N by omega), if_pos (c := isLt (tp q)) c2, hee, hwd]
          rcases (show k = 0 ∨ k = 1 ∨ k = 2 by omega) with rfl | rfl | rfl
          all_goals (exact nx_fin _ _ _ _ _ _ _ _ _ _ _ N p _ _ _ _ _ hL (by decide) (by decide))
  · have c1 : q = N := (nI_eq (a := q) (b := N) (by omega) (by omega)).mp c1
    refine ww_vret 41 rfl rfl ?_
    have hL : lkF tp N p = (q, q, -1) := by unfold lkF; rw [hq]; unfold lkQ; rw [if_neg (by omega)]
    exact nx_fin _ _ _ _ _ _ _ _ _ _ _ N p _ _ _ _ _ hL (by decide) (by decide)
