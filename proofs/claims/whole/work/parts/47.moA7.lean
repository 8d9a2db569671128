abbrev wMk (kp J : Nat → Int32) (K : Nat → Nat → Int32) : List va_E :=
  [.inr (6, [.int (J 0), .ref 1, .int (J 2), .ref 2, .ref 3, .ref 4, .ref 5, .int (J 7), .ref 6, .ref 7, .int (J 10), .int (J 11), .int (J 12), .int (J 13), .int (J 14), .int (J 15), .ref 8, .ref 9, .ref 10, .ref 11, .ref 12, .ref 13, .ref 14, .int (J 23), .int (J 24), .int (J 25), .int (J 26), .ref 15, .ref 16, .int (J 29), .int (J 30), .int (J 31), .ref 17, .ref 18, .ref 19, .ref 20, .ref 21, .ref 22, .ref 23, .ref 24, .ref 25, .ref 26, .int (J 42), .ref 27, .int (J 44), .int (J 45), .ref 28]),
   iA 15 (K 1),
   iA 6 (K 3),
   iA 6 (K 4),
   iA 3 (K 5),
   iA 160 (K 6),
   iA 1200 (K 8),
   iA 24 (K 9),
   iA 15 (K 16),
   iA 3 (K 17),
   iA 12 (K 18),
   iA 4 (K 19),
   iA 4 (K 20),
   iA 160 (K 21),
   iA 50 (K 22),
   iA 96 (K 27),
   iA 200 (K 28),
   iA 200 (K 32),
   iA 6 (K 33),
   iA 6 (K 34),
   iA 6 (K 35),
   iA 5 (K 36),
   iA 5 (K 37),
   iA 5 (K 38),
   iA 5 (K 39),
   iA 5 (K 40),
   iA 5 (K 41),
   iA 5 (K 43),
   iA 20 kp]
/-- which of the first n is the least, of like ones the first -/
def lstI (f : Nat → Int32) : Nat → Nat
  | 0 => 0
  | n + 1 => if n = 0 then 0 else if f n < f (lstI f n) then n else lstI f n
theorem lstI_lt {f : Nat → Int32} : ∀ {n : Nat}, 0 < n → lstI f n < n
  | 0, h => by omega
  | n + 1, _ => by
    simp only [lstI]
    split
    · omega
    · split
      · omega
      · have := lstI_lt (f := f) (n := n) (by omega)
        omega
theorem lstI_congr {f g : Nat → Int32} : ∀ {n : Nat}, (∀ q, q < n → f q = g q) → lstI f n = lstI g n
  | 0, _ => rfl
  | n + 1, h => by
    simp only [lstI]
    split
    · rfl
    · rw [lstI_congr (f := f) (g := g) (n := n) (fun q hq => h q (by omega)), h n (by omega), h (lstI g n) (by have := lstI_lt (f := g) (n := n) (by omega); omega)]
/-- so many keepers, one behind the other -/
def kpRow (many : Nat) (v : Int32) (f : Nat → Int32) : Nat → (Nat → Int32)
  | 0 => f
  | k + 1 => upd (kpRow many v f k) (lstI (kpRow many v f k) many) v
theorem kpRow_congr {many : Nat} {v : Int32} {f g : Nat → Int32} (h : ∀ q, q < many → f q = g q) : ∀ k q, q < many → kpRow many v f k q = kpRow many v g k q
  | 0, q, hq => h q hq
  | k + 1, q, hq => by
    simp only [kpRow]
    rw [lstI_congr (fun q hq => kpRow_congr h k q hq)]
    exact upd_c (kpRow_congr h k q hq) rfl
/-- so many minutes from minute m on -/
def kpM (many keepers : Nat) (warm : Int32) : Nat → Nat → (Nat → Int32) → Int32
  | 0, _, _ => -1
  | n + 1, m, f => if f (lstI f many) ≤ nI m then nI m else kpM many keepers warm n (m + 1) (kpRow many (nI m + 1 + warm) f keepers)
theorem kpM_congr {many keepers : Nat} {warm : Int32} (hm : 0 < many) : ∀ (n m : Nat) {f g : Nat → Int32}, (∀ q, q < many → f q = g q) → kpM many keepers warm n m f = kpM many keepers warm n m g
  | 0, _, _, _, _ => rfl
  | n + 1, m, f, g, h => by
    simp only [kpM]
    rw [lstI_congr h, h _ (lstI_lt hm), kpM_congr hm n (m + 1) (fun q hq => kpRow_congr h keepers q hq)]
def kpC (many keepers : Nat) (warm : Int32) : Int32 := kpM many keepers warm 200 0 (fun _ => warm)
theorem kpM_fill {many keepers : Nat} {warm : Int32} {f : Nat → Int32} (hm : 0 < many) : kpM many keepers warm 200 0 (flF f warm many) = kpC many keepers warm :=
  kpM_congr hm 200 0 (fun q hq => by simp [flF, hq])
set_option maxHeartbeats 4000000 in
set_option maxRecDepth 100000 in
theorem l_X7_leastTill_4 {Q : Option Value → List va_E → Prop} {d : Nat} (hd : 0 ≤ d) (kp J : Nat → Int32) (K : Nat → Nat → Int32)  (M : Nat) (hM : M ≤ 20) (KK : WW M_X7_leastTill d Q xz 36 [(0, .ref 0), (1, .int (nI M)), (2, .int (nI (lstI kp M))), (3, .int (nI M))] [] (wMk kp J K)) :
    ∀ (n i : Nat) , i ≤ M → M + 1 ≤ i + n → 0 < i → WW M_X7_leastTill d Q xz 4 [(0, .ref 0), (1, .int (nI M)), (2, .int (nI (lstI kp i))), (3, .int (nI i))] [] (wMk kp J K) := by
  intro n
  induction n with
  | zero => intro i; intros; omega
  | succ n ih =>
    intro i  hi hn h0i
    have hlt : lstI kp i < i := lstI_lt h0i
    refine ww_run 4 2 (pc' := 6) (lv' := [(0, .ref 0), (1, .int (nI M)), (2, .int (nI (lstI kp i))), (3, .int (nI i))]) (st' := [.int (nI M), .int (nI i)]) (w' := wMk kp J K) (Ps := []) rfl trivial ?_
    refine ww_icmp_ge 6 rfl (tgt := 36) rfl (fun c1 => ?_) (fun c1 => ?_)
    · have c1 : M ≤ i := (nI_leI (a := M) (b := i) (by omega) (by omega)).mp c1
      obtain rfl : i = M := by omega
      exact KK
    · have c1 : ¬ M ≤ i := fun q => c1 ((nI_leI (a := M) (b := i) (by omega) (by omega)).mpr q)
      refine ww_run 7 8 (pc' := 21) (lv' := [(0, .ref 0), (1, .int (nI M)), (2, .int (nI (lstI kp i))), (3, .int (nI i))]) (st' := [.int (kp (nI (lstI kp i)).toNatClampNeg), .int (kp (nI i).toNatClampNeg)]) (w' := wMk kp J K) (Ps := [vp_in (nI i) 20, vp_in (nI (lstI kp i)) 20]) rfl ⟨(vp_in_nI (by omega) (by omega)), (vp_in_nI (by omega) (by omega)), trivial⟩ ?_
      rw [nI_clamp (n := (lstI kp i)) (by omega)]
      rw [nI_clamp (n := i) (by omega)]
      refine ww_icmp_ge 15 rfl (tgt := 28) rfl (fun c2 => ?_) (fun c2 => ?_)
      · refine ww_run 18 4 (pc' := 4) (lv' := [(3, .int ((nI i) + 1)), (2, .int (nI (lstI kp i))), (0, .ref 0), (1, .int (nI M))]) (st' := []) (w' := wMk kp J K) (Ps := []) rfl trivial ?_
        rw [nI_1 i]
        refine ww_lv [2, 3, 1, 0] (lv' := [(0, .ref 0), (1, .int (nI M)), (2, .int (nI (lstI kp i))), (3, .int (nI (i + 1)))]) rfl ?_
        have hh := ih (i + 1) (by omega) (by omega) (by omega)
        have e : lstI kp (i + 1) = lstI kp i := by
          simp only [lstI]
          rw [if_neg (by omega), if_neg (Int32.not_lt.mpr c2)]
        rw [e] at hh
        exact hh
      · refine ww_run 16 2 (pc' := 29) (lv' := [(0, .ref 0), (1, .int (nI M)), (2, .int (nI (lstI kp i))), (3, .int (nI i))]) (st' := [.int (nI i)]) (w' := wMk kp J K) (Ps := []) rfl trivial ?_
        refine ww_run 19 3 (pc' := 4) (lv' := [(3, .int ((nI i) + 1)), (2, .int (nI i)), (0, .ref 0), (1, .int (nI M))]) (st' := []) (w' := wMk kp J K) (Ps := []) rfl trivial ?_
        rw [nI_1 i]
        refine ww_lv [2, 3, 1, 0] (lv' := [(0, .ref 0), (1, .int (nI M)), (2, .int (nI i)), (3, .int (nI (i + 1)))]) rfl ?_
        have hh := ih (i + 1) (by omega) (by omega) (by omega)
        have e : lstI kp (i + 1) = i := by
          simp only [lstI]
          rw [if_neg (by omega), if_pos (Int32.not_le.mp c2)]
        rw [e] at hh
        exact hh
set_option maxHeartbeats 4000000 in
set_option maxRecDepth 100000 in
theorem c_X7_leastTill (kp J : Nat → Int32) (K : Nat → Nat → Int32) (M : Nat) (hM : M ≤ 20) (h1 : 0 < M) : Co M_X7_leastTill 0 0 0 [.ref 0, .int (nI M)] (wMk kp J K) (Qi (nI (lstI kp M)) (wMk kp J K)) := by
  refine Co.of ok_X7_leastTill rfl ?_
  refine ww_run 0 4 (pc' := 4) (lv' := [(3, .int 1), (2, .int 0), (0, .ref 0), (1, .int (nI M))]) (st' := []) (w' := wMk kp J K) (Ps := []) rfl trivial ?_
  refine ww_lv [2, 3, 1, 0] (lv' := [(0, .ref 0), (1, .int (nI M)), (2, .int 0), (3, .int 1)]) rfl ?_
  refine l_X7_leastTill_4 (by omega) kp J K M hM ?_ (M + 1) 1 (by omega) (by omega) (by omega)
  refine ww_run 22 1 (pc' := 37) (lv' := [(0, .ref 0), (1, .int (nI M)), (2, .int (nI (lstI kp M))), (3, .int (nI M))]) (st' := [.int (nI (lstI kp M))]) (w' := wMk kp J K) (Ps := []) rfl trivial ?_
  refine ww_iret 23 rfl rfl ?_
  exact ⟨rfl, rfl⟩
set_option maxHeartbeats 4000000 in
set_option maxRecDepth 100000 in
theorem l_X7_keepsTill_3 {Q : Option Value → List va_E → Prop} {d : Nat} (hd : 1 ≤ d) (kp J : Nat → Int32) (K : Nat → Nat → Int32)  (M G : Nat) (warm : Int32) (hM : M ≤ 20) (h1 : 0 < M) (hG : G ≤ 20) (KK : WW M_X7_keepsTill d Q xz 23 [(0, .ref 0), (1, .int (nI M)), (2, .int (nI G)), (3, .int warm), (4, .int (nI M))] [] (wMk (flF kp warm M) J K)) :
    ∀ (n i : Nat) , i ≤ M → M + 1 ≤ i + n → WW M_X7_keepsTill d Q xz 3 [(0, .ref 0), (1, .int (nI M)), (2, .int (nI G)), (3, .int warm), (4, .int (nI i))] [] (wMk (flF kp warm i) J K) := by
  intro n
  induction n with
  | zero => intro i; intros; omega
  | succ n ih =>
    intro i  hi hn 
    refine ww_run 2 2 (pc' := 6) (lv' := [(0, .ref 0), (1, .int (nI M)), (2, .int (nI G)), (3, .int warm), (4, .int (nI i))]) (st' := [.int (nI M), .int (nI i)]) (w' := wMk (flF kp warm i) J K) (Ps := []) rfl trivial ?_
    refine ww_icmp_ge 4 rfl (tgt := 23) rfl (fun c1 => ?_) (fun c1 => ?_)
    · have c1 : M ≤ i := (nI_leI (a := M) (b := i) (by omega) (by omega)).mp c1
      obtain rfl : i = M := by omega
      exact KK
    · have c1 : ¬ M ≤ i := fun q => c1 ((nI_leI (a := M) (b := i) (by omega) (by omega)).mpr q)
      refine ww_run 5 7 (pc' := 3) (lv' := [(4, .int ((nI i) + 1)), (0, .ref 0), (1, .int (nI M)), (2, .int (nI G)), (3, .int warm)]) (st' := []) (w' := wMk (upd (flF kp warm i) ((nI i).toNatClampNeg) warm) J K) (Ps := [vp_in (nI i) 20]) rfl ⟨(vp_in_nI (by omega) (by omega)), trivial⟩ ?_
      rw [nI_clamp (n := i) (by omega)]
      rw [nI_1 i]
      refine ww_lv [1, 2, 3, 4, 0] (lv' := [(0, .ref 0), (1, .int (nI M)), (2, .int (nI G)), (3, .int warm), (4, .int (nI (i + 1)))]) rfl ?_
      rw [flF_s]
      exact ih (i + 1) (by omega) (by omega)
set_option maxHeartbeats 4000000 in
set_option maxRecDepth 100000 in
theorem l_X7_keepsTill_55 {Q : Option Value → List va_E → Prop} {d : Nat} (hd : 1 ≤ d) (kp J : Nat → Int32) (K : Nat → Nat → Int32)  (m : Nat) (hm : m < 200) (M G : Nat) (warm : Int32) (hM : M ≤ 20) (h1 : 0 < M) (hG : G ≤ 20) (KK : WW M_X7_keepsTill d Q xz 83 [(0, .ref 0), (1, .int (nI M)), (2, .int (nI G)), (3, .int warm), (4, .int (nI m)), (5, .int (nI G))] [] (wMk (kpRow M (nI (m + 1) + warm) kp G) J K)) :
    ∀ (n i : Nat) , i ≤ G → G + 1 ≤ i + n → WW M_X7_keepsTill d Q xz 55 [(0, .ref 0), (1, .int (nI M)), (2, .int (nI G)), (3, .int warm), (4, .int (nI m)), (5, .int (nI i))] [] (wMk (kpRow M (nI (m + 1) + warm) kp i) J K) := by
  intro n
  induction n with
  | zero => intro i; intros; omega
  | succ n ih =>
    intro i  hi hn 
    have hlt : lstI (kpRow M (nI (m + 1) + warm) kp i) M < M := lstI_lt h1
    refine ww_run 29 2 (pc' := 58) (lv' := [(0, .ref 0), (1, .int (nI M)), (2, .int (nI G)), (3, .int warm), (4, .int (nI m)), (5, .int (nI i))]) (st' := [.int (nI G), .int (nI i)]) (w' := wMk (kpRow M (nI (m + 1) + warm) kp i) J K) (Ps := []) rfl trivial ?_
    refine ww_icmp_ge 31 rfl (tgt := 83) rfl (fun c1 => ?_) (fun c1 => ?_)
    · have c1 : G ≤ i := (nI_leI (a := G) (b := i) (by omega) (by omega)).mp c1
      obtain rfl : i = G := by omega
      exact KK
    · have c1 : ¬ G ≤ i := fun q => c1 ((nI_leI (a := G) (b := i) (by omega) (by omega)).mpr q)
      refine ww_run 32 4 (pc' := 67) (lv' := [(0, .ref 0), (1, .int (nI M)), (2, .int (nI G)), (3, .int warm), (4, .int (nI m)), (5, .int (nI i))]) (st' := [.int (nI M), .ref 0, .ref 28]) (w' := wMk (kpRow M (nI (m + 1) + warm) kp i) J K) (Ps := []) rfl trivial ?_
      refine ww_cVi 36 ok_X7_leastTill (c_X7_leastTill (kpRow M (nI (m + 1) + warm) kp i) J K M hM h1) lk_X7_292 rfl (by omega) (rest := [.ref 28]) rfl (Nat.le_of_ble_eq_true rfl) rfl rfl rfl rfl ?_
      refine ww_run 37 8 (pc' := 55) (lv' := [(5, .int ((nI i) + 1)), (0, .ref 0), (1, .int (nI M)), (2, .int (nI G)), (3, .int warm), (4, .int (nI m))]) (st' := []) (w' := wMk (upd (kpRow M (nI (m + 1) + warm) kp i) ((nI (lstI (kpRow M (nI (m + 1) + warm) kp i) M)).toNatClampNeg) (((nI m) + 1) + warm)) J K) (Ps := [vp_in (nI (lstI (kpRow M (nI (m + 1) + warm) kp i) M)) 20]) rfl ⟨(vp_in_nI (by omega) (by omega)), trivial⟩ ?_
      rw [nI_clamp (n := (lstI (kpRow M (nI (m + 1) + warm) kp i) M)) (by omega)]
      rw [nI_1 i]
      rw [nI_1 m]
      refine ww_lv [1, 2, 3, 4, 5, 0] (lv' := [(0, .ref 0), (1, .int (nI M)), (2, .int (nI G)), (3, .int warm), (4, .int (nI m)), (5, .int (nI (i + 1)))]) rfl ?_
      have hh := ih (i + 1) (by omega) (by omega)
      rw [show kpRow M (nI (m + 1) + warm) kp (i + 1) = upd (kpRow M (nI (m + 1) + warm) kp i) (lstI (kpRow M (nI (m + 1) + warm) kp i) M) (nI (m + 1) + warm) from by rw [kpRow]] at hh
      exact hh
set_option maxHeartbeats 4000000 in
set_option maxRecDepth 100000 in
theorem l_X7_keepsTill_26 {Q : Option Value → List va_E → Prop} {d : Nat} (hd : 1 ≤ d) (J : Nat → Int32) (K : Nat → Nat → Int32)  (M G : Nat) (warm : Int32) (hM : M ≤ 20) (h1 : 0 < M) (hG : G ≤ 20) (V : Int32) (hQ : ∀ kp, Q (some (.int V)) (wMk kp J K)) :
    ∀ (n i : Nat) (kp : Nat → Int32), i ≤ 200 → 200 + 1 ≤ i + n → kpM M G warm (200 - i) i kp = V → WW M_X7_keepsTill d Q xz 26 [(0, .ref 0), (1, .int (nI M)), (2, .int (nI G)), (3, .int warm), (4, .int (nI i))] [] (wMk kp J K) := by
  intro n
  induction n with
  | zero => intro i; intros; omega
  | succ n ih =>
    intro i kp hi hn hv
    have hlt : lstI kp M < M := lstI_lt h1
    refine ww_run 14 2 (pc' := 31) (lv' := [(0, .ref 0), (1, .int (nI M)), (2, .int (nI G)), (3, .int warm), (4, .int (nI i))]) (st' := [.int 200, .int (nI i)]) (w' := wMk kp J K) (Ps := []) rfl trivial ?_
    refine ww_icmp_ge 16 rfl (tgt := 89) rfl (fun c1 => ?_) (fun c1 => ?_)
    · have c1 : 200 ≤ i := (nI_leI (a := 200) (b := i) (by omega) (by omega)).mp c1
      refine ww_run 47 1 (pc' := 90) (lv' := [(0, .ref 0), (1, .int (nI M)), (2, .int (nI G)), (3, .int warm), (4, .int (nI i))]) (st' := [.int (-1)]) (w' := wMk kp J K) (Ps := []) rfl trivial ?_
      refine ww_iret 48 rfl rfl ?_
      obtain rfl : i = 200 := by omega
      rw [Nat.sub_self] at hv
      simp only [kpM] at hv
      rw [hv]
      exact hQ kp
    · have c1 : ¬ 200 ≤ i := fun q => c1 ((nI_leI (a := 200) (b := i) (by omega) (by omega)).mpr q)
      refine ww_run 17 4 (pc' := 40) (lv' := [(0, .ref 0), (1, .int (nI M)), (2, .int (nI G)), (3, .int warm), (4, .int (nI i))]) (st' := [.int (nI M), .ref 0, .ref 28]) (w' := wMk kp J K) (Ps := []) rfl trivial ?_
      refine ww_cVi 21 ok_X7_leastTill (c_X7_leastTill kp J K M hM h1) lk_X7_292 rfl (by omega) (rest := [.ref 28]) rfl (Nat.le_of_ble_eq_true rfl) rfl rfl rfl rfl ?_
      refine ww_run 22 2 (pc' := 46) (lv' := [(0, .ref 0), (1, .int (nI M)), (2, .int (nI G)), (3, .int warm), (4, .int (nI i))]) (st' := [.int (nI i), .int (kp (nI (lstI kp M)).toNatClampNeg)]) (w' := wMk kp J K) (Ps := [vp_in (nI (lstI kp M)) 20]) rfl ⟨(vp_in_nI (by omega) (by omega)), trivial⟩ ?_
      rw [nI_clamp (n := (lstI kp M)) (by omega)]
      refine ww_icmp_gt 24 rfl (tgt := 52) rfl (fun c2 => ?_) (fun c2 => ?_)
      · refine ww_run 27 2 (pc' := 55) (lv' := [(5, .int 0), (0, .ref 0), (1, .int (nI M)), (2, .int (nI G)), (3, .int warm), (4, .int (nI i))]) (st' := []) (w' := wMk kp J K) (Ps := []) rfl trivial ?_
        refine ww_lv [1, 2, 3, 4, 5, 0] (lv' := [(0, .ref 0), (1, .int (nI M)), (2, .int (nI G)), (3, .int warm), (4, .int (nI i)), (5, .int 0)]) rfl ?_
        refine l_X7_keepsTill_55 (by omega) kp J K i (by omega) M G warm hM h1 hG ?_ (G + 1) 0 (by omega) (by omega)
        refine ww_run 45 2 (pc' := 26) (lv' := [(4, .int ((nI i) + 1)), (0, .ref 0), (1, .int (nI M)), (2, .int (nI G)), (3, .int warm), (5, .int (nI G))]) (st' := []) (w' := wMk (kpRow M (nI (i + 1) + warm) kp G) J K) (Ps := []) rfl trivial ?_
        rw [nI_1 i]
        refine ww_lv [1, 2, 3, 4, 0] (lv' := [(0, .ref 0), (1, .int (nI M)), (2, .int (nI G)), (3, .int warm), (4, .int (nI (i + 1)))]) rfl ?_
        refine ih (i + 1) _ (by omega) (by omega) ?_
        rw [show 200 - i = (200 - (i + 1)) + 1 by omega] at hv
        simp only [kpM] at hv
        rw [if_neg (Int32.not_le.mpr (by first | exact c2 | exact Int32.not_le.mp c2)), nI_1] at hv
        exact hv
      · refine ww_run 25 1 (pc' := 51) (lv' := [(0, .ref 0), (1, .int (nI M)), (2, .int (nI G)), (3, .int warm), (4, .int (nI i))]) (st' := [.int (nI i)]) (w' := wMk kp J K) (Ps := []) rfl trivial ?_
        refine ww_iret 26 rfl rfl ?_
        rw [show 200 - i = (200 - (i + 1)) + 1 by omega] at hv
        simp only [kpM] at hv
        rw [if_pos (by first | exact c2 | exact Int32.not_lt.mp c2)] at hv
        rw [hv]
        exact hQ kp
set_option maxHeartbeats 4000000 in
set_option maxRecDepth 100000 in
theorem c_X7_keepsTill (kp J : Nat → Int32) (K : Nat → Nat → Int32) (M G : Nat) (warm : Int32) (hM : M ≤ 20) (h1 : 0 < M) (hG : G ≤ 20) : Co M_X7_keepsTill 1 0 0 [.ref 0, .int (nI M), .int (nI G), .int warm] (wMk kp J K) (fun r w' => r = some (.int (kpC M G warm)) ∧ ∃ kp', w' = wMk kp' J K) := by
  refine Co.of ok_X7_keepsTill rfl ?_
  refine ww_run 0 2 (pc' := 3) (lv' := [(4, .int 0), (0, .ref 0), (1, .int (nI M)), (2, .int (nI G)), (3, .int warm)]) (st' := []) (w' := wMk kp J K) (Ps := []) rfl trivial ?_
  suffices hK : WW M_X7_keepsTill 1 (fun r w' => r = some (.int (kpC M G warm)) ∧ ∃ kp', w' = wMk kp' J K) xz 23 [(0, .ref 0), (1, .int (nI M)), (2, .int (nI G)), (3, .int warm), (4, .int (nI M))] [] (wMk (flF kp warm M) J K) by
    refine ww_lv [1, 2, 3, 4, 0] (lv' := [(0, .ref 0), (1, .int (nI M)), (2, .int (nI G)), (3, .int warm), (4, .int 0)]) rfl ?_
    have hh := l_X7_keepsTill_3 (Q := fun r w' => r = some (.int (kpC M G warm)) ∧ ∃ kp', w' = wMk kp' J K) (d := 1) (by omega) kp J K M G warm hM h1 hG hK (M + 1) 0 (by omega) (by omega)
    rw [flF_0] at hh
    exact hh
  refine ww_run 12 2 (pc' := 26) (lv' := [(4, .int 0), (0, .ref 0), (1, .int (nI M)), (2, .int (nI G)), (3, .int warm)]) (st' := []) (w' := wMk (flF kp warm M) J K) (Ps := []) rfl trivial ?_
  refine ww_lv [1, 2, 3, 4, 0] (lv' := [(0, .ref 0), (1, .int (nI M)), (2, .int (nI G)), (3, .int warm), (4, .int 0)]) rfl ?_
  exact l_X7_keepsTill_26 (by omega) J K M G warm hM h1 hG (kpC M G warm) (fun kp => ⟨rfl, kp, rfl⟩) 201 0 _ (by omega) (by omega) (kpM_fill h1)
theorem k20 {x : Int32} {lo : Int32} (h0 : (0 : Int32) ≤ lo) (h : mIn x lo 20) : ∃ j : Nat, j ≤ 20 ∧ x = nI j := nI_of2 (M := 20) (n := 20) rfl (Int32.not_lt.mpr (Int32.le_trans h0 h.1)) h.2
theorem k1 {j : Nat} (hj : j ≤ 20) (h : (1 : Int32) ≤ nI j) : 0 < j := by
  rcases Nat.eq_zero_or_pos j with h0 | h0
  · rw [h0] at h; exact absurd h (by decide)
  · exact h0
/-- the first of the first n, without a bound on where it is -/
theorem firstT_none {ok : Nat → Bool} : ∀ {n : Nat}, firstT ok n = -1 → ∀ q, q < n → n < 1000 → ok q = false
  | 0, _, q, hq, _ => by omega
  | n + 1, h, q, hq, hn => by
    simp only [firstT] at h
    by_cases e : firstT ok n = -1
    · rw [if_pos e] at h
      by_cases e2 : q = n
      · subst e2
        cases hb : ok q with
        | false => rfl
        | true => rw [hb] at h; exact absurd h (nI_ne_m1 (by omega))
      · exact firstT_none e q (by omega) (by omega)
    · rw [if_neg e] at h
      exact absurd h e
set_option maxHeartbeats 4000000 in
set_option maxRecDepth 100000 in
theorem m_ever (kp J : Nat → Int32) (K : Nat → Nat → Int32) (aa bb cc : Int32) : Co M_X7_ever 2 0 0 [.ref 0, .int aa, .int bb, .int cc] (wMk kp J K) (fun r w' => r = some (.int (if mIn aa 1 20 ∧ mIn bb 0 20 ∧ mIn cc 0 20 then kpC aa.toNatClampNeg bb.toNatClampNeg cc else -2)) ∧ ∃ kp', w' = wMk kp' J K) := by
  refine Co.of ok_X7_ever rfl ?_
  refine ww_run 0 3 (pc' := 4) (lv' := [(0, .ref 0), (1, .int aa), (2, .int bb), (3, .int cc)]) (st' := [.int 20, .int 1, .int aa]) (w' := wMk kp J K) (Ps := []) rfl trivial ?_
  refine ww_cSi 3 ok_X7_in (Co.fr0 (c_X7_in aa 1 20) rfl) lk_X7_108 rfl (by omega) (rest := []) rfl (Nat.le_of_ble_eq_true rfl) rfl ?_
  refine ww_if_eq 4 rfl (tgt := 34) rfl (fun c1 => ?_) (fun c1 => ?_)
  · rw [b2i_eq0] at c1
    refine ww_run 17 3 (pc' := 39) (lv' := [(4, .int 0), (0, .ref 0), (1, .int aa), (2, .int bb), (3, .int cc)]) (st' := [.int 0]) (w' := wMk kp J K) (Ps := []) rfl trivial ?_
    refine ww_if_eq 20 rfl (tgt := 52) rfl (fun c2 => ?_) (fun c2 => ?_)
    · refine ww_run 27 1 (pc' := 54) (lv' := [(4, .int 0), (0, .ref 0), (1, .int aa), (2, .int bb), (3, .int cc)]) (st' := [.int (-2)]) (w' := wMk kp J K) (Ps := []) rfl trivial ?_
      refine ww_iret 28 rfl rfl ?_
      exact ⟨by rw [if_neg (by grind)], kp, rfl⟩
    · exact absurd c2 (by decide)
  · rw [b2i_ne0] at c1
    refine ww_run 5 3 (pc' := 14) (lv' := [(0, .ref 0), (1, .int aa), (2, .int bb), (3, .int cc)]) (st' := [.int 20, .int 0, .int bb]) (w' := wMk kp J K) (Ps := []) rfl trivial ?_
    refine ww_cSi 8 ok_X7_in (Co.fr0 (c_X7_in bb 0 20) rfl) lk_X7_108 rfl (by omega) (rest := []) rfl (Nat.le_of_ble_eq_true rfl) rfl ?_
    refine ww_if_eq 9 rfl (tgt := 34) rfl (fun c3 => ?_) (fun c3 => ?_)
    · rw [b2i_eq0] at c3
      refine ww_run 17 3 (pc' := 39) (lv' := [(4, .int 0), (0, .ref 0), (1, .int aa), (2, .int bb), (3, .int cc)]) (st' := [.int 0]) (w' := wMk kp J K) (Ps := []) rfl trivial ?_
      refine ww_if_eq 20 rfl (tgt := 52) rfl (fun c4 => ?_) (fun c4 => ?_)
      · refine ww_run 27 1 (pc' := 54) (lv' := [(4, .int 0), (0, .ref 0), (1, .int aa), (2, .int bb), (3, .int cc)]) (st' := [.int (-2)]) (w' := wMk kp J K) (Ps := []) rfl trivial ?_
        refine ww_iret 28 rfl rfl ?_
        exact ⟨by rw [if_neg (by grind)], kp, rfl⟩
      · exact absurd c4 (by decide)
    · rw [b2i_ne0] at c3
      refine ww_run 10 3 (pc' := 24) (lv' := [(0, .ref 0), (1, .int aa), (2, .int bb), (3, .int cc)]) (st' := [.int 20, .int 0, .int cc]) (w' := wMk kp J K) (Ps := []) rfl trivial ?_
      refine ww_cSi 13 ok_X7_in (Co.fr0 (c_X7_in cc 0 20) rfl) lk_X7_108 rfl (by omega) (rest := []) rfl (Nat.le_of_ble_eq_true rfl) rfl ?_
      refine ww_if_eq 14 rfl (tgt := 34) rfl (fun c5 => ?_) (fun c5 => ?_)
      · rw [b2i_eq0] at c5
        refine ww_run 17 3 (pc' := 39) (lv' := [(4, .int 0), (0, .ref 0), (1, .int aa), (2, .int bb), (3, .int cc)]) (st' := [.int 0]) (w' := wMk kp J K) (Ps := []) rfl trivial ?_
        refine ww_if_eq 20 rfl (tgt := 52) rfl (fun c6 => ?_) (fun c6 => ?_)
        · refine ww_run 27 1 (pc' := 54) (lv' := [(4, .int 0), (0, .ref 0), (1, .int aa), (2, .int bb), (3, .int cc)]) (st' := [.int (-2)]) (w' := wMk kp J K) (Ps := []) rfl trivial ?_
          refine ww_iret 28 rfl rfl ?_
          exact ⟨by rw [if_neg (by grind)], kp, rfl⟩
        · exact absurd c6 (by decide)
      · rw [b2i_ne0] at c5
        refine ww_run 15 2 (pc' := 35) (lv' := [(0, .ref 0), (1, .int aa), (2, .int bb), (3, .int cc)]) (st' := [.int 1]) (w' := wMk kp J K) (Ps := []) rfl trivial ?_
        refine ww_run 18 2 (pc' := 39) (lv' := [(4, .int 1), (0, .ref 0), (1, .int aa), (2, .int bb), (3, .int cc)]) (st' := [.int 1]) (w' := wMk kp J K) (Ps := []) rfl trivial ?_
        refine ww_if_eq 20 rfl (tgt := 52) rfl (fun c7 => ?_) (fun c7 => ?_)
        · exact absurd c7 (by decide)
        · obtain ⟨M, hM, rfl⟩ := k20 (by decide) c1
          obtain ⟨G, hG, rfl⟩ := k20 (by decide) c3
          have h1 := k1 hM c1.1
          refine ww_run 21 4 (pc' := 46) (lv' := [(4, .int 1), (0, .ref 0), (1, .int (nI M)), (2, .int (nI G)), (3, .int cc)]) (st' := [.int cc, .int (nI G), .int (nI M), .ref 0]) (w' := wMk kp J K) (Ps := []) rfl trivial ?_
          refine ww_cV 25 ok_X7_keepsTill (c_X7_keepsTill kp J K M G cc (by omega) (by omega) (by omega)) lk_X7_295 rfl (by omega) (rest := []) rfl (Nat.le_of_ble_eq_true rfl) rfl rfl rfl rfl (fun r w' hq => ?_)
          obtain ⟨rfl, kp1, rfl⟩ := hq
          refine ww_run 26 1 (pc' := 54) (lv' := [(4, .int 1), (0, .ref 0), (1, .int (nI M)), (2, .int (nI G)), (3, .int cc)]) (st' := [.int (kpC M G cc)]) (w' := wMk kp1 J K) (Ps := []) rfl trivial ?_
          refine ww_iret 28 rfl rfl ?_
          exact ⟨by simp only [nI_clamp (n := M) (by omega), nI_clamp (n := G) (by omega)]; rw [if_pos ⟨c1, c3, c5⟩], kp1, rfl⟩
set_option maxHeartbeats 4000000 in
set_option maxRecDepth 100000 in
theorem l_X7_fewest_25 {Q : Option Value → List va_E → Prop} {d : Nat} (hd : 2 ≤ d) (J : Nat → Int32) (K : Nat → Nat → Int32)  (M : Nat) (cc : Int32) (hM : M ≤ 20) (h1 : 0 < M) (hQ : ∀ kp, Q (some (.int (firstT (fun q => decide (kpC M q cc = -1)) 21))) (wMk kp J K)) :
    ∀ (n i : Nat) (kp : Nat → Int32), i ≤ 21 → 21 + 1 ≤ i + n → firstT (fun q => decide (kpC M q cc = -1)) i = -1 → WW M_X7_fewest d Q xz 25 [(0, .ref 0), (1, .int (nI M)), (2, .int cc), (3, .int (nI i))] [] (wMk kp J K) := by
  intro n
  induction n with
  | zero => intro i; intros; omega
  | succ n ih =>
    intro i kp hi hn hf
    refine ww_run 14 2 (pc' := 28) (lv' := [(0, .ref 0), (1, .int (nI M)), (2, .int cc), (3, .int (nI i))]) (st' := [.int 20, .int (nI i)]) (w' := wMk kp J K) (Ps := []) rfl trivial ?_
    refine ww_icmp_gt 16 rfl (tgt := 50) rfl (fun c1 => ?_) (fun c1 => ?_)
    · have c1 : 20 < i := (nI_ltI (a := 20) (b := i) (by omega) (by omega)).mp c1
      refine ww_run 28 1 (pc' := 51) (lv' := [(0, .ref 0), (1, .int (nI M)), (2, .int cc), (3, .int (nI i))]) (st' := [.int (-1)]) (w' := wMk kp J K) (Ps := []) rfl trivial ?_
      refine ww_iret 29 rfl rfl ?_
      obtain rfl : i = 21 := by omega
      have hh := hQ kp
      rw [hf] at hh
      exact hh
    · have c1 : ¬ 20 < i := fun q => c1 ((nI_ltI (a := 20) (b := i) (by omega) (by omega)).mpr q)
      refine ww_run 17 4 (pc' := 35) (lv' := [(0, .ref 0), (1, .int (nI M)), (2, .int cc), (3, .int (nI i))]) (st' := [.int cc, .int (nI i), .int (nI M), .ref 0]) (w' := wMk kp J K) (Ps := []) rfl trivial ?_
      refine ww_cV 21 ok_X7_keepsTill (c_X7_keepsTill kp J K M i cc (by omega) (by omega) (by omega)) lk_X7_295 rfl (by omega) (rest := []) rfl (Nat.le_of_ble_eq_true rfl) rfl rfl rfl rfl (fun r w' hq => ?_)
      obtain ⟨rfl, kp1, rfl⟩ := hq
      refine ww_run 22 1 (pc' := 39) (lv' := [(0, .ref 0), (1, .int (nI M)), (2, .int cc), (3, .int (nI i))]) (st' := [.int (-1), .int (kpC M i cc)]) (w' := wMk kp1 J K) (Ps := []) rfl trivial ?_
      refine ww_icmp_ne 23 rfl (tgt := 44) rfl (fun c2 => ?_) (fun c2 => ?_)
      · refine ww_run 26 2 (pc' := 25) (lv' := [(3, .int ((nI i) + 1)), (0, .ref 0), (1, .int (nI M)), (2, .int cc)]) (st' := []) (w' := wMk kp1 J K) (Ps := []) rfl trivial ?_
        rw [nI_1 i]
        refine ww_lv [1, 2, 3, 0] (lv' := [(0, .ref 0), (1, .int (nI M)), (2, .int cc), (3, .int (nI (i + 1)))]) rfl ?_
        exact ih (i + 1) _ (by omega) (by omega) (firstT_no hf (decide_eq_false c2))
      · refine ww_run 24 1 (pc' := 43) (lv' := [(0, .ref 0), (1, .int (nI M)), (2, .int cc), (3, .int (nI i))]) (st' := [.int (nI i)]) (w' := wMk kp1 J K) (Ps := []) rfl trivial ?_
        refine ww_iret 25 rfl rfl ?_
        have hh := hQ kp1
        rw [firstT_stay hf (decide_eq_true c2) (by omega) (by omega)] at hh
        exact hh
set_option maxHeartbeats 4000000 in
set_option maxRecDepth 100000 in
theorem m_fewest (kp J : Nat → Int32) (K : Nat → Nat → Int32) (aa cc : Int32) : Co M_X7_fewest 3 0 0 [.ref 0, .int aa, .int cc] (wMk kp J K) (fun r w' => r = some (.int (if mIn aa 1 20 ∧ mIn cc 0 20 then firstT (fun q => decide (kpC aa.toNatClampNeg q cc = -1)) 21 else -2)) ∧ ∃ kp', w' = wMk kp' J K) := by
  refine Co.of ok_X7_fewest rfl ?_
  refine ww_run 0 3 (pc' := 4) (lv' := [(0, .ref 0), (1, .int aa), (2, .int cc)]) (st' := [.int 20, .int 1, .int aa]) (w' := wMk kp J K) (Ps := []) rfl trivial ?_
  refine ww_cSi 3 ok_X7_in (Co.fr0 (c_X7_in aa 1 20) rfl) lk_X7_108 rfl (by omega) (rest := []) rfl (Nat.le_of_ble_eq_true rfl) rfl ?_
  refine ww_if_eq 4 rfl (tgt := 20) rfl (fun c1 => ?_) (fun c1 => ?_)
  · rw [b2i_eq0] at c1
    refine ww_run 10 1 (pc' := 22) (lv' := [(0, .ref 0), (1, .int aa), (2, .int cc)]) (st' := [.int (-2)]) (w' := wMk kp J K) (Ps := []) rfl trivial ?_
    refine ww_iret 11 rfl rfl ?_
    exact ⟨by rw [if_neg (by grind)], kp, rfl⟩
  · rw [b2i_ne0] at c1
    refine ww_run 5 3 (pc' := 14) (lv' := [(0, .ref 0), (1, .int aa), (2, .int cc)]) (st' := [.int 20, .int 0, .int cc]) (w' := wMk kp J K) (Ps := []) rfl trivial ?_
    refine ww_cSi 8 ok_X7_in (Co.fr0 (c_X7_in cc 0 20) rfl) lk_X7_108 rfl (by omega) (rest := []) rfl (Nat.le_of_ble_eq_true rfl) rfl ?_
    refine ww_if_ne 9 rfl (tgt := 23) rfl (fun c2 => ?_) (fun c2 => ?_)
    · rw [b2i_ne0] at c2
      obtain ⟨M, hM, rfl⟩ := k20 (by decide) c1
      have h1 := k1 hM c1.1
      refine ww_run 12 2 (pc' := 25) (lv' := [(3, .int 0), (0, .ref 0), (1, .int (nI M)), (2, .int cc)]) (st' := []) (w' := wMk kp J K) (Ps := []) rfl trivial ?_
      refine ww_lv [1, 2, 3, 0] (lv' := [(0, .ref 0), (1, .int (nI M)), (2, .int cc), (3, .int 0)]) rfl ?_
      exact l_X7_fewest_25 (by omega) J K M cc hM h1 (fun kp => ⟨by simp only [nI_clamp (n := M) (by omega)]; rw [if_pos ⟨c1, c2⟩], kp, rfl⟩) 22 0 kp (by omega) (by omega) rfl
    · rw [b2i_eq0] at c2
      refine ww_run 10 1 (pc' := 22) (lv' := [(0, .ref 0), (1, .int aa), (2, .int cc)]) (st' := [.int (-2)]) (w' := wMk kp J K) (Ps := []) rfl trivial ?_
      refine ww_iret 11 rfl rfl ?_
      exact ⟨by rw [if_neg (by grind)], kp, rfl⟩
