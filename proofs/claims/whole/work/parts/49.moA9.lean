theorem ordL_ne : ∀ P : Fin 6, ordL P.val P.val [] ≠ [] := by decide +kernel
theorem ordL_in : ∀ P : Fin 6, (ordL P.val P.val []).all (fun l => decide (l.length = P.val) && l.all (fun q => decide (q < P.val))) = true := by decide +kernel
theorem ordL_len {P : Nat} (hP : P ≤ 5) {l : List Nat} (h : l ∈ ordL P P []) : l.length = P ∧ ∀ q ∈ l, q < P := by
  have h1 := List.all_eq_true.mp (ordL_in ⟨P, by omega⟩) l h
  simp only [Bool.and_eq_true, decide_eq_true_eq, List.all_eq_true] at h1
  exact h1
theorem ordF_set {ev : List Nat → ES} {P : Nat} (h : ∀ l, GS P (ev l)) : ∀ (ls : List (List Nat)) (b : BL), BOK (b3L b) → ls ≠ [] → BSET (b3L (ordF ev P b ls))
  | [], b, _, hn => absurd rfl hn
  | [l], b, hb, _ => by
    show BSET (b3L (btl P b l (ev l)))
    rw [b3L_btl]
    exact btr_set hb (h l)
  | l :: l2 :: ls, b, hb, _ => by
    show BSET (b3L (ordF ev P (btl P b l (ev l)) (l2 :: ls)))
    exact ordF_set h (l2 :: ls) _ (by rw [b3L_btl]; exact btr_ok hb (h l)) (by simp)
theorem ordF_tag {ev : List Nat → ES} {P : Nat} : ∀ (ls : List (List Nat)) (b : BL), ordF ev P b ls = b ∨ (ordF ev P b ls).1 ∈ ls ∧ ordF ev P b ls = ((ordF ev P b ls).1, riS (ev (ordF ev P b ls).1), stS P (ev (ordF ev P b ls).1))
  | [], b => Or.inl rfl
  | l :: ls, b => by
    show ordF ev P (btl P b l (ev l)) ls = b ∨ _
    have he : ordF ev P b (l :: ls) = ordF ev P (btl P b l (ev l)) ls := rfl
    rw [he]
    rcases ordF_tag (ev := ev) (P := P) ls (btl P b l (ev l)) with h | ⟨h1, h2⟩
    · rw [h]
      unfold btl
      split
      · exact Or.inl rfl
      · exact Or.inr ⟨List.mem_cons_self, rfl⟩
    · exact Or.inr ⟨List.mem_cons_of_mem _ h1, h2⟩
/-- the best of all ways -/
def ordB (ev : List Nat → ES) (P : Nat) : BL := ordF ev P ([], -1, 0) (ordL P P [])
theorem ordB_ok {ev : List Nat → ES} {P : Nat} (hP : P ≤ 5) (h : ∀ l, GS P (ev l)) : BSET (b3L (ordB ev P)) ∧ (ordB ev P).1 ∈ ordL P P [] ∧ (ordB ev P).2 = (riS (ev (ordB ev P).1), stS P (ev (ordB ev P).1)) := by
  have h1 : BSET (b3L (ordB ev P)) := ordF_set h _ _ (Or.inl ⟨rfl, rfl⟩) (ordL_ne ⟨P, by omega⟩)
  refine ⟨h1, ?_⟩
  rcases ordF_tag (ev := ev) (P := P) (ordL P P []) ([], -1, 0) with h2 | ⟨h2, h3⟩
  · exfalso
    have h4 : sm 5 (ordF ev P ([], -1, 0) (ordL P P [])).2.1 := h1.1
    rw [h2] at h4
    obtain ⟨a, ha, hb⟩ := h4
    exact nI_ne_m1 (n := a) (by omega) hb.symm
  · exact ⟨h2, congrArg (fun q => q.2) h3⟩
def digN (l : List Nat) : Nat := l.foldl (fun d q => 10 * d + q) 0
theorem digN_app (l : List Nat) (q : Nat) : digN (l ++ [q]) = 10 * digN l + q := by
  unfold digN
  rw [List.foldl_append]
  rfl
theorem digL_N : ∀ (l : List Nat) (a : Nat), l.foldl (fun d q => 10 * d + nI q) (nI a) = nI (l.foldl (fun d q => 10 * d + q) a)
  | [], _ => rfl
  | q :: l, a => by
    simp only [List.foldl_cons]
    rw [← digL_N l (10 * a + q), show (10 : Int32) * nI a = nI (10 * a) from pk_mul 10 a, nI_add]
theorem digL_eq (l : List Nat) : digL l = nI (digN l) := digL_N l 0
theorem digN_lt : ∀ (l : List Nat) (a : Nat), (∀ q ∈ l, q < 10) → l.foldl (fun d q => 10 * d + q) a < (a + 1) * 10 ^ l.length
  | [], a, _ => by simp
  | q :: l, a, h => by
    simp only [List.foldl_cons, List.length_cons]
    have h1 := digN_lt l (10 * a + q) (fun x hx => h x (List.mem_cons_of_mem _ hx))
    have h2 := h q List.mem_cons_self
    refine Nat.lt_of_lt_of_le h1 ?_
    rw [Nat.pow_succ, Nat.mul_comm (10 ^ l.length) 10, ← Nat.mul_assoc]
    exact Nat.mul_le_mul_right _ (by omega)
theorem digN_5 {l : List Nat} (h : ∀ q ∈ l, q < 10) (hl : l.length ≤ 5) : digN l < 100000 := by
  have h1 := digN_lt l 0 h
  have h2 : 10 ^ l.length ≤ 10 ^ 5 := Nat.pow_le_pow_right (by omega) hl
  have h3 : digN l < (0 + 1) * 10 ^ l.length := h1
  omega
theorem take_s {l : List Nat} {j : Nat} (h : j < l.length) : l.take (j + 1) = l.take j ++ [l.getD j 0] := by
  rw [List.take_succ, List.getD_eq_getElem?_getD, List.getElem?_eq_getElem h]
  rfl
/-- FROMs from one on as a row has them -/
def rowG (fr : Nat → Int32) (kf : Nat → Int32) (P : Nat) (l : List Nat) (j : Nat) : Nat → Int32 := fun q => if j ≤ q ∧ q < P then kf (l.getD q 0) else fr q
theorem rowG_s {fr kf : Nat → Int32} {P : Nat} {l : List Nat} {j : Nat} (h : j < P) : upd (rowG fr kf P l (j + 1)) j (kf (l.getD j 0)) = rowG fr kf P l j := by
  funext q
  simp only [upd, rowG]
  by_cases e : q = j
  · subst e
    rw [if_pos rfl, if_pos ⟨Nat.le_refl _, h⟩]
  · rw [if_neg e]
    by_cases h2 : j + 1 ≤ q ∧ q < P
    · rw [if_pos h2, if_pos ⟨by omega, h2.2⟩]
    · rw [if_neg h2, if_neg (by omega)]
theorem rowG_0 {fr kf : Nat → Int32} {P : Nat} {l : List Nat} (hl : l.length = P) (hm : ∀ q ∈ l, q < P) (hk : ∀ q, q < P → kf q = fr q) : rowG fr kf P l 0 = rowF fr P l := by
  funext q
  simp only [rowG, rowF]
  by_cases h : q < P
  · rw [if_pos ⟨Nat.zero_le _, h⟩, if_pos h, hk]
    rw [List.getD_eq_getElem?_getD, List.getElem?_eq_getElem (by omega)]
    exact hm _ (List.getElem_mem _)
  · rw [if_neg (by omega), if_neg h]
theorem rowG_P {fr kf : Nat → Int32} {P : Nat} {l : List Nat} : rowG fr kf P l P = fr := by
  funext q
  simp only [rowG]
  rw [if_neg (by omega)]
set_option maxHeartbeats 4000000 in
set_option maxRecDepth 100000 in
theorem l_X7_findsOrder_2 {Q : Option Value → List va_E → Prop} {d : Nat} (hd : 0 ≤ d) (ki mo cd sr kf : Nat → Int32) (lent brow bw : Int32) (J : Nat → Int32) (K : Nat → Nat → Int32) (fr lo fa : Nat → Int32) (sty wset wfor : Int32) (x : MS) (z : Z3) (sy : SY) (T P C k : Nat) (hP : P ≤ 5) (hC : C ≤ 6) (hk : k < T) (hL : ML cd sr T sy) (hmo : MO6 mo) (hwf : sm 30 wfor) (KK : WW M_X7_findsOrder d Q xz 30 [(0, .ref 0), (1, .int (nI P))] [] (wMo (wiF fr lo fa) ki mo (hoF sty wset wfor) cd sr z.2.1 z.1 x.2.2.2.2.2.1 x.2.2.2.2.2.2 x.1 x.2.1 x.2.2.1 x.2.2.2.1 x.2.2.2.2.1 z.2.2 (mixF kf fr P) (nI P) (nI C) (nI k) lent brow bw J K)) :
    ∀ (n i : Nat) , i ≤ P → P + 1 ≤ i + n → WW M_X7_findsOrder d Q xz 2 [(0, .ref 0), (1, .int (nI i))] [] (wMo (wiF fr lo fa) ki mo (hoF sty wset wfor) cd sr z.2.1 z.1 x.2.2.2.2.2.1 x.2.2.2.2.2.2 x.1 x.2.1 x.2.2.1 x.2.2.2.1 x.2.2.2.2.1 z.2.2 (mixF kf fr i) (nI P) (nI C) (nI k) lent brow bw J K) := by
  intro n
  induction n with
  | zero => intro i; intros; omega
  | succ n ih =>
    intro i  hi hn 
    refine ww_run 2 3 (pc' := 7) (lv' := [(0, .ref 0), (1, .int (nI i))]) (st' := [.int (nI P), .int (nI i)]) (w' := wMo (wiF fr lo fa) ki mo (hoF sty wset wfor) cd sr z.2.1 z.1 x.2.2.2.2.2.1 x.2.2.2.2.2.2 x.1 x.2.1 x.2.2.1 x.2.2.2.1 x.2.2.2.2.1 z.2.2 (mixF kf fr i) (nI P) (nI C) (nI k) lent brow bw J K) (Ps := []) rfl trivial ?_
    refine ww_icmp_ge 5 rfl (tgt := 30) rfl (fun c1 => ?_) (fun c1 => ?_)
    · have c1 : P ≤ i := (nI_leI (a := P) (b := i) (by omega) (by omega)).mp c1
      obtain rfl : i = P := by omega
      exact KK
    · have c1 : ¬ P ≤ i := fun q => c1 ((nI_leI (a := P) (b := i) (by omega) (by omega)).mpr q)
      refine ww_run 6 12 (pc' := 2) (lv' := [(1, .int ((nI i) + 1)), (0, .ref 0)]) (st' := []) (w' := wMo (wiF fr lo fa) ki mo (hoF sty wset wfor) cd sr z.2.1 z.1 x.2.2.2.2.2.1 x.2.2.2.2.2.2 x.1 x.2.1 x.2.2.1 x.2.2.2.1 x.2.2.2.2.1 z.2.2 (upd (mixF kf fr i) ((nI i).toNatClampNeg) ((wiF fr lo fa) (3 * (nI i)).toNatClampNeg)) (nI P) (nI C) (nI k) lent brow bw J K) (Ps := [vp_in (3 * (nI i)) 15, vp_in (nI i) 5]) rfl ⟨(by rw [show (3 : Int32) * nI i = nI (3 * i) from pk_mul 3 i]; exact vp_in_nI (by omega) (by omega)), (vp_in_nI (by omega) (by omega)), trivial⟩ ?_
      rw [nI_clamp (n := i) (by omega)]
      rw [nI_1 i]
      rw [show (3 : Int32) * nI i = nI (3 * i) from pk_mul 3 i]
      rw [nI_clamp (n := (3 * i)) (by omega)]
      rw [wi0]
      refine ww_lv [1, 0] (lv' := [(0, .ref 0), (1, .int (nI (i + 1)))]) rfl ?_
      rw [mixF_s rfl]
      exact ih (i + 1) (by omega) (by omega)
set_option maxHeartbeats 4000000 in
set_option maxRecDepth 100000 in
theorem l_X7_findsOrder_51 {Q : Option Value → List va_E → Prop} {d : Nat} (hd : 0 ≤ d) (ki mo cd sr kf : Nat → Int32) (lent brow bw : Int32) (J : Nat → Int32) (K : Nat → Nat → Int32) (fr lo fa : Nat → Int32) (sty wset wfor : Int32) (x : MS) (z : Z3) (sy : SY) (T P C k : Nat) (hP : P ≤ 5) (hC : C ≤ 6) (hk : k < T) (hL : ML cd sr T sy) (hmo : MO6 mo) (fr1 : Nat → Int32) (hwf : sm 30 wfor) (KK : WW M_X7_findsOrder d Q xz 79 [(0, .ref 0), (1, .int (nI P))] [] (wMo (wiF (mixF fr1 kf P) lo fa) ki mo (hoF sty wset wfor) cd sr z.2.1 z.1 x.2.2.2.2.2.1 x.2.2.2.2.2.2 x.1 x.2.1 x.2.2.1 x.2.2.2.1 x.2.2.2.2.1 z.2.2 kf (nI P) (nI C) (nI k) lent brow bw J K)) :
    ∀ (n i : Nat) , i ≤ P → P + 1 ≤ i + n → WW M_X7_findsOrder d Q xz 51 [(0, .ref 0), (1, .int (nI i))] [] (wMo (wiF (mixF fr1 kf i) lo fa) ki mo (hoF sty wset wfor) cd sr z.2.1 z.1 x.2.2.2.2.2.1 x.2.2.2.2.2.2 x.1 x.2.1 x.2.2.1 x.2.2.2.1 x.2.2.2.2.1 z.2.2 kf (nI P) (nI C) (nI k) lent brow bw J K) := by
  intro n
  induction n with
  | zero => intro i; intros; omega
  | succ n ih =>
    intro i  hi hn 
    refine ww_run 31 3 (pc' := 56) (lv' := [(0, .ref 0), (1, .int (nI i))]) (st' := [.int (nI P), .int (nI i)]) (w' := wMo (wiF (mixF fr1 kf i) lo fa) ki mo (hoF sty wset wfor) cd sr z.2.1 z.1 x.2.2.2.2.2.1 x.2.2.2.2.2.2 x.1 x.2.1 x.2.2.1 x.2.2.2.1 x.2.2.2.2.1 z.2.2 kf (nI P) (nI C) (nI k) lent brow bw J K) (Ps := []) rfl trivial ?_
    refine ww_icmp_ge 34 rfl (tgt := 79) rfl (fun c1 => ?_) (fun c1 => ?_)
    · have c1 : P ≤ i := (nI_leI (a := P) (b := i) (by omega) (by omega)).mp c1
      obtain rfl : i = P := by omega
      exact KK
    · have c1 : ¬ P ≤ i := fun q => c1 ((nI_leI (a := P) (b := i) (by omega) (by omega)).mpr q)
      refine ww_run 35 12 (pc' := 51) (lv' := [(1, .int ((nI i) + 1)), (0, .ref 0)]) (st' := []) (w' := wMo (upd (wiF (mixF fr1 kf i) lo fa) ((3 * (nI i)).toNatClampNeg) (kf (nI i).toNatClampNeg)) ki mo (hoF sty wset wfor) cd sr z.2.1 z.1 x.2.2.2.2.2.1 x.2.2.2.2.2.2 x.1 x.2.1 x.2.2.1 x.2.2.2.1 x.2.2.2.2.1 z.2.2 kf (nI P) (nI C) (nI k) lent brow bw J K) (Ps := [vp_in (nI i) 5, vp_in (3 * (nI i)) 15]) rfl ⟨(vp_in_nI (by omega) (by omega)), (by rw [show (3 : Int32) * nI i = nI (3 * i) from pk_mul 3 i]; exact vp_in_nI (by omega) (by omega)), trivial⟩ ?_
      rw [nI_clamp (n := i) (by omega)]
      rw [nI_1 i]
      rw [show (3 : Int32) * nI i = nI (3 * i) from pk_mul 3 i]
      rw [nI_clamp (n := (3 * i)) (by omega)]
      rw [wi_u0]
      refine ww_lv [1, 0] (lv' := [(0, .ref 0), (1, .int (nI (i + 1)))]) rfl ?_
      rw [mixF_s rfl]
      exact ih (i + 1) (by omega) (by omega)
set_option maxHeartbeats 4000000 in
set_option maxRecDepth 100000 in
theorem m_findsOrder (ki mo cd sr kf : Nat → Int32) (lent brow bw : Int32) (J : Nat → Int32) (K : Nat → Nat → Int32) (fr lo fa : Nat → Int32) (sty wset wfor : Int32) (x : MS) (z : Z3) (sy : SY) (T P C k : Nat) (hP : P ≤ 5) (hC : C ≤ 6) (hk : k < T) (hL : ML cd sr T sy) (hmo : MO6 mo) (hwf : sm 30 wfor) : Co M_X7_findsOrder 14 0 0 [.ref 0] (wMo (wiF fr lo fa) ki mo (hoF sty wset wfor) cd sr z.2.1 z.1 x.2.2.2.2.2.1 x.2.2.2.2.2.2 x.1 x.2.1 x.2.2.1 x.2.2.2.1 x.2.2.2.2.1 z.2.2 kf (nI P) (nI C) (nI k) lent brow bw J K) (fun r w' => r = none ∧ ∃ (x : MS) (z : Z3), w' = wMo (wiF fr lo fa) ki mo (hoF sty wset wfor) cd sr z.2.1 z.1 x.2.2.2.2.2.1 x.2.2.2.2.2.2 x.1 x.2.1 x.2.2.1 x.2.2.2.1 x.2.2.2.2.1 z.2.2 (mixF kf fr P) (nI P) (nI C) (nI k) lent (digL (ordB (fun l => (evS sy P C (rowF fr P l) lo fa ki mo k sty wset wfor lent 30)) P).1) (mostOf (b3L (ordB (fun l => (evS sy P C (rowF fr P l) lo fa ki mo k sty wset wfor lent 30)) P))) J K) := by
  refine Co.of ok_X7_findsOrder rfl ?_
  refine ww_run 0 2 (pc' := 2) (lv' := [(1, .int 0), (0, .ref 0)]) (st' := []) (w' := wMo (wiF fr lo fa) ki mo (hoF sty wset wfor) cd sr z.2.1 z.1 x.2.2.2.2.2.1 x.2.2.2.2.2.2 x.1 x.2.1 x.2.2.1 x.2.2.2.1 x.2.2.2.2.1 z.2.2 kf (nI P) (nI C) (nI k) lent brow bw J K) (Ps := []) rfl trivial ?_
  refine ww_lv [1, 0] (lv' := [(0, .ref 0), (1, .int 0)]) rfl ?_
  suffices hK : WW M_X7_findsOrder 14 (fun r w' => r = none ∧ ∃ (x : MS) (z : Z3), w' = wMo (wiF fr lo fa) ki mo (hoF sty wset wfor) cd sr z.2.1 z.1 x.2.2.2.2.2.1 x.2.2.2.2.2.2 x.1 x.2.1 x.2.2.1 x.2.2.2.1 x.2.2.2.2.1 z.2.2 (mixF kf fr P) (nI P) (nI C) (nI k) lent (digL (ordB (fun l => (evS sy P C (rowF fr P l) lo fa ki mo k sty wset wfor lent 30)) P).1) (mostOf (b3L (ordB (fun l => (evS sy P C (rowF fr P l) lo fa ki mo k sty wset wfor lent 30)) P))) J K) xz 30 [(0, .ref 0), (1, .int (nI P))] [] (wMo (wiF fr lo fa) ki mo (hoF sty wset wfor) cd sr z.2.1 z.1 x.2.2.2.2.2.1 x.2.2.2.2.2.2 x.1 x.2.1 x.2.2.1 x.2.2.2.1 x.2.2.2.2.1 z.2.2 (mixF kf fr P) (nI P) (nI C) (nI k) lent brow bw J K) by
    have hh := l_X7_findsOrder_2 (Q := fun r w' => r = none ∧ ∃ (x : MS) (z : Z3), w' = wMo (wiF fr lo fa) ki mo (hoF sty wset wfor) cd sr z.2.1 z.1 x.2.2.2.2.2.1 x.2.2.2.2.2.2 x.1 x.2.1 x.2.2.1 x.2.2.2.1 x.2.2.2.2.1 z.2.2 (mixF kf fr P) (nI P) (nI C) (nI k) lent (digL (ordB (fun l => (evS sy P C (rowF fr P l) lo fa ki mo k sty wset wfor lent 30)) P).1) (mostOf (b3L (ordB (fun l => (evS sy P C (rowF fr P l) lo fa ki mo k sty wset wfor lent 30)) P))) J K) (d := 14) (by omega) ki mo cd sr kf lent brow bw J K fr lo fa sty wset wfor x z sy T P C k hP hC hk hL hmo hwf hK (P + 1) 0 (by omega) (by omega)
    rw [mixF_0] at hh
    exact hh
  refine ww_run 18 10 (pc' := 46) (lv' := [(0, .ref 0), (1, .int (nI P))]) (st' := [.int 0, .int 0, .int 0, .ref 0]) (w' := wMo (wiF fr lo fa) ki mo (hoF sty wset wfor) cd sr z.2.1 z.1 x.2.2.2.2.2.1 x.2.2.2.2.2.2 x.1 x.2.1 x.2.2.1 x.2.2.2.1 x.2.2.2.2.1 z.2.2 (mixF kf fr P) (nI P) (nI C) (nI k) lent 0 (-100000) J K) (Ps := []) rfl trivial ?_
  have hkf : ∀ q, q < P → mixF kf fr P q = fr q := fun q hq => by simp [mixF, hq]
  have hpf0 : PF P fr (mixF kf fr P) fr [] := ⟨fun q hq => absurd hq (Nat.not_lt_zero q), fun _ _ => rfl⟩
  rw [show (-100000 : Int32) = mostOf (b3L ([], -1, 0)) by decide]
  refine ww_cV 28 (b := 0) (av := [.int (nI ([] : List Nat).length), .int (tkL []), .int (digL [])]) ok_X7_orders (m_orders ki mo cd sr (mixF kf fr P) lent J K fr lo fa sty wset wfor sy T P C k hP hC hk hL hmo hwf hkf P [] ([], -1, 0) fr x z (by simp) (by simp) (Or.inl ⟨rfl, rfl⟩) hpf0) lk_X7_281 rfl (by omega) (rest := []) rfl (Nat.le_of_ble_eq_true rfl) rfl rfl rfl rfl (fun r w' hq => ?_)
  obtain ⟨rfl, fr1, x1, z1, hpf1, rfl⟩ := hq
  refine ww_run 29 2 (pc' := 51) (lv' := [(1, .int 0), (0, .ref 0)]) (st' := []) (w' := wMo (wiF fr1 lo fa) ki mo (hoF sty wset wfor) cd sr z1.2.1 z1.1 x1.2.2.2.2.2.1 x1.2.2.2.2.2.2 x1.1 x1.2.1 x1.2.2.1 x1.2.2.2.1 x1.2.2.2.2.1 z1.2.2 (mixF kf fr P) (nI P) (nI C) (nI k) lent (digL (ordB (fun l => (evS sy P C (rowF fr P l) lo fa ki mo k sty wset wfor lent 30)) P).1) (mostOf (b3L (ordB (fun l => (evS sy P C (rowF fr P l) lo fa ki mo k sty wset wfor lent 30)) P))) J K) (Ps := []) rfl trivial ?_
  suffices hK : WW M_X7_findsOrder 14 (fun r w' => r = none ∧ ∃ (x : MS) (z : Z3), w' = wMo (wiF fr lo fa) ki mo (hoF sty wset wfor) cd sr z.2.1 z.1 x.2.2.2.2.2.1 x.2.2.2.2.2.2 x.1 x.2.1 x.2.2.1 x.2.2.2.1 x.2.2.2.2.1 z.2.2 (mixF kf fr P) (nI P) (nI C) (nI k) lent (digL (ordB (fun l => (evS sy P C (rowF fr P l) lo fa ki mo k sty wset wfor lent 30)) P).1) (mostOf (b3L (ordB (fun l => (evS sy P C (rowF fr P l) lo fa ki mo k sty wset wfor lent 30)) P))) J K) xz 79 [(0, .ref 0), (1, .int (nI P))] [] (wMo (wiF (mixF fr1 (mixF kf fr P) P) lo fa) ki mo (hoF sty wset wfor) cd sr z1.2.1 z1.1 x1.2.2.2.2.2.1 x1.2.2.2.2.2.2 x1.1 x1.2.1 x1.2.2.1 x1.2.2.2.1 x1.2.2.2.2.1 z1.2.2 (mixF kf fr P) (nI P) (nI C) (nI k) lent (digL (ordB (fun l => (evS sy P C (rowF fr P l) lo fa ki mo k sty wset wfor lent 30)) P).1) (mostOf (b3L (ordB (fun l => (evS sy P C (rowF fr P l) lo fa ki mo k sty wset wfor lent 30)) P))) J K) by
    refine ww_lv [1, 0] (lv' := [(0, .ref 0), (1, .int 0)]) rfl ?_
    have hh := l_X7_findsOrder_51 (Q := fun r w' => r = none ∧ ∃ (x : MS) (z : Z3), w' = wMo (wiF fr lo fa) ki mo (hoF sty wset wfor) cd sr z.2.1 z.1 x.2.2.2.2.2.1 x.2.2.2.2.2.2 x.1 x.2.1 x.2.2.1 x.2.2.2.1 x.2.2.2.2.1 z.2.2 (mixF kf fr P) (nI P) (nI C) (nI k) lent (digL (ordB (fun l => (evS sy P C (rowF fr P l) lo fa ki mo k sty wset wfor lent 30)) P).1) (mostOf (b3L (ordB (fun l => (evS sy P C (rowF fr P l) lo fa ki mo k sty wset wfor lent 30)) P))) J K) (d := 14) (by omega) ki mo cd sr (mixF kf fr P) lent (digL (ordB (fun l => (evS sy P C (rowF fr P l) lo fa ki mo k sty wset wfor lent 30)) P).1) (mostOf (b3L (ordB (fun l => (evS sy P C (rowF fr P l) lo fa ki mo k sty wset wfor lent 30)) P))) J K fr lo fa sty wset wfor x1 z1 sy T P C k hP hC hk hL hmo fr1 hwf hK (P + 1) 0 (by omega) (by omega)
    rw [mixF_0] at hh
    exact hh
  have hfr : mixF fr1 (mixF kf fr P) P = fr := by
    funext q
    by_cases hq : q < P
    · simp [mixF, hq]
    · rw [show mixF fr1 (mixF kf fr P) P q = fr1 q by simp [mixF, hq]]
      exact hpf1.2 q (by omega)
  rw [hfr]
  refine ww_vret 47 rfl rfl ?_
  exact ⟨rfl, x1, z1, rfl⟩
set_option maxHeartbeats 4000000 in
set_option maxRecDepth 100000 in
theorem m_order (ki mo cd sr kf : Nat → Int32) (lent brow bw : Int32) (J : Nat → Int32) (K : Nat → Nat → Int32) (fr lo fa : Nat → Int32) (sty wset wfor : Int32) (x : MS) (z : Z3) (sy : SY) (T P C k : Nat) (hP : P ≤ 5) (hC : C ≤ 6) (hk : k < T) (hL : ML cd sr T sy) (hmo : MO6 mo) (hwf : sm 30 wfor) (what : Int32) : Co M_X7_order 15 0 0 [.ref 0, .int what] (wMo (wiF fr lo fa) ki mo (hoF sty wset wfor) cd sr z.2.1 z.1 x.2.2.2.2.2.1 x.2.2.2.2.2.2 x.1 x.2.1 x.2.2.1 x.2.2.2.1 x.2.2.2.2.1 z.2.2 kf (nI P) (nI C) (nI k) lent brow bw J K) (fun r w' => r = some (.int (if ¬ mIn what 0 2 then -2 else tellB what (b3L (ordB (fun l => (evS sy P C (rowF fr P l) lo fa ki mo k sty wset wfor lent 30)) P)))) ∧ ∃ (x : MS) (z : Z3) (kf : Nat → Int32) (brow bw : Int32), w' = wMo (wiF fr lo fa) ki mo (hoF sty wset wfor) cd sr z.2.1 z.1 x.2.2.2.2.2.1 x.2.2.2.2.2.2 x.1 x.2.1 x.2.2.1 x.2.2.2.1 x.2.2.2.2.1 z.2.2 kf (nI P) (nI C) (nI k) lent brow bw J K) := by
  refine Co.of ok_X7_order rfl ?_
  refine ww_run 0 3 (pc' := 3) (lv' := [(0, .ref 0), (1, .int what)]) (st' := [.int 2, .int 0, .int what]) (w' := wMo (wiF fr lo fa) ki mo (hoF sty wset wfor) cd sr z.2.1 z.1 x.2.2.2.2.2.1 x.2.2.2.2.2.2 x.1 x.2.1 x.2.2.1 x.2.2.2.1 x.2.2.2.2.1 z.2.2 kf (nI P) (nI C) (nI k) lent brow bw J K) (Ps := []) rfl trivial ?_
  refine ww_cSi 3 ok_X7_in (Co.fr0 (c_X7_in what 0 2) rfl) lk_X7_108 rfl (by omega) (rest := []) rfl (Nat.le_of_ble_eq_true rfl) rfl ?_
  refine ww_if_ne 4 rfl (tgt := 12) rfl (fun c1 => ?_) (fun c1 => ?_)
  · rw [b2i_ne0] at c1
    refine ww_run 7 1 (pc' := 13) (lv' := [(0, .ref 0), (1, .int what)]) (st' := [.ref 0]) (w' := wMo (wiF fr lo fa) ki mo (hoF sty wset wfor) cd sr z.2.1 z.1 x.2.2.2.2.2.1 x.2.2.2.2.2.2 x.1 x.2.1 x.2.2.1 x.2.2.2.1 x.2.2.2.2.1 z.2.2 kf (nI P) (nI C) (nI k) lent brow bw J K) (Ps := []) rfl trivial ?_
    refine ww_cV 8 ok_X7_findsOrder (m_findsOrder ki mo cd sr kf lent brow bw J K fr lo fa sty wset wfor x z sy T P C k hP hC hk hL hmo hwf) lk_X7_285 rfl (by omega) (rest := []) rfl (Nat.le_of_ble_eq_true rfl) rfl rfl rfl rfl (fun r w' hq => ?_)
    obtain ⟨rfl, x1, z1, rfl⟩ := hq
    have hGa : ∀ l, GS P ((fun l => (evS sy P C (rowF fr P l) lo fa ki mo k sty wset wfor lent 30)) l) := fun l => GS_of hP (evS_inv hL.2.1 hP hC hmo (by omega)) (evS_num hL.2.1 hP hC hmo hwf (by omega))
    obtain ⟨hB1, hB2, hB3⟩ := ordB_ok hP hGa
    refine ww_run 9 6 (pc' := 26) (lv' := [(0, .ref 0), (1, .int what)]) (st' := [.int (mostOf (b3L (ordB (fun l => (evS sy P C (rowF fr P l) lo fa ki mo k sty wset wfor lent 30)) P))), .int (digL (ordB (fun l => (evS sy P C (rowF fr P l) lo fa ki mo k sty wset wfor lent 30)) P).1), .int what, .ref 0]) (w' := wMo (wiF fr lo fa) ki mo (hoF sty wset wfor) cd sr z1.2.1 z1.1 x1.2.2.2.2.2.1 x1.2.2.2.2.2.2 x1.1 x1.2.1 x1.2.2.1 x1.2.2.2.1 x1.2.2.2.2.1 z1.2.2 (mixF kf fr P) (nI P) (nI C) (nI k) lent (digL (ordB (fun l => (evS sy P C (rowF fr P l) lo fa ki mo k sty wset wfor lent 30)) P).1) (mostOf (b3L (ordB (fun l => (evS sy P C (rowF fr P l) lo fa ki mo k sty wset wfor lent 30)) P))) J K) (Ps := []) rfl trivial ?_
    refine ww_cVi 15 ok_X7_told3 (c_X7_told3 (wiF fr lo fa) ki mo (hoF sty wset wfor) cd sr z1.2.1 z1.1 x1.2.2.2.2.2.1 x1.2.2.2.2.2.2 x1.1 x1.2.1 x1.2.2.1 x1.2.2.2.1 x1.2.2.2.2.1 z1.2.2 (nI P) (nI C) (nI k) lent (fun q => if q = 44 then digL (ordB (fun l => (evS sy P C (rowF fr P l) lo fa ki mo k sty wset wfor lent 30)) P).1 else if q = 45 then mostOf (b3L (ordB (fun l => (evS sy P C (rowF fr P l) lo fa ki mo k sty wset wfor lent 30)) P)) else J q) (fun q => if q = 43 then mixF kf fr P else K q) what (digL (ordB (fun l => (evS sy P C (rowF fr P l) lo fa ki mo k sty wset wfor lent 30)) P).1) (mostOf (b3L (ordB (fun l => (evS sy P C (rowF fr P l) lo fa ki mo k sty wset wfor lent 30)) P)))) lk_X7_272 rfl (by omega) (rest := []) rfl (Nat.le_of_ble_eq_true rfl) rfl rfl rfl rfl ?_
    refine ww_iret 16 rfl rfl ?_
    exact ⟨by rw [if_neg (fun q => q c1)]; exact congrArg (fun v => some (Value.int v)) (tell_told (what := what) (b := b3L (ordB (fun l => (evS sy P C (rowF fr P l) lo fa ki mo k sty wset wfor lent 30)) P)) hB1), x1, z1, _, _, _, rfl⟩
  · rw [b2i_eq0] at c1
    refine ww_run 5 1 (pc' := 11) (lv' := [(0, .ref 0), (1, .int what)]) (st' := [.int (-2)]) (w' := wMo (wiF fr lo fa) ki mo (hoF sty wset wfor) cd sr z.2.1 z.1 x.2.2.2.2.2.1 x.2.2.2.2.2.2 x.1 x.2.1 x.2.2.1 x.2.2.2.1 x.2.2.2.2.1 z.2.2 kf (nI P) (nI C) (nI k) lent brow bw J K) (Ps := []) rfl trivial ?_
    refine ww_iret 6 rfl rfl ?_
    exact ⟨by rw [if_pos c1], x, z, kf, brow, bw, rfl⟩
set_option maxHeartbeats 4000000 in
set_option maxRecDepth 100000 in
theorem l_X7_invite_16 {Q : Option Value → List va_E → Prop} {d : Nat} (ki mo cd sr kf : Nat → Int32) (lent brow bw : Int32) (J : Nat → Int32) (K : Nat → Nat → Int32) (fr lo fa : Nat → Int32) (sty wset wfor : Int32) (x : MS) (z : Z3) (sy : SY) (T P C k : Nat) (hP : P ≤ 5) (hC : C ≤ 6) (hk : k < T) (hL : ML cd sr T sy) (hmo : MO6 mo) (hwf : sm 30 wfor) (l : List Nat) (hl : l.length = P) (hlm : ∀ q ∈ l, q < P) (KK : WW M_X7_invite d Q xz 48 [(0, .ref 0)] [] (wMo (wiF (rowG fr kf P l 0) lo fa) ki mo (hoF sty wset wfor) cd sr z.2.1 z.1 x.2.2.2.2.2.1 x.2.2.2.2.2.2 x.1 x.2.1 x.2.2.1 x.2.2.2.1 x.2.2.2.2.1 z.2.2 kf (nI P) (nI C) (nI k) lent brow bw J K)) :
    ∀ (j : Nat), j ≤ P → WW M_X7_invite d Q xz 16 [(0, .ref 0), (1, .int (nI (digN (l.take j)))), (2, .int (nI j + (-1)))] [] (wMo (wiF (rowG fr kf P l j) lo fa) ki mo (hoF sty wset wfor) cd sr z.2.1 z.1 x.2.2.2.2.2.1 x.2.2.2.2.2.2 x.1 x.2.1 x.2.2.1 x.2.2.2.1 x.2.2.2.2.1 z.2.2 kf (nI P) (nI C) (nI k) lent brow bw J K) := by
  intro j
  induction j with
  | zero =>
    intro hj
    rw [show nI 0 + (-1) = (-1 : Int32) by decide]
    refine ww_run 10 1 (pc' := 17) (lv' := [(0, .ref 0), (1, .int (nI (digN (l.take 0)))), (2, .int (-1))]) (st' := [.int (-1)]) (w' := wMo (wiF (rowG fr kf P l 0) lo fa) ki mo (hoF sty wset wfor) cd sr z.2.1 z.1 x.2.2.2.2.2.1 x.2.2.2.2.2.2 x.1 x.2.1 x.2.2.1 x.2.2.2.1 x.2.2.2.2.1 z.2.2 kf (nI P) (nI C) (nI k) lent brow bw J K) (Ps := []) rfl trivial ?_
    refine ww_if_lt 11 rfl (tgt := 48) rfl (fun c1 => ?_) (fun c1 => ?_)
    · refine ww_lv [0] (lv' := [(0, .ref 0)]) rfl ?_
      exact KK
    · exact absurd c1 (by decide)
  | succ j ih =>
    intro hj
    have hq5 : l.getD j 0 < P := by
      rw [List.getD_eq_getElem?_getD, List.getElem?_eq_getElem (by omega)]
      exact hlm _ (List.getElem_mem _)
    have hd5 : digN (l.take j) < 100000 := digN_5 (fun q hq => by have := hlm q (List.mem_of_mem_take hq); omega) (by rw [List.length_take]; omega)
    have hrem : (nI (10 * digN (l.take j) + l.getD j 0)) - (nI (10 * digN (l.take j) + l.getD j 0)) / 10 * 10 = nI (l.getD j 0) := by
      rw [show (10 : Int32) = nI 10 from rfl, pk_rem (by omega) (by omega) (by omega)]
      congr 1
      omega
    have hdiv : (nI (10 * digN (l.take j) + l.getD j 0)) / 10 = nI (digN (l.take j)) := by
      rw [show (10 : Int32) = nI 10 from rfl, pk_div (by omega) (by omega) (by omega)]
      congr 1
      omega
    rw [pk_m1 j, take_s (by omega), digN_app]
    refine ww_run 10 1 (pc' := 17) (lv' := [(0, .ref 0), (1, .int (nI (10 * digN (l.take j) + l.getD j 0))), (2, .int (nI j))]) (st' := [.int (nI j)]) (w' := wMo (wiF (rowG fr kf P l (j + 1)) lo fa) ki mo (hoF sty wset wfor) cd sr z.2.1 z.1 x.2.2.2.2.2.1 x.2.2.2.2.2.2 x.1 x.2.1 x.2.2.1 x.2.2.2.1 x.2.2.2.2.1 z.2.2 kf (nI P) (nI C) (nI k) lent brow bw J K) (Ps := []) rfl trivial ?_
    refine ww_if_lt 11 rfl (tgt := 48) rfl (fun c1 => ?_) (fun c1 => ?_)
    · exact absurd c1 (nI_pos (by omega))
    · have c1 : ¬ j < 0 := fun q => c1 ((nI_ltI (a := j) (b := 0) (by omega) (by omega)).mpr q)
      refine ww_run 12 10 (pc' := 35) (lv' := [(0, .ref 0), (1, .int (nI (10 * digN (l.take j) + l.getD j 0))), (2, .int (nI j))]) (st' := [.int ((nI (10 * digN (l.take j) + l.getD j 0)) - (nI (10 * digN (l.take j) + l.getD j 0)) / 10 * 10), .ref 27, .int (3 * (nI j)), .ref 1]) (w' := wMo (wiF (rowG fr kf P l (j + 1)) lo fa) ki mo (hoF sty wset wfor) cd sr z.2.1 z.1 x.2.2.2.2.2.1 x.2.2.2.2.2.2 x.1 x.2.1 x.2.2.1 x.2.2.2.1 x.2.2.2.2.1 z.2.2 kf (nI P) (nI C) (nI k) lent brow bw J K) (Ps := [¬ 10 = 0]) rfl ⟨(by decide), trivial⟩ ?_
      rw [show (3 : Int32) * nI j = nI (3 * j) from pk_mul 3 j]
      rw [show (nI (10 * digN (l.take j) + l.getD j 0)) - (nI (10 * digN (l.take j) + l.getD j 0)) / 10 * 10 = nI (l.getD j 0) from hrem]
      refine ww_run 22 2 (pc' := 37) (lv' := [(0, .ref 0), (1, .int (nI (10 * digN (l.take j) + l.getD j 0))), (2, .int (nI j))]) (st' := []) (w' := wMo (upd (wiF (rowG fr kf P l (j + 1)) lo fa) ((nI (3 * j)).toNatClampNeg) (kf (nI (l.getD j 0)).toNatClampNeg)) ki mo (hoF sty wset wfor) cd sr z.2.1 z.1 x.2.2.2.2.2.1 x.2.2.2.2.2.2 x.1 x.2.1 x.2.2.1 x.2.2.2.1 x.2.2.2.2.1 z.2.2 kf (nI P) (nI C) (nI k) lent brow bw J K) (Ps := [vp_in (nI (l.getD j 0)) 5, vp_in (nI (3 * j)) 15]) rfl ⟨(vp_in_nI (by omega) (by omega)), (vp_in_nI (by omega) (by omega)), trivial⟩ ?_
      rw [nI_clamp (n := (3 * j)) (by omega)]
      rw [nI_clamp (n := (l.getD j 0)) (by omega)]
      rw [wi_u0]
      rw [rowG_s (by omega)]
      refine ww_run 24 3 (pc' := 41) (lv' := [(0, .ref 0), (1, .int (nI (10 * digN (l.take j) + l.getD j 0))), (2, .int (nI j))]) (st' := [.int ((nI (10 * digN (l.take j) + l.getD j 0)) / 10)]) (w' := wMo (wiF (rowG fr kf P l j) lo fa) ki mo (hoF sty wset wfor) cd sr z.2.1 z.1 x.2.2.2.2.2.1 x.2.2.2.2.2.2 x.1 x.2.1 x.2.2.1 x.2.2.2.1 x.2.2.2.2.1 z.2.2 kf (nI P) (nI C) (nI k) lent brow bw J K) (Ps := [¬ 10 = 0]) rfl ⟨(by decide), trivial⟩ ?_
      rw [show (nI (10 * digN (l.take j) + l.getD j 0)) / 10 = nI (digN (l.take j)) from hdiv]
      refine ww_run 27 3 (pc' := 16) (lv' := [(2, .int ((nI j) + (-1))), (1, .int (nI (digN (l.take j)))), (0, .ref 0)]) (st' := []) (w' := wMo (wiF (rowG fr kf P l j) lo fa) ki mo (hoF sty wset wfor) cd sr z.2.1 z.1 x.2.2.2.2.2.1 x.2.2.2.2.2.2 x.1 x.2.1 x.2.2.1 x.2.2.2.1 x.2.2.2.2.1 z.2.2 kf (nI P) (nI C) (nI k) lent brow bw J K) (Ps := []) rfl trivial ?_
      refine ww_lv [2, 1, 0] (lv' := [(0, .ref 0), (1, .int (nI (digN (l.take j)))), (2, .int ((nI j) + (-1)))]) rfl ?_
      exact ih (by omega)
set_option maxHeartbeats 4000000 in
set_option maxRecDepth 100000 in
theorem m_invite (ki mo cd sr kf : Nat → Int32) (lent brow bw : Int32) (J : Nat → Int32) (K : Nat → Nat → Int32) (fr lo fa : Nat → Int32) (sty wset wfor : Int32) (x : MS) (z : Z3) (sy : SY) (T P C k : Nat) (hP : P ≤ 5) (hC : C ≤ 6) (hk : k < T) (hL : ML cd sr T sy) (hmo : MO6 mo) (hwf : sm 30 wfor) : Co M_X7_invite 15 0 0 [.ref 0] (wMo (wiF fr lo fa) ki mo (hoF sty wset wfor) cd sr z.2.1 z.1 x.2.2.2.2.2.1 x.2.2.2.2.2.2 x.1 x.2.1 x.2.2.1 x.2.2.2.1 x.2.2.2.2.1 z.2.2 kf (nI P) (nI C) (nI k) lent brow bw J K) (fun r w' => r = some (.int (riS (evS sy P C (rowF fr P (ordB (fun l => (evS sy P C (rowF fr P l) lo fa ki mo k sty wset wfor lent 30)) P).1) lo fa ki mo k sty wset wfor lent 30))) ∧ ∃ (x : MS) (z : Z3) (kf : Nat → Int32) (brow bw : Int32), w' = wMo (wiF (rowF fr P (ordB (fun l => (evS sy P C (rowF fr P l) lo fa ki mo k sty wset wfor lent 30)) P).1) lo fa) ki mo (hoF sty wset wfor) cd sr z.2.1 z.1 x.2.2.2.2.2.1 x.2.2.2.2.2.2 x.1 x.2.1 x.2.2.1 x.2.2.2.1 x.2.2.2.2.1 z.2.2 kf (nI P) (nI C) (nI k) lent brow bw J K) := by
  refine Co.of ok_X7_invite rfl ?_
  refine ww_run 0 1 (pc' := 1) (lv' := [(0, .ref 0)]) (st' := [.ref 0]) (w' := wMo (wiF fr lo fa) ki mo (hoF sty wset wfor) cd sr z.2.1 z.1 x.2.2.2.2.2.1 x.2.2.2.2.2.2 x.1 x.2.1 x.2.2.1 x.2.2.2.1 x.2.2.2.2.1 z.2.2 kf (nI P) (nI C) (nI k) lent brow bw J K) (Ps := []) rfl trivial ?_
  refine ww_cV 1 ok_X7_findsOrder (m_findsOrder ki mo cd sr kf lent brow bw J K fr lo fa sty wset wfor x z sy T P C k hP hC hk hL hmo hwf) lk_X7_285 rfl (by omega) (rest := []) rfl (Nat.le_of_ble_eq_true rfl) rfl rfl rfl rfl (fun r w' hq => ?_)
  obtain ⟨rfl, x1, z1, rfl⟩ := hq
  have hGa : ∀ l, GS P ((fun l => (evS sy P C (rowF fr P l) lo fa ki mo k sty wset wfor lent 30)) l) := fun l => GS_of hP (evS_inv hL.2.1 hP hC hmo (by omega)) (evS_num hL.2.1 hP hC hmo hwf (by omega))
  obtain ⟨hB1, hB2, hB3⟩ := ordB_ok hP hGa
  refine ww_run 2 8 (pc' := 16) (lv' := [(2, .int ((nI P) - 1)), (1, .int (digL (ordB (fun l => (evS sy P C (rowF fr P l) lo fa ki mo k sty wset wfor lent 30)) P).1)), (0, .ref 0)]) (st' := []) (w' := wMo (wiF fr lo fa) ki mo (hoF sty wset wfor) cd sr z1.2.1 z1.1 x1.2.2.2.2.2.1 x1.2.2.2.2.2.2 x1.1 x1.2.1 x1.2.2.1 x1.2.2.2.1 x1.2.2.2.2.1 z1.2.2 (mixF kf fr P) (nI P) (nI C) (nI k) lent (digL (ordB (fun l => (evS sy P C (rowF fr P l) lo fa ki mo k sty wset wfor lent 30)) P).1) (mostOf (b3L (ordB (fun l => (evS sy P C (rowF fr P l) lo fa ki mo k sty wset wfor lent 30)) P))) J K) (Ps := []) rfl trivial ?_
  refine ww_lv [2, 1, 0] (lv' := [(0, .ref 0), (1, .int (digL (ordB (fun l => (evS sy P C (rowF fr P l) lo fa ki mo k sty wset wfor lent 30)) P).1)), (2, .int ((nI P) - 1))]) rfl ?_
  obtain ⟨hll, hlm⟩ := ordL_len hP hB2
  rw [digL_eq, show nI P - 1 = nI P + (-1) from Int32.sub_eq_add_neg _ _]
  rw [show digN ((ordB (fun l => (evS sy P C (rowF fr P l) lo fa ki mo k sty wset wfor lent 30)) P).1) = digN (((ordB (fun l => (evS sy P C (rowF fr P l) lo fa ki mo k sty wset wfor lent 30)) P).1).take P) from by rw [List.take_of_length_le (by omega)]]
  suffices hK : WW M_X7_invite 15 (fun r w' => r = some (.int (riS (evS sy P C (rowF fr P (ordB (fun l => (evS sy P C (rowF fr P l) lo fa ki mo k sty wset wfor lent 30)) P).1) lo fa ki mo k sty wset wfor lent 30))) ∧ ∃ (x : MS) (z : Z3) (kf : Nat → Int32) (brow bw : Int32), w' = wMo (wiF (rowF fr P (ordB (fun l => (evS sy P C (rowF fr P l) lo fa ki mo k sty wset wfor lent 30)) P).1) lo fa) ki mo (hoF sty wset wfor) cd sr z.2.1 z.1 x.2.2.2.2.2.1 x.2.2.2.2.2.2 x.1 x.2.1 x.2.2.1 x.2.2.2.1 x.2.2.2.2.1 z.2.2 kf (nI P) (nI C) (nI k) lent brow bw J K) xz 48 [(0, .ref 0)] [] (wMo (wiF (rowF fr P (ordB (fun l => (evS sy P C (rowF fr P l) lo fa ki mo k sty wset wfor lent 30)) P).1) lo fa) ki mo (hoF sty wset wfor) cd sr z1.2.1 z1.1 x1.2.2.2.2.2.1 x1.2.2.2.2.2.2 x1.1 x1.2.1 x1.2.2.1 x1.2.2.2.1 x1.2.2.2.2.1 z1.2.2 (mixF kf fr P) (nI P) (nI C) (nI k) lent (nI (digN (List.take P ((ordB (fun l => (evS sy P C (rowF fr P l) lo fa ki mo k sty wset wfor lent 30)) P).1)))) (mostOf (b3L (ordB (fun l => (evS sy P C (rowF fr P l) lo fa ki mo k sty wset wfor lent 30)) P))) J K) by
    have hh := l_X7_invite_16 (Q := fun r w' => r = some (.int (riS (evS sy P C (rowF fr P (ordB (fun l => (evS sy P C (rowF fr P l) lo fa ki mo k sty wset wfor lent 30)) P).1) lo fa ki mo k sty wset wfor lent 30))) ∧ ∃ (x : MS) (z : Z3) (kf : Nat → Int32) (brow bw : Int32), w' = wMo (wiF (rowF fr P (ordB (fun l => (evS sy P C (rowF fr P l) lo fa ki mo k sty wset wfor lent 30)) P).1) lo fa) ki mo (hoF sty wset wfor) cd sr z.2.1 z.1 x.2.2.2.2.2.1 x.2.2.2.2.2.2 x.1 x.2.1 x.2.2.1 x.2.2.2.1 x.2.2.2.2.1 z.2.2 kf (nI P) (nI C) (nI k) lent brow bw J K) (d := 15) ki mo cd sr (mixF kf fr P) lent (nI (digN (List.take P ((ordB (fun l => (evS sy P C (rowF fr P l) lo fa ki mo k sty wset wfor lent 30)) P).1)))) (mostOf (b3L (ordB (fun l => (evS sy P C (rowF fr P l) lo fa ki mo k sty wset wfor lent 30)) P))) J K fr lo fa sty wset wfor x1 z1 sy T P C k hP hC hk hL hmo hwf ((ordB (fun l => (evS sy P C (rowF fr P l) lo fa ki mo k sty wset wfor lent 30)) P).1) hll hlm (by rw [rowG_0 hll hlm (fun q hq => by simp [mixF, hq])]; exact hK) P (Nat.le_refl P)
    rw [rowG_P] at hh
    exact hh
  refine ww_run 30 2 (pc' := 51) (lv' := [(0, .ref 0)]) (st' := [.int 30, .ref 0]) (w' := wMo (wiF (rowF fr P (ordB (fun l => (evS sy P C (rowF fr P l) lo fa ki mo k sty wset wfor lent 30)) P).1) lo fa) ki mo (hoF sty wset wfor) cd sr z1.2.1 z1.1 x1.2.2.2.2.2.1 x1.2.2.2.2.2.2 x1.1 x1.2.1 x1.2.2.1 x1.2.2.2.1 x1.2.2.2.2.1 z1.2.2 (mixF kf fr P) (nI P) (nI C) (nI k) lent (nI (digN (List.take P ((ordB (fun l => (evS sy P C (rowF fr P l) lo fa ki mo k sty wset wfor lent 30)) P).1)))) (mostOf (b3L (ordB (fun l => (evS sy P C (rowF fr P l) lo fa ki mo k sty wset wfor lent 30)) P))) J K) (Ps := []) rfl trivial ?_
  refine ww_cV 32 ok_X7_lives (m_lives ki mo cd sr lent (fun q => if q = 44 then nI (digN (List.take P ((ordB (fun l => (evS sy P C (rowF fr P l) lo fa ki mo k sty wset wfor lent 30)) P).1))) else if q = 45 then mostOf (b3L (ordB (fun l => (evS sy P C (rowF fr P l) lo fa ki mo k sty wset wfor lent 30)) P)) else J q) (fun q => if q = 43 then mixF kf fr P else K q) (rowF fr P (ordB (fun l => (evS sy P C (rowF fr P l) lo fa ki mo k sty wset wfor lent 30)) P).1) lo fa sty wset wfor x1 z1 sy T P C k hP hC hk hL hmo 30 (by omega)) lk_X7_238 rfl (by omega) (rest := []) rfl (Nat.le_of_ble_eq_true rfl) rfl rfl rfl rfl (fun r w' hq => ?_)
  obtain ⟨rfl, x2, z2, hR2, rfl⟩ := hq
  have hI2 : INV P C (evS sy P C (rowF fr P (ordB (fun l => (evS sy P C (rowF fr P l) lo fa ki mo k sty wset wfor lent 30)) P).1) lo fa ki mo k sty wset wfor lent 30) := evS_inv hL.2.1 hP hC hmo (by omega)
  refine ww_run 33 1 (pc' := 55) (lv' := [(0, .ref 0)]) (st' := [.ref 0]) (w' := wMo (wiF (rowF fr P (ordB (fun l => (evS sy P C (rowF fr P l) lo fa ki mo k sty wset wfor lent 30)) P).1) lo fa) ki mo (hoF sty wset wfor) cd sr z2.2.1 z2.1 x2.2.2.2.2.2.1 x2.2.2.2.2.2.2 x2.1 x2.2.1 x2.2.2.1 x2.2.2.2.1 x2.2.2.2.2.1 z2.2.2 (mixF kf fr P) (nI P) (nI C) (nI k) lent (nI (digN (List.take P ((ordB (fun l => (evS sy P C (rowF fr P l) lo fa ki mo k sty wset wfor lent 30)) P).1)))) (mostOf (b3L (ordB (fun l => (evS sy P C (rowF fr P l) lo fa ki mo k sty wset wfor lent 30)) P))) J K) (Ps := []) rfl trivial ?_
  refine ww_cVi 34 ok_X7_risen (c_X7_risen (wiF (rowF fr P (ordB (fun l => (evS sy P C (rowF fr P l) lo fa ki mo k sty wset wfor lent 30)) P).1) lo fa) ki mo (hoF sty wset wfor) cd sr z2.2.1 z2.1 x2.2.2.2.2.2.1 x2.2.2.2.2.2.2 x2.1 x2.2.1 x2.2.2.1 x2.2.2.2.1 x2.2.2.2.2.1 z2.2.2 (nI C) (nI k) lent (fun q => if q = 44 then nI (digN (List.take P ((ordB (fun l => (evS sy P C (rowF fr P l) lo fa ki mo k sty wset wfor lent 30)) P).1))) else if q = 45 then mostOf (b3L (ordB (fun l => (evS sy P C (rowF fr P l) lo fa ki mo k sty wset wfor lent 30)) P)) else J q) (fun q => if q = 43 then mixF kf fr P else K q) P hP) lk_X7_241 rfl (by omega) (rest := []) rfl (Nat.le_of_ble_eq_true rfl) rfl rfl rfl rfl ?_
  rw [ob_risen hR2 hI2]
  refine ww_iret 35 rfl rfl ?_
  exact ⟨rfl, x2, z2, _, _, _, rfl⟩
