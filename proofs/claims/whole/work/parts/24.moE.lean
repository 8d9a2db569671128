/-- the reference's evening: on, was, sat, stood, rose, till, sitter -/
abbrev MS : Type := (Nat → Int32) × (Nat → Int32) × (Nat → Int32) × (Nat → Int32) × (Nat → Int32) × (Nat → Int32) × (Nat → Int32)
def mRise1 (ki mo fa : Nat → Int32) (say : Nat → (Nat → Int32) → Int32) (m : Int32) (s : MS) (p c : Nat) : MS :=
  (upd s.1 p (-1), s.2.1, s.2.2.1, s.2.2.2.1, upd s.2.2.2.2.1 p m, upd s.2.2.2.2.2.1 c (m + eKeep ki mo fa s.2.2.1 s.2.2.2.1 say p c m), upd s.2.2.2.2.2.2 c (-1))
def mRiseTo (ki mo fa lo : Nat → Int32) (say : Nat → (Nat → Int32) → Int32) (m : Int32) (s : MS) : Nat → MS
  | 0 => s
  | i + 1 => if ¬ (mRiseTo ki mo fa lo say m s i).1 i = -1 ∧ lo i ≤ (mRiseTo ki mo fa lo say m s i).2.2.1 i then mRise1 ki mo fa say m (mRiseTo ki mo fa lo say m s i) i ((mRiseTo ki mo fa lo say m s i).1 i).toNatClampNeg else mRiseTo ki mo fa lo say m s i
def onP (P : Nat) (on : Nat → Int32) : Prop := ∀ q, q < P → on q = -1 ∨ ∃ c, c < 6 ∧ on q = nI c
theorem onP_up {P : Nat} {on : Nat → Int32} (h : onP P on) (p : Nat) {v : Int32} (hv : v = -1 ∨ ∃ c, c < 6 ∧ v = nI c) : onP P (upd on p v) := by
  intro q hq
  simp only [upd]
  split
  · exact hv
  · exact h q hq
theorem mRiseTo_on {P : Nat} {ki mo fa lo : Nat → Int32} {say : Nat → (Nat → Int32) → Int32} {m : Int32} {s : MS} (h : onP P s.1) : ∀ i, onP P (mRiseTo ki mo fa lo say m s i).1
  | 0 => h
  | i + 1 => by
    unfold mRiseTo
    split
    · exact onP_up (mRiseTo_on h i) i (Or.inl rfl)
    · exact mRiseTo_on h i
set_option maxHeartbeats 4000000 in
set_option maxRecDepth 100000 in
theorem l_X7_rises_2 {Q : Option Value → List va_E → Prop} {d : Nat} (hd : 4 ≤ d) (ki mo cd sr turn : Nat → Int32) (lent : Int32) (J : Nat → Int32) (K : Nat → Nat → Int32) (fr lo fa : Nat → Int32) (sty wset wfor : Int32) (P C k : Nat) (e : Nat → Nat) (hP : P ≤ 5) (hC : C ≤ 6) (hL : MLX cd sr k e) (m : Int32) (s : MS) (KK : ∀ (names stk : Nat → Int32), WW M_X7_rises d Q xz 83 [(0, .ref 0), (1, .int m), (2, .int (nI P))] [] (wMv (wiF fr lo fa) ki mo (hoF sty wset wfor) cd sr stk names ((mRiseTo ki mo fa lo (sayM cd k e) m s P).2.2.2.2.2.1) ((mRiseTo ki mo fa lo (sayM cd k e) m s P).2.2.2.2.2.2) ((mRiseTo ki mo fa lo (sayM cd k e) m s P).1) ((mRiseTo ki mo fa lo (sayM cd k e) m s P).2.1) ((mRiseTo ki mo fa lo (sayM cd k e) m s P).2.2.1) ((mRiseTo ki mo fa lo (sayM cd k e) m s P).2.2.2.1) ((mRiseTo ki mo fa lo (sayM cd k e) m s P).2.2.2.2.1) turn (nI P) (nI C) (nI k) lent J K)) :
    ∀ (n i : Nat) (t : MS) (names stk : Nat → Int32), i ≤ P → P + 1 ≤ i + n → t = mRiseTo ki mo fa lo (sayM cd k e) m s i → onP P t.1 → WW M_X7_rises d Q xz 2 [(0, .ref 0), (1, .int m), (2, .int (nI i))] [] (wMv (wiF fr lo fa) ki mo (hoF sty wset wfor) cd sr stk names t.2.2.2.2.2.1 t.2.2.2.2.2.2 t.1 t.2.1 t.2.2.1 t.2.2.2.1 t.2.2.2.2.1 turn (nI P) (nI C) (nI k) lent J K) := by
  intro n
  induction n with
  | zero => intro i; intros; omega
  | succ n ih =>
    intro i t names stk hi hn ht hon
    refine ww_run 2 3 (pc' := 7) (lv' := [(0, .ref 0), (1, .int m), (2, .int (nI i))]) (st' := [.int (nI P), .int (nI i)]) (w' := wMv (wiF fr lo fa) ki mo (hoF sty wset wfor) cd sr stk names t.2.2.2.2.2.1 t.2.2.2.2.2.2 t.1 t.2.1 t.2.2.1 t.2.2.2.1 t.2.2.2.2.1 turn (nI P) (nI C) (nI k) lent J K) (Ps := []) rfl trivial ?_
    refine ww_icmp_ge 5 rfl (tgt := 83) rfl (fun c1 => ?_) (fun c1 => ?_)
    · have c1 : P ≤ i := (nI_leI (a := P) (b := i) (by omega) (by omega)).mp c1
      obtain rfl : i = P := by omega
      subst ht
      exact KK names stk
    · have c1 : ¬ P ≤ i := fun q => c1 ((nI_leI (a := P) (b := i) (by omega) (by omega)).mpr q)
      refine ww_run 6 7 (pc' := 19) (lv' := [(3, .int (t.1 (nI i).toNatClampNeg)), (0, .ref 0), (1, .int m), (2, .int (nI i))]) (st' := [.int (-1), .int (t.1 (nI i).toNatClampNeg)]) (w' := wMv (wiF fr lo fa) ki mo (hoF sty wset wfor) cd sr stk names t.2.2.2.2.2.1 t.2.2.2.2.2.2 t.1 t.2.1 t.2.2.1 t.2.2.2.1 t.2.2.2.2.1 turn (nI P) (nI C) (nI k) lent J K) (Ps := [vp_in (nI i) 5]) rfl ⟨(vp_in_nI (by omega) (by omega)), trivial⟩ ?_
      rw [nI_clamp (n := i) (by omega)]
      refine ww_icmp_eq 13 rfl (tgt := 77) rfl (fun c2 => ?_) (fun c2 => ?_)
      · refine ww_run 53 2 (pc' := 2) (lv' := [(2, .int ((nI i) + 1)), (3, .int (t.1 i)), (0, .ref 0), (1, .int m)]) (st' := []) (w' := wMv (wiF fr lo fa) ki mo (hoF sty wset wfor) cd sr stk names t.2.2.2.2.2.1 t.2.2.2.2.2.2 t.1 t.2.1 t.2.2.1 t.2.2.2.1 t.2.2.2.2.1 turn (nI P) (nI C) (nI k) lent J K) (Ps := []) rfl trivial ?_
        rw [nI_1 i]
        refine ww_lv [2, 3, 0] (lv' := [(0, .ref 0), (1, .int m), (2, .int (nI (i + 1)))]) rfl ?_
        refine ih (i + 1) t names stk (by omega) (by omega) ?_ hon
        simp only [mRiseTo]
        rw [← ht, if_neg (by grind)]
      · refine ww_run 14 12 (pc' := 38) (lv' := [(3, .int (t.1 i)), (0, .ref 0), (1, .int m), (2, .int (nI i))]) (st' := [.int ((wiF fr lo fa) ((3 * (nI i)) + 1).toNatClampNeg), .int (t.2.2.1 (nI i).toNatClampNeg)]) (w' := wMv (wiF fr lo fa) ki mo (hoF sty wset wfor) cd sr stk names t.2.2.2.2.2.1 t.2.2.2.2.2.2 t.1 t.2.1 t.2.2.1 t.2.2.2.1 t.2.2.2.2.1 turn (nI P) (nI C) (nI k) lent J K) (Ps := [vp_in (nI i) 5, vp_in ((3 * (nI i)) + 1) 15]) rfl ⟨(vp_in_nI (by omega) (by omega)), (by rw [show (3 : Int32) * nI i = nI (3 * i) from pk_mul 3 i, nI_1 (3 * i)]; exact vp_in_nI (by omega) (by omega)), trivial⟩ ?_
        rw [nI_clamp (n := i) (by omega)]
        rw [show (3 : Int32) * nI i = nI (3 * i) from pk_mul 3 i]
        rw [nI_1 (3 * i)]
        rw [nI_clamp (n := ((3 * i) + 1)) (by omega)]
        rw [wi1]
        refine ww_icmp_lt 26 rfl (tgt := 77) rfl (fun c3 => ?_) (fun c3 => ?_)
        · refine ww_run 53 2 (pc' := 2) (lv' := [(2, .int ((nI i) + 1)), (3, .int (t.1 i)), (0, .ref 0), (1, .int m)]) (st' := []) (w' := wMv (wiF fr lo fa) ki mo (hoF sty wset wfor) cd sr stk names t.2.2.2.2.2.1 t.2.2.2.2.2.2 t.1 t.2.1 t.2.2.1 t.2.2.2.1 t.2.2.2.2.1 turn (nI P) (nI C) (nI k) lent J K) (Ps := []) rfl trivial ?_
          rw [nI_1 i]
          refine ww_lv [2, 3, 0] (lv' := [(0, .ref 0), (1, .int m), (2, .int (nI (i + 1)))]) rfl ?_
          refine ih (i + 1) t names stk (by omega) (by omega) ?_ hon
          simp only [mRiseTo]
          rw [← ht, if_neg (by grind)]
        · obtain ⟨c, hc, honc⟩ : ∃ c, c < 6 ∧ t.1 i = nI c := by
            rcases hon i (by omega) with h | h
            · exact absurd h c2
            · exact h
          rw [honc]
          refine ww_run 27 8 (pc' := 51) (lv' := [(3, .int (nI c)), (0, .ref 0), (1, .int m), (2, .int (nI i))]) (st' := [.int m, .int (nI i), .int (nI c), .ref 0, .int m, .int (nI c), .ref 19]) (w' := wMv (wiF fr lo fa) ki mo (hoF sty wset wfor) cd sr stk names t.2.2.2.2.2.1 t.2.2.2.2.2.2 t.1 t.2.1 t.2.2.1 t.2.2.2.1 t.2.2.2.2.1 turn (nI P) (nI C) (nI k) lent J K) (Ps := []) rfl trivial ?_
          refine ww_cV 35 (b := 0) (av := [.int (nI c), .int (nI i), .int m]) ok_X7_keepsWarm (c_X7_keepsWarm ki mo (hoF sty wset wfor) cd sr stk names t.2.2.2.2.2.1 t.2.2.2.2.2.2 t.1 t.2.1 t.2.2.1 t.2.2.2.1 t.2.2.2.2.1 turn (nI P) (nI C) lent J K fr lo fa k e hL i c m (by omega) hc) lk_X7_208 rfl (by omega) (rest := [.int m, .int (nI c), .ref 19]) rfl (Nat.le_of_ble_eq_true rfl) rfl rfl rfl rfl (fun r w' hq => ?_)
          obtain ⟨rfl, names', stk', rfl⟩ := hq
          refine ww_run 36 19 (pc' := 2) (lv' := [(2, .int ((nI i) + 1)), (3, .int (nI c)), (0, .ref 0), (1, .int m)]) (st' := []) (w' := wMv (wiF fr lo fa) ki mo (hoF sty wset wfor) cd sr stk' names' (upd t.2.2.2.2.2.1 ((nI c).toNatClampNeg) (m + (eKeep ki mo fa t.2.2.1 t.2.2.2.1 (sayM cd k e) i c m))) (upd t.2.2.2.2.2.2 ((nI c).toNatClampNeg) (-1)) (upd t.1 ((nI i).toNatClampNeg) (-1)) t.2.1 t.2.2.1 t.2.2.2.1 (upd t.2.2.2.2.1 ((nI i).toNatClampNeg) m) turn (nI P) (nI C) (nI k) lent J K) (Ps := [vp_in (nI c) 6, vp_in (nI c) 6, vp_in (nI i) 5, vp_in (nI i) 5]) rfl ⟨(vp_in_nI (by omega) (by omega)), (vp_in_nI (by omega) (by omega)), (vp_in_nI (by omega) (by omega)), (vp_in_nI (by omega) (by omega)), trivial⟩ ?_
          rw [nI_clamp (n := c) (by omega)]
          rw [nI_clamp (n := i) (by omega)]
          rw [nI_1 i]
          refine ww_lv [2, 3, 0] (lv' := [(0, .ref 0), (1, .int m), (2, .int (nI (i + 1)))]) rfl ?_
          refine ih (i + 1) (mRise1 ki mo fa (sayM cd k e) m t i c) names' stk' (by omega) (by omega) ?_ (onP_up hon i (Or.inl rfl))
          simp only [mRiseTo]
          rw [← ht, if_pos ⟨c2, Int32.not_lt.mp c3⟩, honc, nI_clamp (by omega)]
set_option maxHeartbeats 4000000 in
set_option maxRecDepth 100000 in
theorem c_X7_rises (ki mo cd sr stk names turn : Nat → Int32) (lent : Int32) (J : Nat → Int32) (K : Nat → Nat → Int32) (fr lo fa : Nat → Int32) (sty wset wfor : Int32) (P C k : Nat) (e : Nat → Nat) (hP : P ≤ 5) (hC : C ≤ 6) (hL : MLX cd sr k e) (m : Int32) (s : MS) (hon : onP P s.1) : Co M_X7_rises 4 0 0 [.ref 0, .int m] (wMv (wiF fr lo fa) ki mo (hoF sty wset wfor) cd sr stk names s.2.2.2.2.2.1 s.2.2.2.2.2.2 s.1 s.2.1 s.2.2.1 s.2.2.2.1 s.2.2.2.2.1 turn (nI P) (nI C) (nI k) lent J K) (fun r w' => r = none ∧ ∃ names' stk', w' = wMv (wiF fr lo fa) ki mo (hoF sty wset wfor) cd sr stk' names' ((mRiseTo ki mo fa lo (sayM cd k e) m s P).2.2.2.2.2.1) ((mRiseTo ki mo fa lo (sayM cd k e) m s P).2.2.2.2.2.2) ((mRiseTo ki mo fa lo (sayM cd k e) m s P).1) ((mRiseTo ki mo fa lo (sayM cd k e) m s P).2.1) ((mRiseTo ki mo fa lo (sayM cd k e) m s P).2.2.1) ((mRiseTo ki mo fa lo (sayM cd k e) m s P).2.2.2.1) ((mRiseTo ki mo fa lo (sayM cd k e) m s P).2.2.2.2.1) turn (nI P) (nI C) (nI k) lent J K) := by
  refine Co.of ok_X7_rises rfl ?_
  refine ww_run 0 2 (pc' := 2) (lv' := [(2, .int 0), (0, .ref 0), (1, .int m)]) (st' := []) (w' := wMv (wiF fr lo fa) ki mo (hoF sty wset wfor) cd sr stk names s.2.2.2.2.2.1 s.2.2.2.2.2.2 s.1 s.2.1 s.2.2.1 s.2.2.2.1 s.2.2.2.2.1 turn (nI P) (nI C) (nI k) lent J K) (Ps := []) rfl trivial ?_
  refine ww_lv [1, 2, 0] (lv' := [(0, .ref 0), (1, .int m), (2, .int 0)]) rfl ?_
  refine l_X7_rises_2 (by omega) ki mo cd sr turn lent J K fr lo fa sty wset wfor P C k e hP hC hL m s (fun names1 stk1 => ?_) (P + 1) 0 s names stk (by omega) (by omega) rfl hon
  refine ww_vret 55 rfl rfl ?_
  exact ⟨rfl, _, _, rfl⟩
