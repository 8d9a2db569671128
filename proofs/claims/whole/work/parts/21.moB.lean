def twM (k a b : Int32) : Int32 := if k = 11 then b2i (¬ a = 0 ∨ ¬ b = 0) else if k = 12 then b2i (¬ a = 0 ∧ ¬ b = 0) else if k = 14 then b2i (a < b) else if k = 15 then b2i (a = b) else if k = 16 then a + b else if k = 17 then a - b else a * b
def mStep (named : Nat → Int32) (code : Int32) (s : (Nat → Int32) × Nat) : (Nat → Int32) × Nat :=
  if 100000 ≤ code ∨ code < 11 then (upd s.1 s.2 (if code < 11 then named code.toNatClampNeg else code - 100000), s.2 + 1)
  else if code = 13 then (upd s.1 (s.2 - 1) (if s.1 (s.2 - 1) = 0 then 1 else 0), s.2)
  else if code = 19 then (upd s.1 (s.2 - 1) (-(s.1 (s.2 - 1))), s.2)
  else (upd s.1 (s.2 - 2) (twM code (s.1 (s.2 - 2)) (s.1 (s.2 - 1))), s.2 - 1)
def mRun (named codes : Nat → Int32) (a : Nat) (s : (Nat → Int32) × Nat) : Nat → (Nat → Int32) × Nat
  | 0 => s
  | n + 1 => mStep named (codes (a + n)) (mRun named codes a s n)
/-- how many lie on the stack -/
def dStep (code : Int32) (t : Nat) : Nat := if 100000 ≤ code ∨ code < 11 then t + 1 else if code = 13 then t else if code = 19 then t else t - 1
def dRun (codes : Nat → Int32) (a : Nat) : Nat → Nat
  | 0 => 0
  | n + 1 => dStep (codes (a + n)) (dRun codes a n)
/-- a code may stand where so many lie on the stack -/
def dOK (code : Int32) (t : Nat) : Prop := (100000 ≤ code → t < 200) ∧ (code < 11 → 0 ≤ code ∧ code < 6 ∧ t < 200) ∧ (code = 13 ∨ code = 19 → 1 ≤ t ∧ t ≤ 200) ∧ (11 ≤ code → code < 100000 → ¬ code = 13 → ¬ code = 19 → 2 ≤ t ∧ t ≤ 200)
theorem dOK_le {code : Int32} {t : Nat} (h : dOK code t) : t ≤ 200 := by
  unfold dOK at h
  grind
theorem mStep_d (named : Nat → Int32) (code : Int32) (s : (Nat → Int32) × Nat) : (mStep named code s).2 = dStep code s.2 := by
  unfold mStep dStep
  split
  · rfl
  · split
    · rfl
    · split <;> rfl
theorem mRun_d (named codes : Nat → Int32) (a : Nat) (f : Nat → Int32) : ∀ n, (mRun named codes a (f, 0) n).2 = dRun codes a n
  | 0 => rfl
  | n + 1 => by simp only [mRun, dRun]; rw [mStep_d, mRun_d named codes a f n]
theorem vp_6 {x : Int32} (h : 0 ≤ x ∧ x < 6 ∧ True) : vp_in x 6 := by
  rw [vp_in_iff]
  have h0 := Int32.le_iff_toInt_le.mp h.1
  have h1 := Int32.lt_iff_toInt_lt.mp h.2.1
  exact ⟨h0, h1⟩
/-- a law of the reference's: rule k, its three parts -/
def MLW (cd sr : Nat → Int32) (k : Nat) (e : Nat → Nat) : Prop := k < 6 ∧ (∀ j, j < 4 → sr (4 * k + j) = nI (e j)) ∧ (∀ j, j < 3 → e j ≤ e (j + 1) ∧ e (j + 1) ≤ 200) ∧ ∀ j, j < 3 → ∀ i, e j ≤ i → i < e (j + 1) → dOK (cd (200 * k + i)) (dRun (fun q => cd (200 * k + q)) (e j) (i - e j))
def sayM0 (cd : Nat → Int32) (k : Nat) (e : Nat → Nat) (part : Nat) (stk named : Nat → Int32) : (Nat → Int32) × Nat := mRun named (fun q => cd (200 * k + q)) (e part) (stk, 0) (e (part + 1) - e part)
set_option maxHeartbeats 4000000 in
set_option maxRecDepth 100000 in
theorem c_X7_two  (k a b : Int32) : Co M_X7_two 0 0 0 [.int k, .int a, .int b] (wZero ) (Qi (twM k a b) wZero ) := by
  refine Co.of ok_X7_two rfl ?_
  refine ww_run 0 1 (pc' := 1) (lv' := [(0, .int k), (1, .int a), (2, .int b)]) (st' := [.int k]) (w' := wZero ) (Ps := []) rfl trivial ?_
  by_cases q0 : k = 11
  · refine ww_tabI 1 rfl (by rw [q0]; decide) (by rw [q0]; decide) (off := 43) (by rw [q0]; rfl) (tgt := 44) rfl ?_
    refine ww_run 2 1 (pc' := 45) (lv' := [(0, .int k), (1, .int a), (2, .int b)]) (st' := [.int a]) (w' := wZero ) (Ps := []) rfl trivial ?_
    refine ww_if_ne 3 rfl (tgt := 52) rfl (fun c1 => ?_) (fun c1 => ?_)
    · refine ww_run 6 2 (pc' := 57) (lv' := [(0, .int k), (1, .int a), (2, .int b)]) (st' := [.int 1]) (w' := wZero ) (Ps := []) rfl trivial ?_
      refine ww_iret 9 rfl rfl ?_
      exact ⟨by unfold twM b2i; grind, rfl⟩
    · refine ww_run 4 1 (pc' := 49) (lv' := [(0, .int k), (1, .int a), (2, .int b)]) (st' := [.int b]) (w' := wZero ) (Ps := []) rfl trivial ?_
      refine ww_if_eq 5 rfl (tgt := 56) rfl (fun c2 => ?_) (fun c2 => ?_)
      · refine ww_run 8 1 (pc' := 57) (lv' := [(0, .int k), (1, .int a), (2, .int b)]) (st' := [.int 0]) (w' := wZero ) (Ps := []) rfl trivial ?_
        refine ww_iret 9 rfl rfl ?_
        exact ⟨by unfold twM b2i; grind, rfl⟩
      · refine ww_run 6 2 (pc' := 57) (lv' := [(0, .int k), (1, .int a), (2, .int b)]) (st' := [.int 1]) (w' := wZero ) (Ps := []) rfl trivial ?_
        refine ww_iret 9 rfl rfl ?_
        exact ⟨by unfold twM b2i; grind, rfl⟩
  by_cases q1 : k = 12
  · refine ww_tabI 1 rfl (by rw [q1]; decide) (by rw [q1]; decide) (off := 57) (by rw [q1]; rfl) (tgt := 58) rfl ?_
    refine ww_run 10 1 (pc' := 59) (lv' := [(0, .int k), (1, .int a), (2, .int b)]) (st' := [.int a]) (w' := wZero ) (Ps := []) rfl trivial ?_
    refine ww_if_eq 11 rfl (tgt := 70) rfl (fun c3 => ?_) (fun c3 => ?_)
    · refine ww_run 16 1 (pc' := 71) (lv' := [(0, .int k), (1, .int a), (2, .int b)]) (st' := [.int 0]) (w' := wZero ) (Ps := []) rfl trivial ?_
      refine ww_iret 17 rfl rfl ?_
      exact ⟨by unfold twM b2i; grind, rfl⟩
    · refine ww_run 12 1 (pc' := 63) (lv' := [(0, .int k), (1, .int a), (2, .int b)]) (st' := [.int b]) (w' := wZero ) (Ps := []) rfl trivial ?_
      refine ww_if_eq 13 rfl (tgt := 70) rfl (fun c4 => ?_) (fun c4 => ?_)
      · refine ww_run 16 1 (pc' := 71) (lv' := [(0, .int k), (1, .int a), (2, .int b)]) (st' := [.int 0]) (w' := wZero ) (Ps := []) rfl trivial ?_
        refine ww_iret 17 rfl rfl ?_
        exact ⟨by unfold twM b2i; grind, rfl⟩
      · refine ww_run 14 2 (pc' := 71) (lv' := [(0, .int k), (1, .int a), (2, .int b)]) (st' := [.int 1]) (w' := wZero ) (Ps := []) rfl trivial ?_
        refine ww_iret 17 rfl rfl ?_
        exact ⟨by unfold twM b2i; grind, rfl⟩
  by_cases q2 : k = 13
  · refine ww_tabI 1 rfl (by rw [q2]; decide) (by rw [q2]; decide) (off := 101) (by rw [q2]; rfl) (tgt := 102) rfl ?_
    refine ww_run 40 3 (pc' := 105) (lv' := [(0, .int k), (1, .int a), (2, .int b)]) (st' := [.int (a * b)]) (w' := wZero ) (Ps := []) rfl trivial ?_
    refine ww_iret 43 rfl rfl ?_
    exact ⟨by unfold twM b2i; grind, rfl⟩
  by_cases q3 : k = 14
  · refine ww_tabI 1 rfl (by rw [q3]; decide) (by rw [q3]; decide) (off := 71) (by rw [q3]; rfl) (tgt := 72) rfl ?_
    refine ww_run 18 2 (pc' := 74) (lv' := [(0, .int k), (1, .int a), (2, .int b)]) (st' := [.int b, .int a]) (w' := wZero ) (Ps := []) rfl trivial ?_
    refine ww_icmp_ge 20 rfl (tgt := 81) rfl (fun c5 => ?_) (fun c5 => ?_)
    · refine ww_run 23 1 (pc' := 82) (lv' := [(0, .int k), (1, .int a), (2, .int b)]) (st' := [.int 0]) (w' := wZero ) (Ps := []) rfl trivial ?_
      refine ww_iret 24 rfl rfl ?_
      exact ⟨by unfold twM b2i; grind, rfl⟩
    · refine ww_run 21 2 (pc' := 82) (lv' := [(0, .int k), (1, .int a), (2, .int b)]) (st' := [.int 1]) (w' := wZero ) (Ps := []) rfl trivial ?_
      refine ww_iret 24 rfl rfl ?_
      exact ⟨by unfold twM b2i; grind, rfl⟩
  by_cases q4 : k = 15
  · refine ww_tabI 1 rfl (by rw [q4]; decide) (by rw [q4]; decide) (off := 82) (by rw [q4]; rfl) (tgt := 83) rfl ?_
    refine ww_run 25 2 (pc' := 85) (lv' := [(0, .int k), (1, .int a), (2, .int b)]) (st' := [.int b, .int a]) (w' := wZero ) (Ps := []) rfl trivial ?_
    refine ww_icmp_ne 27 rfl (tgt := 92) rfl (fun c6 => ?_) (fun c6 => ?_)
    · refine ww_run 30 1 (pc' := 93) (lv' := [(0, .int k), (1, .int a), (2, .int b)]) (st' := [.int 0]) (w' := wZero ) (Ps := []) rfl trivial ?_
      refine ww_iret 31 rfl rfl ?_
      exact ⟨by unfold twM b2i; grind, rfl⟩
    · refine ww_run 28 2 (pc' := 93) (lv' := [(0, .int k), (1, .int a), (2, .int b)]) (st' := [.int 1]) (w' := wZero ) (Ps := []) rfl trivial ?_
      refine ww_iret 31 rfl rfl ?_
      exact ⟨by unfold twM b2i; grind, rfl⟩
  by_cases q5 : k = 16
  · refine ww_tabI 1 rfl (by rw [q5]; decide) (by rw [q5]; decide) (off := 93) (by rw [q5]; rfl) (tgt := 94) rfl ?_
    refine ww_run 32 3 (pc' := 97) (lv' := [(0, .int k), (1, .int a), (2, .int b)]) (st' := [.int (a + b)]) (w' := wZero ) (Ps := []) rfl trivial ?_
    refine ww_iret 35 rfl rfl ?_
    exact ⟨by unfold twM b2i; grind, rfl⟩
  by_cases q6 : k = 17
  · refine ww_tabI 1 rfl (by rw [q6]; decide) (by rw [q6]; decide) (off := 97) (by rw [q6]; rfl) (tgt := 98) rfl ?_
    refine ww_run 36 3 (pc' := 101) (lv' := [(0, .int k), (1, .int a), (2, .int b)]) (st' := [.int (a - b)]) (w' := wZero ) (Ps := []) rfl trivial ?_
    refine ww_iret 39 rfl rfl ?_
    exact ⟨by unfold twM b2i; grind, rfl⟩
  refine ww_tabO 1 rfl (by have z0 := lv_neT q0 (a := 11) rfl; have z1 := lv_neT q1 (a := 12) rfl; have z2 := lv_neT q2 (a := 13) rfl; have z3 := lv_neT q3 (a := 14) rfl; have z4 := lv_neT q4 (a := 15) rfl; have z5 := lv_neT q5 (a := 16) rfl; have z6 := lv_neT q6 (a := 17) rfl; omega) (tgt := 102) rfl ?_
  refine ww_run 40 3 (pc' := 105) (lv' := [(0, .int k), (1, .int a), (2, .int b)]) (st' := [.int (a * b)]) (w' := wZero ) (Ps := []) rfl trivial ?_
  refine ww_iret 43 rfl rfl ?_
  exact ⟨by unfold twM b2i; grind, rfl⟩
set_option maxHeartbeats 4000000 in
set_option maxRecDepth 100000 in
theorem l_X7_worth_16 {Q : Option Value → List va_E → Prop} {d : Nat} (hd : 1 ≤ d) (stk : Nat → Int32) (wi ki mo ho cd sr names till sitter on was sat stood rose turn : Nat → Int32) (pe ch lent : Int32) (J : Nat → Int32) (K : Nat → Nat → Int32) (k part : Nat) (e : Nat → Nat) (hpart : part < 3) (hL : MLW cd sr k e) (KK : ∀ (sk : Nat → Int32) (t : Nat), sayM0 cd k e part stk names = (sk, t) → WW M_X7_worth d Q xz 197 [(0, .ref 0), (1, .int (nI part)), (2, .int (nI t)), (3, .int (nI (e (part + 1))))] [] (wMv wi ki mo ho cd sr sk names till sitter on was sat stood rose turn pe ch (nI k) lent J K)) :
    ∀ (n i : Nat) (sk : Nat → Int32) (t : Nat), i ≤ e (part + 1) → e (part + 1) + 1 ≤ i + n → e part ≤ i → mRun names (fun q => cd (200 * k + q)) (e part) (stk, 0) (i - e part) = (sk, t) → WW M_X7_worth d Q xz 16 [(0, .ref 0), (1, .int (nI part)), (2, .int (nI t)), (3, .int (nI i))] [] (wMv wi ki mo ho cd sr sk names till sitter on was sat stood rose turn pe ch (nI k) lent J K) := by
  have hk6 := hL.1
  have hE := (hL.2.2.1 part hpart)
  intro n
  induction n with
  | zero => intro i; intros; omega
  | succ n ih =>
    intro i sk t hi hn hAi hs
    refine ww_run 12 12 (pc' := 32) (lv' := [(0, .ref 0), (1, .int (nI part)), (2, .int (nI t)), (3, .int (nI i))]) (st' := [.int (sr (((4 * (nI k)) + (nI part)) + 1).toNatClampNeg), .int (nI i)]) (w' := wMv wi ki mo ho cd sr sk names till sitter on was sat stood rose turn pe ch (nI k) lent J K) (Ps := [vp_in (((4 * (nI k)) + (nI part)) + 1) 24]) rfl ⟨(by rw [show (4 : Int32) * nI k = nI (4 * k) from pk_mul 4 k, nI_add (4 * k) part, nI_1 (4 * k + part)]; exact vp_in_nI (by omega) (by omega)), trivial⟩ ?_
    rw [show (4 : Int32) * nI k = nI (4 * k) from pk_mul 4 k]
    rw [nI_add (4 * k) part]
    rw [nI_1 (4 * k + part)]
    rw [nI_clamp (n := ((4 * k + part) + 1)) (by omega)]
    rw [show sr (4 * k + part + 1) = nI (e (part + 1)) from hL.2.1 (part + 1) (by omega)]
    refine ww_icmp_ge 24 rfl (tgt := 197) rfl (fun c1 => ?_) (fun c1 => ?_)
    · have c1 : e (part + 1) ≤ i := (nI_leI (a := (e (part + 1))) (b := i) (by omega) (by omega)).mp c1
      have hie : i = e (part + 1) := by omega
      subst hie
      exact KK sk t hs
    · have c1 : ¬ e (part + 1) ≤ i := fun q => c1 ((nI_leI (a := (e (part + 1))) (b := i) (by omega) (by omega)).mpr q)
      refine ww_run 25 10 (pc' := 52) (lv' := [(4, .int (cd ((200 * (nI k)) + (nI i)).toNatClampNeg)), (0, .ref 0), (1, .int (nI part)), (2, .int (nI t)), (3, .int (nI i))]) (st' := []) (w' := wMv wi ki mo ho cd sr sk names till sitter on was sat stood rose turn pe ch (nI k) lent J K) (Ps := [vp_in ((200 * (nI k)) + (nI i)) 1200]) rfl ⟨(by rw [show (200 : Int32) * nI k = nI (200 * k) from pk_mul 200 k, nI_add (200 * k) i]; exact vp_in_nI (by omega) (by omega)), trivial⟩ ?_
      rw [show (200 : Int32) * nI k = nI (200 * k) from pk_mul 200 k]
      rw [nI_add (200 * k) i]
      rw [nI_clamp (n := (200 * k + i)) (by omega)]
      have hok := hL.2.2.2 part hpart i hAi (by omega)
      rw [← mRun_d names (fun q => cd (200 * k + q)) (e part) stk, hs] at hok
      have hok : dOK (cd (200 * k + i)) t := hok
      have ht := dOK_le hok
      refine ww_run 35 2 (pc' := 56) (lv' := [(4, .int (cd (200 * k + i))), (0, .ref 0), (1, .int (nI part)), (2, .int (nI t)), (3, .int (nI i))]) (st' := [.int 100000, .int (cd (200 * k + i))]) (w' := wMv wi ki mo ho cd sr sk names till sitter on was sat stood rose turn pe ch (nI k) lent J K) (Ps := []) rfl trivial ?_
      refine ww_icmp_ge 37 rfl (tgt := 66) rfl (fun c2 => ?_) (fun c2 => ?_)
      · refine ww_run 41 5 (pc' := 75) (lv' := [(4, .int (cd (200 * k + i))), (0, .ref 0), (1, .int (nI part)), (2, .int (nI t)), (3, .int (nI i))]) (st' := [.int 11, .int (cd (200 * k + i)), .int (nI t), .ref 17]) (w' := wMv wi ki mo ho cd sr sk names till sitter on was sat stood rose turn pe ch (nI k) lent J K) (Ps := []) rfl trivial ?_
        refine ww_icmp_ge 46 rfl (tgt := 88) rfl (fun c3 => ?_) (fun c3 => ?_)
        · refine ww_run 52 6 (pc' := 191) (lv' := [(2, .int ((nI t) + 1)), (4, .int (cd (200 * k + i))), (0, .ref 0), (1, .int (nI part)), (3, .int (nI i))]) (st' := []) (w' := wMv wi ki mo ho cd sr (upd sk ((nI t).toNatClampNeg) ((cd (200 * k + i)) - 100000)) names till sitter on was sat stood rose turn pe ch (nI k) lent J K) (Ps := [vp_in (nI t) 200]) rfl ⟨(vp_in_nI (by have := hok; unfold dOK at this; grind) (by omega)), trivial⟩ ?_
          rw [nI_clamp (n := t) (by omega)]
          rw [nI_1 t]
          refine ww_run 114 2 (pc' := 16) (lv' := [(3, .int ((nI i) + 1)), (2, .int (nI (t + 1))), (4, .int (cd (200 * k + i))), (0, .ref 0), (1, .int (nI part))]) (st' := []) (w' := wMv wi ki mo ho cd sr (upd sk (t) ((cd (200 * k + i)) - 100000)) names till sitter on was sat stood rose turn pe ch (nI k) lent J K) (Ps := []) rfl trivial ?_
          rw [nI_1 i]
          refine ww_lv [3, 4, 1, 0] (lv' := [(0, .ref 0), (1, .int (nI part)), (2, .int (nI (t + 1))), (3, .int (nI (i + 1)))]) rfl ?_
          refine ih (i + 1) (upd sk (t) ((cd (200 * k + i)) - 100000)) (t + 1) (by omega) (by omega) (by omega) ?_
          rw [show i + 1 - e part = (i - e part) + 1 by omega]
          show mStep names (cd (200 * k + (e part + (i - e part)))) (mRun names (fun q => cd (200 * k + q)) (e part) (stk, 0) (i - e part)) = _
          rw [hs, show e part + (i - e part) = i by omega]
          unfold mStep
          simp only
          grind
        · refine ww_run 47 5 (pc' := 93) (lv' := [(4, .int (cd (200 * k + i))), (0, .ref 0), (1, .int (nI part)), (2, .int (nI t)), (3, .int (nI i))]) (st' := [.int (names (cd (200 * k + i)).toNatClampNeg), .int (nI t), .ref 17]) (w' := wMv wi ki mo ho cd sr sk names till sitter on was sat stood rose turn pe ch (nI k) lent J K) (Ps := [vp_in (cd (200 * k + i)) 6]) rfl ⟨(vp_6 (by have := hok.2.1; grind)), trivial⟩ ?_
          refine ww_run 55 3 (pc' := 191) (lv' := [(2, .int ((nI t) + 1)), (4, .int (cd (200 * k + i))), (0, .ref 0), (1, .int (nI part)), (3, .int (nI i))]) (st' := []) (w' := wMv wi ki mo ho cd sr (upd sk ((nI t).toNatClampNeg) (names (cd (200 * k + i)).toNatClampNeg)) names till sitter on was sat stood rose turn pe ch (nI k) lent J K) (Ps := [vp_in (nI t) 200]) rfl ⟨(vp_in_nI (by have := hok; unfold dOK at this; grind) (by omega)), trivial⟩ ?_
          rw [nI_clamp (n := t) (by omega)]
          rw [nI_1 t]
          refine ww_run 114 2 (pc' := 16) (lv' := [(3, .int ((nI i) + 1)), (2, .int (nI (t + 1))), (4, .int (cd (200 * k + i))), (0, .ref 0), (1, .int (nI part))]) (st' := []) (w' := wMv wi ki mo ho cd sr (upd sk (t) (names (cd (200 * k + i)).toNatClampNeg)) names till sitter on was sat stood rose turn pe ch (nI k) lent J K) (Ps := []) rfl trivial ?_
          rw [nI_1 i]
          refine ww_lv [3, 4, 1, 0] (lv' := [(0, .ref 0), (1, .int (nI part)), (2, .int (nI (t + 1))), (3, .int (nI (i + 1)))]) rfl ?_
          refine ih (i + 1) (upd sk (t) (names (cd (200 * k + i)).toNatClampNeg)) (t + 1) (by omega) (by omega) (by omega) ?_
          rw [show i + 1 - e part = (i - e part) + 1 by omega]
          show mStep names (cd (200 * k + (e part + (i - e part)))) (mRun names (fun q => cd (200 * k + q)) (e part) (stk, 0) (i - e part)) = _
          rw [hs, show e part + (i - e part) = i by omega]
          unfold mStep
          simp only
          grind
      · refine ww_run 38 2 (pc' := 63) (lv' := [(4, .int (cd (200 * k + i))), (0, .ref 0), (1, .int (nI part)), (2, .int (nI t)), (3, .int (nI i))]) (st' := [.int 11, .int (cd (200 * k + i))]) (w' := wMv wi ki mo ho cd sr sk names till sitter on was sat stood rose turn pe ch (nI k) lent J K) (Ps := []) rfl trivial ?_
        refine ww_icmp_ge 40 rfl (tgt := 100) rfl (fun c4 => ?_) (fun c4 => ?_)
        · refine ww_run 58 2 (pc' := 104) (lv' := [(4, .int (cd (200 * k + i))), (0, .ref 0), (1, .int (nI part)), (2, .int (nI t)), (3, .int (nI i))]) (st' := [.int 13, .int (cd (200 * k + i))]) (w' := wMv wi ki mo ho cd sr sk names till sitter on was sat stood rose turn pe ch (nI k) lent J K) (Ps := []) rfl trivial ?_
          refine ww_icmp_ne 60 rfl (tgt := 134) rfl (fun c5 => ?_) (fun c5 => ?_)
          · refine ww_run 78 2 (pc' := 138) (lv' := [(4, .int (cd (200 * k + i))), (0, .ref 0), (1, .int (nI part)), (2, .int (nI t)), (3, .int (nI i))]) (st' := [.int 19, .int (cd (200 * k + i))]) (w' := wMv wi ki mo ho cd sr sk names till sitter on was sat stood rose turn pe ch (nI k) lent J K) (Ps := []) rfl trivial ?_
            refine ww_icmp_ne 80 rfl (tgt := 161) rfl (fun c6 => ?_) (fun c6 => ?_)
            · obtain ⟨u, rfl⟩ : ∃ u, t = u + 1 + 1 := ⟨t - 2, by have := hok.2.2; grind⟩
              refine ww_run 95 17 (pc' := 187) (lv' := [(2, .int ((nI (u + 1 + 1)) + (-1))), (4, .int (cd (200 * k + i))), (0, .ref 0), (1, .int (nI part)), (3, .int (nI i))]) (st' := [.int (sk ((nI (u + 1 + 1)) + (-1)).toNatClampNeg), .int (sk (((nI (u + 1 + 1)) + (-1)) - 1).toNatClampNeg), .int (cd (200 * k + i)), .int (((nI (u + 1 + 1)) + (-1)) - 1), .ref 17]) (w' := wMv wi ki mo ho cd sr sk names till sitter on was sat stood rose turn pe ch (nI k) lent J K) (Ps := [vp_in (((nI (u + 1 + 1)) + (-1)) - 1) 200, vp_in ((nI (u + 1 + 1)) + (-1)) 200]) rfl ⟨(by rw [pk_m1 (u + 1), nI_pred u]; exact vp_in_nI (by omega) (by omega)), (by rw [pk_m1 (u + 1)]; exact vp_in_nI (by omega) (by omega)), trivial⟩ ?_
              rw [pk_m1 (u + 1)]
              rw [nI_clamp (n := (u + 1)) (by omega)]
              rw [nI_pred u]
              rw [nI_clamp (n := u) (by omega)]
              refine ww_cSi 112 ok_X7_two (Co.fr0 (c_X7_two (cd (200 * k + i)) (sk u) (sk (u + 1))) rfl) lk_X7_184 rfl (by omega) (rest := [.int (nI u), .ref 17]) rfl (Nat.le_of_ble_eq_true rfl) rfl ?_
              refine ww_run 113 3 (pc' := 16) (lv' := [(3, .int ((nI i) + 1)), (2, .int (nI (u + 1))), (4, .int (cd (200 * k + i))), (0, .ref 0), (1, .int (nI part))]) (st' := []) (w' := wMv wi ki mo ho cd sr (upd sk ((nI u).toNatClampNeg) (twM (cd (200 * k + i)) (sk u) (sk (u + 1)))) names till sitter on was sat stood rose turn pe ch (nI k) lent J K) (Ps := [vp_in (nI u) 200]) rfl ⟨(vp_in_nI (by omega) (by omega)), trivial⟩ ?_
              rw [nI_clamp (n := u) (by omega)]
              rw [nI_1 i]
              refine ww_lv [3, 4, 1, 0] (lv' := [(0, .ref 0), (1, .int (nI part)), (2, .int (nI (u + 1))), (3, .int (nI (i + 1)))]) rfl ?_
              refine ih (i + 1) (upd sk (u) (twM (cd (200 * k + i)) (sk u) (sk (u + 1)))) (u + 1) (by omega) (by omega) (by omega) ?_
              rw [show i + 1 - e part = (i - e part) + 1 by omega]
              show mStep names (cd (200 * k + (e part + (i - e part)))) (mRun names (fun q => cd (200 * k + q)) (e part) (stk, 0) (i - e part)) = _
              rw [hs, show e part + (i - e part) = i by omega]
              unfold mStep
              simp only
              grind
            · obtain ⟨u, rfl⟩ : ∃ u, t = u + 1 := ⟨t - 1, by have := hok.2.2; grind⟩
              refine ww_run 81 14 (pc' := 191) (lv' := [(4, .int (cd (200 * k + i))), (0, .ref 0), (1, .int (nI part)), (2, .int (nI (u + 1))), (3, .int (nI i))]) (st' := []) (w' := wMv wi ki mo ho cd sr (upd sk (((nI (u + 1)) - 1).toNatClampNeg) (-(sk ((nI (u + 1)) - 1).toNatClampNeg))) names till sitter on was sat stood rose turn pe ch (nI k) lent J K) (Ps := [vp_in ((nI (u + 1)) - 1) 200, vp_in ((nI (u + 1)) - 1) 200]) rfl ⟨(by rw [nI_pred u]; exact vp_in_nI (by omega) (by omega)), (by rw [nI_pred u]; exact vp_in_nI (by omega) (by omega)), trivial⟩ ?_
              rw [nI_pred u]
              rw [nI_clamp (n := u) (by omega)]
              refine ww_run 114 2 (pc' := 16) (lv' := [(3, .int ((nI i) + 1)), (4, .int (cd (200 * k + i))), (0, .ref 0), (1, .int (nI part)), (2, .int (nI (u + 1)))]) (st' := []) (w' := wMv wi ki mo ho cd sr (upd sk (u) (-(sk u))) names till sitter on was sat stood rose turn pe ch (nI k) lent J K) (Ps := []) rfl trivial ?_
              rw [nI_1 i]
              refine ww_lv [2, 3, 4, 0] (lv' := [(0, .ref 0), (1, .int (nI part)), (2, .int (nI (u + 1))), (3, .int (nI (i + 1)))]) rfl ?_
              refine ih (i + 1) (upd sk (u) (-(sk u))) (u + 1) (by omega) (by omega) (by omega) ?_
              rw [show i + 1 - e part = (i - e part) + 1 by omega]
              show mStep names (cd (200 * k + (e part + (i - e part)))) (mRun names (fun q => cd (200 * k + q)) (e part) (stk, 0) (i - e part)) = _
              rw [hs, show e part + (i - e part) = i by omega]
              unfold mStep
              simp only
              grind
          · obtain ⟨u, rfl⟩ : ∃ u, t = u + 1 := ⟨t - 1, by have := hok.2.2; grind⟩
            refine ww_run 61 11 (pc' := 122) (lv' := [(4, .int (cd (200 * k + i))), (0, .ref 0), (1, .int (nI part)), (2, .int (nI (u + 1))), (3, .int (nI i))]) (st' := [.int (sk ((nI (u + 1)) - 1).toNatClampNeg), .int ((nI (u + 1)) - 1), .ref 17]) (w' := wMv wi ki mo ho cd sr sk names till sitter on was sat stood rose turn pe ch (nI k) lent J K) (Ps := [vp_in ((nI (u + 1)) - 1) 200]) rfl ⟨(by rw [nI_pred u]; exact vp_in_nI (by omega) (by omega)), trivial⟩ ?_
            rw [nI_pred u]
            rw [nI_clamp (n := u) (by omega)]
            refine ww_if_ne 72 rfl (tgt := 129) rfl (fun c7 => ?_) (fun c7 => ?_)
            · refine ww_run 75 3 (pc' := 191) (lv' := [(4, .int (cd (200 * k + i))), (0, .ref 0), (1, .int (nI part)), (2, .int (nI (u + 1))), (3, .int (nI i))]) (st' := []) (w' := wMv wi ki mo ho cd sr (upd sk ((nI u).toNatClampNeg) 0) names till sitter on was sat stood rose turn pe ch (nI k) lent J K) (Ps := [vp_in (nI u) 200]) rfl ⟨(vp_in_nI (by omega) (by omega)), trivial⟩ ?_
              rw [nI_clamp (n := u) (by omega)]
              refine ww_run 114 2 (pc' := 16) (lv' := [(3, .int ((nI i) + 1)), (4, .int (cd (200 * k + i))), (0, .ref 0), (1, .int (nI part)), (2, .int (nI (u + 1)))]) (st' := []) (w' := wMv wi ki mo ho cd sr (upd sk (u) 0) names till sitter on was sat stood rose turn pe ch (nI k) lent J K) (Ps := []) rfl trivial ?_
              rw [nI_1 i]
              refine ww_lv [2, 3, 4, 0] (lv' := [(0, .ref 0), (1, .int (nI part)), (2, .int (nI (u + 1))), (3, .int (nI (i + 1)))]) rfl ?_
              refine ih (i + 1) (upd sk (u) 0) (u + 1) (by omega) (by omega) (by omega) ?_
              rw [show i + 1 - e part = (i - e part) + 1 by omega]
              show mStep names (cd (200 * k + (e part + (i - e part)))) (mRun names (fun q => cd (200 * k + q)) (e part) (stk, 0) (i - e part)) = _
              rw [hs, show e part + (i - e part) = i by omega]
              unfold mStep
              simp only
              grind
            · refine ww_run 73 2 (pc' := 130) (lv' := [(4, .int (cd (200 * k + i))), (0, .ref 0), (1, .int (nI part)), (2, .int (nI (u + 1))), (3, .int (nI i))]) (st' := [.int 1, .int (nI u), .ref 17]) (w' := wMv wi ki mo ho cd sr sk names till sitter on was sat stood rose turn pe ch (nI k) lent J K) (Ps := []) rfl trivial ?_
              refine ww_run 76 2 (pc' := 191) (lv' := [(4, .int (cd (200 * k + i))), (0, .ref 0), (1, .int (nI part)), (2, .int (nI (u + 1))), (3, .int (nI i))]) (st' := []) (w' := wMv wi ki mo ho cd sr (upd sk ((nI u).toNatClampNeg) 1) names till sitter on was sat stood rose turn pe ch (nI k) lent J K) (Ps := [vp_in (nI u) 200]) rfl ⟨(vp_in_nI (by omega) (by omega)), trivial⟩ ?_
              rw [nI_clamp (n := u) (by omega)]
              refine ww_run 114 2 (pc' := 16) (lv' := [(3, .int ((nI i) + 1)), (4, .int (cd (200 * k + i))), (0, .ref 0), (1, .int (nI part)), (2, .int (nI (u + 1)))]) (st' := []) (w' := wMv wi ki mo ho cd sr (upd sk (u) 1) names till sitter on was sat stood rose turn pe ch (nI k) lent J K) (Ps := []) rfl trivial ?_
              rw [nI_1 i]
              refine ww_lv [2, 3, 4, 0] (lv' := [(0, .ref 0), (1, .int (nI part)), (2, .int (nI (u + 1))), (3, .int (nI (i + 1)))]) rfl ?_
              refine ih (i + 1) (upd sk (u) 1) (u + 1) (by omega) (by omega) (by omega) ?_
              rw [show i + 1 - e part = (i - e part) + 1 by omega]
              show mStep names (cd (200 * k + (e part + (i - e part)))) (mRun names (fun q => cd (200 * k + q)) (e part) (stk, 0) (i - e part)) = _
              rw [hs, show e part + (i - e part) = i by omega]
              unfold mStep
              simp only
              grind
        · refine ww_run 41 5 (pc' := 75) (lv' := [(4, .int (cd (200 * k + i))), (0, .ref 0), (1, .int (nI part)), (2, .int (nI t)), (3, .int (nI i))]) (st' := [.int 11, .int (cd (200 * k + i)), .int (nI t), .ref 17]) (w' := wMv wi ki mo ho cd sr sk names till sitter on was sat stood rose turn pe ch (nI k) lent J K) (Ps := []) rfl trivial ?_
          refine ww_icmp_ge 46 rfl (tgt := 88) rfl (fun c8 => ?_) (fun c8 => ?_)
          · refine ww_run 52 6 (pc' := 191) (lv' := [(2, .int ((nI t) + 1)), (4, .int (cd (200 * k + i))), (0, .ref 0), (1, .int (nI part)), (3, .int (nI i))]) (st' := []) (w' := wMv wi ki mo ho cd sr (upd sk ((nI t).toNatClampNeg) ((cd (200 * k + i)) - 100000)) names till sitter on was sat stood rose turn pe ch (nI k) lent J K) (Ps := [vp_in (nI t) 200]) rfl ⟨(vp_in_nI (by have := hok; unfold dOK at this; grind) (by omega)), trivial⟩ ?_
            rw [nI_clamp (n := t) (by omega)]
            rw [nI_1 t]
            refine ww_run 114 2 (pc' := 16) (lv' := [(3, .int ((nI i) + 1)), (2, .int (nI (t + 1))), (4, .int (cd (200 * k + i))), (0, .ref 0), (1, .int (nI part))]) (st' := []) (w' := wMv wi ki mo ho cd sr (upd sk (t) ((cd (200 * k + i)) - 100000)) names till sitter on was sat stood rose turn pe ch (nI k) lent J K) (Ps := []) rfl trivial ?_
            rw [nI_1 i]
            refine ww_lv [3, 4, 1, 0] (lv' := [(0, .ref 0), (1, .int (nI part)), (2, .int (nI (t + 1))), (3, .int (nI (i + 1)))]) rfl ?_
            refine ih (i + 1) (upd sk (t) ((cd (200 * k + i)) - 100000)) (t + 1) (by omega) (by omega) (by omega) ?_
            rw [show i + 1 - e part = (i - e part) + 1 by omega]
            show mStep names (cd (200 * k + (e part + (i - e part)))) (mRun names (fun q => cd (200 * k + q)) (e part) (stk, 0) (i - e part)) = _
            rw [hs, show e part + (i - e part) = i by omega]
            unfold mStep
            simp only
            grind
          · refine ww_run 47 5 (pc' := 93) (lv' := [(4, .int (cd (200 * k + i))), (0, .ref 0), (1, .int (nI part)), (2, .int (nI t)), (3, .int (nI i))]) (st' := [.int (names (cd (200 * k + i)).toNatClampNeg), .int (nI t), .ref 17]) (w' := wMv wi ki mo ho cd sr sk names till sitter on was sat stood rose turn pe ch (nI k) lent J K) (Ps := [vp_in (cd (200 * k + i)) 6]) rfl ⟨(vp_6 (by have := hok.2.1; grind)), trivial⟩ ?_
            refine ww_run 55 3 (pc' := 191) (lv' := [(2, .int ((nI t) + 1)), (4, .int (cd (200 * k + i))), (0, .ref 0), (1, .int (nI part)), (3, .int (nI i))]) (st' := []) (w' := wMv wi ki mo ho cd sr (upd sk ((nI t).toNatClampNeg) (names (cd (200 * k + i)).toNatClampNeg)) names till sitter on was sat stood rose turn pe ch (nI k) lent J K) (Ps := [vp_in (nI t) 200]) rfl ⟨(vp_in_nI (by have := hok; unfold dOK at this; grind) (by omega)), trivial⟩ ?_
            rw [nI_clamp (n := t) (by omega)]
            rw [nI_1 t]
            refine ww_run 114 2 (pc' := 16) (lv' := [(3, .int ((nI i) + 1)), (2, .int (nI (t + 1))), (4, .int (cd (200 * k + i))), (0, .ref 0), (1, .int (nI part))]) (st' := []) (w' := wMv wi ki mo ho cd sr (upd sk (t) (names (cd (200 * k + i)).toNatClampNeg)) names till sitter on was sat stood rose turn pe ch (nI k) lent J K) (Ps := []) rfl trivial ?_
            rw [nI_1 i]
            refine ww_lv [3, 4, 1, 0] (lv' := [(0, .ref 0), (1, .int (nI part)), (2, .int (nI (t + 1))), (3, .int (nI (i + 1)))]) rfl ?_
            refine ih (i + 1) (upd sk (t) (names (cd (200 * k + i)).toNatClampNeg)) (t + 1) (by omega) (by omega) (by omega) ?_
            rw [show i + 1 - e part = (i - e part) + 1 by omega]
            show mStep names (cd (200 * k + (e part + (i - e part)))) (mRun names (fun q => cd (200 * k + q)) (e part) (stk, 0) (i - e part)) = _
            rw [hs, show e part + (i - e part) = i by omega]
            unfold mStep
            simp only
            grind
