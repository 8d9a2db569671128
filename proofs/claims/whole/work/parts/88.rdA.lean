abbrev wMr (tp cd sr wo he : Nat → Int32) (tn tx pt bg tk vl hm op ou : Int32) (J : Nat → Int32) (K : Nat → Nat → Int32) : List va_E :=
  [.inr (6, [.int (J 0), .ref 1, .int (J 2), .ref 2, .ref 3, .ref 4, .ref 5, .int tn, .ref 6, .ref 7, .int tx, .int (J 11), .int (J 12), .int (J 13), .int (J 14), .int (J 15), .ref 8, .ref 9, .ref 10, .ref 11, .ref 12, .ref 13, .ref 14, .int pt, .int bg, .int tk, .int vl, .ref 15, .ref 16, .int hm, .int op, .int ou, .ref 17, .ref 18, .ref 19, .ref 20, .ref 21, .ref 22, .ref 23, .ref 24, .ref 25, .ref 26, .int (J 42), .ref 27, .int (J 44), .int (J 45), .ref 28]),
   iA 15 (K 1),
   iA 6 (K 3),
   iA 6 (K 4),
   iA 3 (K 5),
   iA 160 tp,
   iA 1200 cd,
   iA 24 sr,
   iA 15 (K 16),
   iA 3 (K 17),
   iA 12 (K 18),
   iA 4 (K 19),
   iA 4 (K 20),
   iA 160 (K 21),
   iA 50 (K 22),
   iA 96 wo,
   iA 200 he,
   iA 200 (K 32),
   iA 6 (K 33),
   iA 6 (K 34),
   iA 6 (K 35),
   iA 5 (K 36),
   iA 5 (K 37),
   iA 5 (K 38),
   iA 5 (K 39),
   iA 5 (K 40),
   iA 5 (K 41),
   iA 5 (K 43),
   iA 20 (K 46)]
def woL : List Int32 := [119, 97, 114, 109, 32, 32, 32, 32, 102, 105, 114, 115, 116, 32, 32, 32, 99, 111, 115, 116, 115, 32, 32, 32, 102, 97, 116, 32, 32, 32, 32, 32, 109, 111, 114, 101, 32, 32, 32, 32, 115, 97, 116, 32, 32, 32, 32, 32, 115, 116, 111, 111, 100, 32, 32, 32, 109, 105, 110, 117, 116, 101, 32, 32, 110, 117, 109, 98, 101, 114, 32, 32, 111, 114, 32, 32, 32, 32, 32, 32, 97, 110, 100, 32, 32, 32, 32, 32, 110, 111, 116, 32, 32, 32, 32, 32]
def woT (j : Nat) : Int32 := woL.getD j 0
/-- word k of the reference's stands from a to e -/
abbrev lkW (tp : Nat → Int32) (a e k : Nat) : Prop := e - a ≤ 8 ∧ ∀ c, c < 8 → woT (8 * k + c) = if a + c < e then tp (a + c) else 32
def wfF (tp : Nat → Int32) (a e : Nat) : Nat → Nat → Nat
  | 0, k => k
  | n + 1, k => if lkW tp a e k then k else wfF tp a e n (k + 1)
def wdC (k : Nat) : Int32 := if k = 0 then -10 else if k = 1 then -11 else if k = 2 then -12 else if k = 3 then 10000 else if k = 4 then 10001 else if k = 5 then 10002 else if k = 6 then 10003 else if k = 7 then 10004 else if k = 8 then 10005 else if k = 9 then 10006 else if k = 10 then 10007 else if k = 11 then 10013 else -2
def tmW (k : Nat) : Nat := if k = 0 then 7 else if k = 1 then 8 else if k = 2 then 9 else if k = 3 then 1 else if k = 4 then 2 else if k = 5 then 3 else if k = 6 then 4 else if k = 7 then 5 else if k = 8 then 6 else if k = 9 then 10 else if k = 10 then 11 else if k = 11 then 12 else 0
/-- a token of the component's in the reference's writing -/
def tkM (c : Int32) : Int32 := if c = -1 then 0 else if 0 ≤ c ∧ c < 10000 then 1 else if 0 ≤ c ∧ c < 10006 then 2 else if c = -10 ∨ c = -11 ∨ c = -12 then 3 else if c = 10006 then 4 else if c = 10007 then 5 else if c = 10013 then 6 else if c = -3 then 40 else if c = -4 then 41 else if c = -5 then 59 else if c = 10010 then 43 else if c = 10011 then 45 else if c = 10012 then 42 else if c = 10008 then 60 else if c = 10009 then 61 else -1
abbrev vlM (c v : Int32) : Prop := (0 ≤ c ∧ c < 10000 → v = c) ∧ (10000 ≤ c ∧ c < 10006 → v = c - 10000) ∧ (c = -10 ∨ c = -11 ∨ c = -12 → v = -10 - c)
theorem wf_le {tp : Nat → Int32} {a e : Nat} : ∀ n k, wfF tp a e n k ≤ k + n ∧ k ≤ wfF tp a e n k
  | 0, k => ⟨Nat.le_refl k, Nat.le_refl k⟩
  | n + 1, k => by
    simp only [wfF]
    split
    · exact ⟨by omega, Nat.le_refl k⟩
    · have := wf_le (tp := tp) (a := a) (e := e) n (k + 1)
      omega
theorem wf_is {tp : Nat → Int32} {a e : Nat} : ∀ n k, (wfF tp a e n k < k + n → lkW tp a e (wfF tp a e n k)) ∧ ∀ j, k ≤ j → j < wfF tp a e n k → ¬ lkW tp a e j
  | 0, k => ⟨fun h => absurd h (by simp only [wfF]; omega), fun j h1 h2 => absurd h2 (by simp only [wfF]; omega)⟩
  | n + 1, k => by
    simp only [wfF]
    split
    · next h => exact ⟨fun _ => h, fun j h1 h2 => absurd h2 (by omega)⟩
    · next h =>
      obtain ⟨i1, i2⟩ := wf_is (tp := tp) (a := a) (e := e) n (k + 1)
      refine ⟨fun q => i1 (by omega), fun j h1 h2 => ?_⟩
      rcases Nat.lt_or_ge k j with g | g
      · exact i2 j g h2
      · obtain rfl : j = k := by omega
        exact h
theorem wo_tab : ∀ k, k < 12 → slen (tmW k) ≤ 7 ∧ (∀ c, c < 8 → (c < slen (tmW k) → woT (8 * k + c) = sbyt (tmW k) c ∧ woT (8 * k + c) ≠ 32) ∧ (slen (tmW k) ≤ c → woT (8 * k + c) = 32)) := by decide +kernel
/-- among letters both look-ups mean the same -/
theorem lk_sp {tp : Nat → Int32} {a e k : Nat} (hk : k < 12) (hae : a ≤ e) (hl : ∀ j, a ≤ j → j < e → isLt (tp j)) : lkW tp a e k ↔ spB tp a e (tmW k) := by
  obtain ⟨h7, ht⟩ := wo_tab k hk
  have h32 : ∀ j, a ≤ j → j < e → tp j ≠ 32 := by
    intro j h1 h2 h3
    have h4 := hl j h1 h2
    rw [h3] at h4
    exact absurd h4 (by unfold isLt; decide)
  constructor
  · rintro ⟨h8, hc⟩
    have hlen : e - a = slen (tmW k) := by
      rcases Nat.lt_trichotomy (e - a) (slen (tmW k)) with h | h | h
      · have h1 := hc (e - a) (by omega)
        rw [if_neg (by omega)] at h1
        exact absurd h1 ((ht (e - a) (by omega)).1 h).2
      · exact h
      · have h1 := hc (slen (tmW k)) (by omega)
        rw [if_pos (by omega), (ht (slen (tmW k)) (by omega)).2 (Nat.le_refl _)] at h1
        exact absurd h1.symm (h32 _ (by omega) (by omega))
    refine ⟨hlen, fun j hj => ?_⟩
    have h1 := hc j (by omega)
    rw [if_pos (by omega)] at h1
    rw [← h1]
    exact ((ht j (by omega)).1 hj).1
  · rintro ⟨hlen, hj⟩
    refine ⟨by omega, fun c hc => ?_⟩
    rcases Nat.lt_or_ge c (slen (tmW k)) with h | h
    · rw [if_pos (by omega), hj c h]
      exact ((ht c hc).1 h).1
    · rw [if_neg (by omega)]
      exact (ht c hc).2 h
theorem sp_tab : ∀ t, t < 13 → ∀ u, u < 13 → slen t = slen u → (∀ j, j < slen t → sbyt t j = sbyt u j) → t = u := by decide +kernel
theorem sp_one {tp : Nat → Int32} {a e t u : Nat} (ht : t < 13) (hu : u < 13) (h1 : spB tp a e t) (h2 : spB tp a e u) : t = u := by
  refine sp_tab t ht u hu (h1.1.symm.trans h2.1) (fun j hj => ?_)
  rw [← h1.2 j hj]
  exact h2.2 j (by rw [← h2.1, h1.1]; exact hj)
theorem wd_wf {tp : Nat → Int32} {a e : Nat} (hae : a ≤ e) (hl : ∀ j, a ≤ j → j < e → isLt (tp j)) : wdV tp a e = wdC (wfF tp a e 12 0) := by
  obtain ⟨h1, h2⟩ := wf_is (tp := tp) (a := a) (e := e) 12 0
  have h3 := (wf_le (tp := tp) (a := a) (e := e) 12 0).1
  generalize wfF tp a e 12 0 = k at h1 h2 h3
  have hno : ∀ j, j < 12 → j ≠ k → ¬ spB tp a e (tmW j) := by
    intro j hj hjk h
    rcases Nat.lt_or_ge k 12 with g | g
    · have hs := (lk_sp g hae hl).mp (h1 (by omega))
      have : tmW j = tmW k := sp_one (by unfold tmW; repeat' (first | split | omega)) (by unfold tmW; repeat' (first | split | omega)) h hs
      have inj : ∀ j, j < 12 → ∀ k, k < 12 → tmW j = tmW k → j = k := by decide
      exact hjk (inj j hj k g this)
    · exact h2 j (Nat.zero_le _) (by omega) ((lk_sp hj hae hl).mpr h)
  have hyes : k < 12 → spB tp a e (tmW k) := fun g => (lk_sp g hae hl).mp (h1 (by omega))
  rcases (show k = 0 ∨ k = 1 ∨ k = 2 ∨ k = 3 ∨ k = 4 ∨ k = 5 ∨ k = 6 ∨ k = 7 ∨ k = 8 ∨ k = 9 ∨ k = 10 ∨ k = 11 ∨ k = 12 by omega) with rfl | rfl | rfl | rfl | rfl | rfl | rfl | rfl | rfl | rfl | rfl | rfl | rfl
  · unfold wdV; rw [if_neg (c := spB tp a e 1) (hno 3 (by decide) (by decide)), if_neg (c := spB tp a e 2) (hno 4 (by decide) (by decide)), if_neg (c := spB tp a e 3) (hno 5 (by decide) (by decide)), if_neg (c := spB tp a e 4) (hno 6 (by decide) (by decide)), if_neg (c := spB tp a e 5) (hno 7 (by decide) (by decide)), if_neg (c := spB tp a e 6) (hno 8 (by decide) (by decide)), if_pos (c := spB tp a e 7) (hyes (by decide))]; rfl
  · unfold wdV; rw [if_neg (c := spB tp a e 1) (hno 3 (by decide) (by decide)), if_neg (c := spB tp a e 2) (hno 4 (by decide) (by decide)), if_neg (c := spB tp a e 3) (hno 5 (by decide) (by decide)), if_neg (c := spB tp a e 4) (hno 6 (by decide) (by decide)), if_neg (c := spB tp a e 5) (hno 7 (by decide) (by decide)), if_neg (c := spB tp a e 6) (hno 8 (by decide) (by decide)), if_neg (c := spB tp a e 7) (hno 0 (by decide) (by decide)), if_pos (c := spB tp a e 8) (hyes (by decide))]; rfl
  · unfold wdV; rw [if_neg (c := spB tp a e 1) (hno 3 (by decide) (by decide)), if_neg (c := spB tp a e 2) (hno 4 (by decide) (by decide)), if_neg (c := spB tp a e 3) (hno 5 (by decide) (by decide)), if_neg (c := spB tp a e 4) (hno 6 (by decide) (by decide)), if_neg (c := spB tp a e 5) (hno 7 (by decide) (by decide)), if_neg (c := spB tp a e 6) (hno 8 (by decide) (by decide)), if_neg (c := spB tp a e 7) (hno 0 (by decide) (by decide)), if_neg (c := spB tp a e 8) (hno 1 (by decide) (by decide)), if_pos (c := spB tp a e 9) (hyes (by decide))]; rfl
  · unfold wdV; rw [if_pos (c := spB tp a e 1) (hyes (by decide))]; rfl
  · unfold wdV; rw [if_neg (c := spB tp a e 1) (hno 3 (by decide) (by decide)), if_pos (c := spB tp a e 2) (hyes (by decide))]; rfl
  · unfold wdV; rw [if_neg (c := spB tp a e 1) (hno 3 (by decide) (by decide)), if_neg (c := spB tp a e 2) (hno 4 (by decide) (by decide)), if_pos (c := spB tp a e 3) (hyes (by decide))]; rfl
  · unfold wdV; rw [if_neg (c := spB tp a e 1) (hno 3 (by decide) (by decide)), if_neg (c := spB tp a e 2) (hno 4 (by decide) (by decide)), if_neg (c := spB tp a e 3) (hno 5 (by decide) (by decide)), if_pos (c := spB tp a e 4) (hyes (by decide))]; rfl
  · unfold wdV; rw [if_neg (c := spB tp a e 1) (hno 3 (by decide) (by decide)), if_neg (c := spB tp a e 2) (hno 4 (by decide) (by decide)), if_neg (c := spB tp a e 3) (hno 5 (by decide) (by decide)), if_neg (c := spB tp a e 4) (hno 6 (by decide) (by decide)), if_pos (c := spB tp a e 5) (hyes (by decide))]; rfl
  · unfold wdV; rw [if_neg (c := spB tp a e 1) (hno 3 (by decide) (by decide)), if_neg (c := spB tp a e 2) (hno 4 (by decide) (by decide)), if_neg (c := spB tp a e 3) (hno 5 (by decide) (by decide)), if_neg (c := spB tp a e 4) (hno 6 (by decide) (by decide)), if_neg (c := spB tp a e 5) (hno 7 (by decide) (by decide)), if_pos (c := spB tp a e 6) (hyes (by decide))]; rfl
  · unfold wdV; rw [if_neg (c := spB tp a e 1) (hno 3 (by decide) (by decide)), if_neg (c := spB tp a e 2) (hno 4 (by decide) (by decide)), if_neg (c := spB tp a e 3) (hno 5 (by decide) (by decide)), if_neg (c := spB tp a e 4) (hno 6 (by decide) (by decide)), if_neg (c := spB tp a e 5) (hno 7 (by decide) (by decide)), if_neg (c := spB tp a e 6) (hno 8 (by decide) (by decide)), if_neg (c := spB tp a e 7) (hno 0 (by decide) (by decide)), if_neg (c := spB tp a e 8) (hno 1 (by decide) (by decide)), if_neg (c := spB tp a e 9) (hno 2 (by decide) (by decide)), if_pos (c := spB tp a e 10) (hyes (by decide))]; rfl
  · unfold wdV; rw [if_neg (c := spB tp a e 1) (hno 3 (by decide) (by decide)), if_neg (c := spB tp a e 2) (hno 4 (by decide) (by decide)), if_neg (c := spB tp a e 3) (hno 5 (by decide) (by decide)), if_neg (c := spB tp a e 4) (hno 6 (by decide) (by decide)), if_neg (c := spB tp a e 5) (hno 7 (by decide) (by decide)), if_neg (c := spB tp a e 6) (hno 8 (by decide) (by decide)), if_neg (c := spB tp a e 7) (hno 0 (by decide) (by decide)), if_neg (c := spB tp a e 8) (hno 1 (by decide) (by decide)), if_neg (c := spB tp a e 9) (hno 2 (by decide) (by decide)), if_neg (c := spB tp a e 10) (hno 9 (by decide) (by decide)), if_pos (c := spB tp a e 11) (hyes (by decide))]; rfl
  · unfold wdV; rw [if_neg (c := spB tp a e 1) (hno 3 (by decide) (by decide)), if_neg (c := spB tp a e 2) (hno 4 (by decide) (by decide)), if_neg (c := spB tp a e 3) (hno 5 (by decide) (by decide)), if_neg (c := spB tp a e 4) (hno 6 (by decide) (by decide)), if_neg (c := spB tp a e 5) (hno 7 (by decide) (by decide)), if_neg (c := spB tp a e 6) (hno 8 (by decide) (by decide)), if_neg (c := spB tp a e 7) (hno 0 (by decide) (by decide)), if_neg (c := spB tp a e 8) (hno 1 (by decide) (by decide)), if_neg (c := spB tp a e 9) (hno 2 (by decide) (by decide)), if_neg (c := spB tp a e 10) (hno 9 (by decide) (by decide)), if_neg (c := spB tp a e 11) (hno 10 (by decide) (by decide)), if_pos (c := spB tp a e 12) (hyes (by decide))]; rfl
  · unfold wdV; rw [if_neg (c := spB tp a e 1) (hno 3 (by decide) (by decide)), if_neg (c := spB tp a e 2) (hno 4 (by decide) (by decide)), if_neg (c := spB tp a e 3) (hno 5 (by decide) (by decide)), if_neg (c := spB tp a e 4) (hno 6 (by decide) (by decide)), if_neg (c := spB tp a e 5) (hno 7 (by decide) (by decide)), if_neg (c := spB tp a e 6) (hno 8 (by decide) (by decide)), if_neg (c := spB tp a e 7) (hno 0 (by decide) (by decide)), if_neg (c := spB tp a e 8) (hno 1 (by decide) (by decide)), if_neg (c := spB tp a e 9) (hno 2 (by decide) (by decide)), if_neg (c := spB tp a e 10) (hno 9 (by decide) (by decide)), if_neg (c := spB tp a e 11) (hno 10 (by decide) (by decide)), if_neg (c := spB tp a e 12) (hno 11 (by decide) (by decide))]; rfl
theorem spn_all {ok : Int32 → Prop} [DecidablePred ok] {B : Nat → Int32} {N : Nat} : ∀ n p j, p ≤ j → j < spn ok B N n p → ok (B j)
  | 0, p, j, h1, h2 => absurd h2 (by simp only [spn]; omega)
  | n + 1, p, j, h1, h2 => by
    simp only [spn] at h2
    split at h2
    · next q =>
      rcases Nat.lt_or_ge p j with g | g
      · exact spn_all n (p + 1) j g h2
      · obtain rfl : j = p := by omega
        exact q.2
    · omega
/-- four digits at most stay small -/
theorem dg_lt {B : Nat → Int32} {N : Nat} : ∀ n p (x : Int32) m, m ≤ 4 → (dgR B N n (p, x)).1 ≤ p + m → 0 ≤ x.toInt → x.toInt * 10 ^ m ≤ 9999 → (0 ≤ (dgR B N n (p, x)).2.toInt ∧ (dgR B N n (p, x)).2.toInt ≤ 9999)
  | 0, p, x, m, hm, h, h0, h1 => by
    simp only [dgR]
    refine ⟨h0, ?_⟩
    rcases (show m = 0 ∨ m = 1 ∨ m = 2 ∨ m = 3 ∨ m = 4 by omega) with rfl | rfl | rfl | rfl | rfl <;> omega
  | n + 1, p, x, m, hm, h, h0, h1 => by
    simp only [dgR] at h ⊢
    split
    · next q =>
      rw [if_pos q] at h
      have hge := dgR_ge (B := B) (N := N) n (p + 1, x * 10 + B p - 48)
      have hge : p + 1 ≤ (dgR B N n (p + 1, x * 10 + B p - 48)).1 := hge
      cases m with
      | zero => exact absurd h (by show ¬ (dgR B N n (p + 1, x * 10 + B p - 48)).1 ≤ p + 0; omega)
      | succ m =>
        have b1 := Int32.le_iff_toInt_le.mp q.2.1
        have b2 := Int32.le_iff_toInt_le.mp q.2.2
        have e1 : (48 : Int32).toInt = 48 := rfl
        have e2 : (57 : Int32).toInt = 57 := rfl
        have b1 : 48 ≤ (B p).toInt := by rw [← e1]; exact b1
        have b2 : (B p).toInt ≤ 57 := by rw [← e2]; exact b2
        have hx : x.toInt ≤ 999 := by
          rcases (show m = 0 ∨ m = 1 ∨ m = 2 ∨ m = 3 by omega) with rfl | rfl | rfl | rfl <;> omega
        have hv : (x * 10 + B p - 48).toInt = x.toInt * 10 + (B p).toInt - 48 := by
          have e3 : (10 : Int32).toInt = 10 := rfl
          rw [Int32.toInt_sub, Int32.toInt_add, Int32.toInt_mul, e1, e3]
          rw [Int.bmod_eq_of_le (n := x.toInt * 10) (by omega) (by omega), Int.bmod_eq_of_le (n := x.toInt * 10 + (B p).toInt) (by omega) (by omega), Int.bmod_eq_of_le (by omega) (by omega)]
        refine dg_lt n (p + 1) _ m (by omega) (by have h : (dgR B N n (p + 1, x * 10 + B p - 48)).1 ≤ p + (m + 1) := h; omega) (by rw [hv]; omega) ?_
        rw [hv]
        rcases (show m = 0 ∨ m = 1 ∨ m = 2 ∨ m = 3 by omega) with rfl | rfl | rfl | rfl <;> omega
    · next q =>
      refine ⟨h0, ?_⟩
      show x.toInt ≤ 9999
      rcases (show m = 0 ∨ m = 1 ∨ m = 2 ∨ m = 3 ∨ m = 4 by omega) with rfl | rfl | rfl | rfl | rfl <;> omega
