/-- how many of the first n have risen -/
def cntR (rose : Nat → Int32) : Nat → Nat
  | 0 => 0
  | n + 1 => cntR rose n + (if rose n = -1 then 0 else 1)
theorem cntR_le (rose : Nat → Int32) : ∀ n, cntR rose n ≤ n
  | 0 => Nat.le_refl 0
  | n + 1 => by
    have := cntR_le rose n
    unfold cntR
    split <;> omega
theorem cntR_upd {rose : Nat → Int32} {p : Nat} {v : Int32} (hp : rose p = -1) (hv : ¬ v = -1) : ∀ n, cntR (upd rose p v) n = cntR rose n + (if p < n then 1 else 0)
  | 0 => rfl
  | n + 1 => by
    have ih := cntR_upd hp hv n
    simp only [cntR, upd, ih]
    by_cases h : n = p
    · subst h
      simp [hv, hp]
    · simp only [if_neg h]
      by_cases h2 : p < n
      · have h3 : p < n + 1 := by omega
        simp only [if_pos h2, if_pos h3]; omega
      · have h3 : ¬ p < n + 1 := by omega
        simp only [if_neg h2, if_neg h3]; omega
theorem cntR_full {rose : Nat → Int32} : ∀ {n : Nat}, cntR rose n = n → ∀ q, q < n → ¬ rose q = -1
  | 0, _, q, hq => absurd hq (Nat.not_lt_zero q)
  | n + 1, h, q, hq => by
    have h1 := cntR_le rose n
    unfold cntR at h
    split at h
    · omega
    · next h2 =>
      by_cases e : q = n
      · rw [e]; exact h2
      · exact cntR_full (n := n) (by omega) q (by omega)
theorem cntR_congr {f g : Nat → Int32} : ∀ {n : Nat}, (∀ q, q < n → f q = g q) → cntR f n = cntR g n
  | 0, _ => rfl
  | n + 1, h => by simp only [cntR]; rw [cntR_congr (fun q hq => h q (by omega)), h n (by omega)]
theorem m1_neg {x : Int32} (h : x = -1 ∨ 0 ≤ x) : x < 0 ↔ x = -1 := by
  rcases h with h | h
  · rw [h]; decide
  · constructor
    · intro h2; exact absurd h2 (Int32.not_lt.mpr h)
    · intro h2; rw [h2]; decide
theorem m1_pos {x : Int32} (h : x = -1 ∨ 0 ≤ x) : 0 ≤ x ↔ ¬ x = -1 := by
  rw [← m1_neg h]
  exact Int32.not_lt.symm
theorem m1_nI {n : Nat} (h : n < 2 ^ 31) : ¬ nI n = -1 := nI_ne_m1 h
theorem mSat_nI {C j : Nat} {sitter : Nat → Int32} (hC : C ≤ 6) (hj : j ≤ 6) : mSat C sitter (nI j) ↔ j < C ∧ ¬ sitter j = -1 := by
  unfold mSat mIn
  rw [nI_clamp (n := j) (by omega)]
  rcases Nat.eq_zero_or_pos C with h0 | h0
  · subst h0
    constructor
    · rintro ⟨⟨h1, h2⟩, -⟩
      have h3 : nI 0 - (1 : Int32) = -1 := by decide
      rw [h3] at h2
      have h4 : (0 : Int32) ≤ -1 := by
        have := Int32.le_iff_toInt_le.mp h1
        have := Int32.le_iff_toInt_le.mp h2
        exact Int32.le_iff_toInt_le.mpr (by omega)
      exact absurd h4 (by decide)
    · rintro ⟨h, -⟩
      omega
  · obtain ⟨D, rfl⟩ : ∃ D, C = D + 1 := ⟨C - 1, by omega⟩
    rw [nI_pred D, nI_leI (by omega) (by omega)]
    constructor
    · rintro ⟨⟨-, h2⟩, h3⟩
      exact ⟨by omega, h3⟩
    · rintro ⟨h1, h2⟩
      exact ⟨⟨nI_pos' (by omega), by omega⟩, h2⟩
theorem mSat_m1 {C c : Nat} {sitter : Nat → Int32} (hC : C ≤ 6) (hc : c < 6) : mSat C sitter (nI c - 1) ↔ 1 ≤ c ∧ c - 1 < C ∧ ¬ sitter (c - 1) = -1 := by
  rcases Nat.eq_zero_or_pos c with h0 | h0
  · subst h0
    constructor
    · rintro ⟨⟨h1, -⟩, -⟩
      exact absurd h1 (by decide)
    · rintro ⟨h, -⟩
      omega
  · obtain ⟨d, rfl⟩ : ∃ d, c = d + 1 := ⟨c - 1, by omega⟩
    rw [nI_pred d, mSat_nI hC (by omega)]
    simp
/-- a chair is warm in the one as in the other -/
theorem warm_iff {C c : Nat} {ki till sitter : Nat → Int32} {m : Int32} (hC : C ≤ 6) (hc : c < C) : eWarm ki till (setOf (fun j => decide (j < C ∧ ¬ sitter j = -1)) 6) c m ↔ mWarm C ki till sitter c m := by
  have hb := setOf_beside (fun j => decide (j < C ∧ ¬ sitter j = -1)) (fun j hj => decide_eq_false (by omega)) (c := c) (by omega)
  unfold eWarm mWarm
  rw [hb, mSat_m1 hC (by omega), mSat_nI hC (by omega)]
  simp only [decide_eq_true_eq]
theorem free_iff {C c : Nat} {ki mo till sitter : Nat → Int32} {lent m : Int32} (hC : C ≤ 6) (hc : c < C) (h : sitter c = -1 ∨ 0 ≤ sitter c) : eFree ki mo till sitter lent (setOf (fun j => decide (j < C ∧ ¬ sitter j = -1)) 6) c m ↔ mFree C ki mo till sitter lent c m := by
  unfold eFree mFree
  rw [warm_iff hC hc, m1_neg h]
  unfold mLets eLets
  constructor
  · rintro ⟨h1, h2, h3, h4⟩
    exact ⟨h3, h2, h1, h4⟩
  · rintro ⟨h3, h2, h1, h4⟩
    exact ⟨h1, h2, h3, h4⟩
theorem kKeeps_pos {k more w sat : Int32} (hm : 0 ≤ more ∧ more ≤ 9) (hw : 0 ≤ w ∧ w ≤ 99) : 0 ≤ kKeeps k more w sat := by
  obtain ⟨j, hj, rfl⟩ := nI_of2 (x := w) (M := 99) (n := 99) rfl (Int32.not_lt.mpr hw.1) hw.2
  obtain ⟨i, hi, rfl⟩ := nI_of2 (x := more) (M := 9) (n := 9) rfl (Int32.not_lt.mpr hm.1) hm.2
  have hd : nI j / (2 : Int32) = nI (j / 2) := pk_div (a := j) (d := 2) (by omega) (by omega) (by omega)
  unfold kKeeps
  rw [hd]
  split
  · rw [nI_add]; exact nI_pos' (by omega)
  · split
    · exact nI_pos' (by omega)
    · split
      · split
        · decide
        · rw [show nI (j / 2) * (2 : Int32) = nI (j / 2 * 2) from pk_mul (j / 2) 2]
          exact nI_pos' (by omega)
      · exact nI_pos' (by omega)
theorem eKeep_pos {ki mo fa sat stood : Nat → Int32} {say : Nat → (Nat → Int32) → Int32} {p c : Nat} {m : Int32} (hm : 0 ≤ mo c ∧ mo c ≤ 9) (hs : ∀ q f, 0 ≤ say q f ∧ say q f ≤ 99) : (if (0 : Int32) < eKeep ki mo fa sat stood say p c m then eKeep ki mo fa sat stood say p c m else 0) = eKeep ki mo fa sat stood say p c m := by
  have h := kKeeps_pos (k := ki c) (sat := sat p) hm (hs 0 (nm6 (fa p) (mo c) (sat p) (stood p) m (nI c)))
  have h : 0 ≤ eKeep ki mo fa sat stood say p c m := h
  split
  · rfl
  · next h2 =>
    have a1 := Int32.le_iff_toInt_le.mp h
    have a2 := Int32.le_iff_toInt_le.mp (Int32.not_lt.mp h2)
    exact Int32.toInt_inj.mp (by omega)
theorem eKeep_congr {ki mo fa s1 s2 t1 t2 : Nat → Int32} {say : Nat → (Nat → Int32) → Int32} {p c : Nat} {m : Int32} (h1 : s1 p = s2 p) (h2 : t1 p = t2 p) : eKeep ki mo fa s1 t1 say p c m = eKeep ki mo fa s2 t2 say p c m := by
  unfold eKeep
  rw [h1, h2]
theorem eFirst_congr {fa s1 s2 t1 t2 : Nat → Int32} {say : Nat → (Nat → Int32) → Int32} {p : Nat} {m : Int32} (h1 : s1 p = s2 p) (h2 : t1 p = t2 p) : eFirst fa s1 t1 say p m = eFirst fa s2 t2 say p m := by
  unfold eFirst
  rw [h1, h2]
/-- the evening of the one and of the other agree -/
def REL (P C : Nat) (s : ES) (t : MS) : Prop :=
  (∀ q, q < P → s.1 q = t.1 q ∧ s.2.1 q = t.2.1 q ∧ s.2.2.1 q = t.2.2.1 q ∧ s.2.2.2.1 q = t.2.2.2.1 q ∧ s.2.2.2.2.1 q = t.2.2.2.2.1 q) ∧ (∀ c, c < C → s.2.2.2.2.2.1 c = t.2.2.2.2.2.1 c ∧ s.2.2.2.2.2.2.1 c = t.2.2.2.2.2.2 c)
/-- what holds of the one's evening all along -/
def INV (P C : Nat) (s : ES) : Prop :=
  (∀ q, q < P → s.1 q = -1 ∨ ∃ c, c < C ∧ s.1 q = nI c) ∧ (∀ q, q < P → s.2.2.2.2.1 q = -1 ∨ 0 ≤ s.2.2.2.2.1 q) ∧ (∀ c, c < C → s.2.2.2.2.2.2.1 c = -1 ∨ 0 ≤ s.2.2.2.2.2.2.1 c) ∧ s.2.2.2.2.2.2.2.1 = setOf (fun c => decide (c < C ∧ ¬ s.2.2.2.2.2.2.1 c = -1)) 6 ∧ s.2.2.2.2.2.2.2.2 = nI (cntR s.2.2.2.2.1 P) ∧ (∀ q, q < P → ¬ s.2.2.2.2.1 q = -1 → s.1 q = -1)
