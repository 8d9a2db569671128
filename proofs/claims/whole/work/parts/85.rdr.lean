/-! the reference's reader as a function of tokens, and the component's beside it -/
def rk (s : Int32) : Nat := if s = 0 then 0 else if s = 11 then 1 else if s = 12 then 2 else if s = 13 then 3 else if s ≤ 15 then 4 else if s ≤ 17 then 5 else if s = 18 then 6 else 7
/-- a code of the component in the reference's writing -/
def cC (c : Int32) : Int32 := if 0 ≤ c ∧ c < 10000 then 100000 + c else if 0 ≤ c ∧ c < 10006 then c - 10000 else if c = 10006 then 11 else if c = 10007 then 12 else if c = 10008 then 14 else if c = 10009 then 15 else if c = 10010 then 16 else if c = 10011 then 17 else if c = 10012 then 18 else if c = 10013 then 13 else 19
/-- a sign that stands between two -/
def sgR (t : Int32) : Option Int32 := if t = 10006 then some 11 else if t = 10007 then some 12 else if t = 10008 then some 14 else if t = 10009 then some 15 else if t = 10010 then some 16 else if t = 10011 then some 17 else if t = 10012 then some 18 else none
def levR (g : Int32) : Nat := if rk g = 4 then 5 else rk g
def opn : List Int32 → Nat
  | [] => 0
  | s :: H => (if s = 0 ∨ s = 13 ∨ s = 19 then 1 else 0) + opn H
def topR : List Int32 → Nat
  | [] => 0
  | s :: _ => rk s
def unw (l : Nat) : List Int32 → List Int32 → List Int32 × List Int32
  | [], O => ([], O)
  | s :: H, O => if l ≤ rk s then unw l H (s :: O) else (s :: H, O)
abbrev Tk := Nat × Nat × Int32
abbrev YRes := Sum Nat (List Int32 × Nat)
def stY (B : Nat → Int32) (N : Nat) (r : Option Bool → List Int32 → List Int32 → Tk → YRes) (md : Option Bool) (H O : List Int32) (k : Tk) : YRes :=
  match md with
  | some m =>
    if 0 ≤ k.2.2 ∧ k.2.2 < 10006 then r none (unw 7 H (cC k.2.2 :: O)).1 (unw 7 H (cC k.2.2 :: O)).2 (lkF B N k.1)
    else if k.2.2 = 10013 ∧ m = true then (if opn H = 5 then .inl k.2.1 else r (some true) (13 :: H) O (lkF B N k.1))
    else if k.2.2 = 10011 then (if opn H = 5 then .inl k.2.1 else r (some false) (19 :: H) O (lkF B N k.1))
    else if k.2.2 = -3 then (if opn H = 5 then .inl k.2.1 else r (some true) (0 :: H) O (lkF B N k.1))
    else .inl k.2.1
  | none =>
    if k.2.2 = -5 then (if (unw 1 H O).1 = [] then .inr ((unw 1 H O).2, k.1) else .inl k.2.1)
    else if k.2.2 = -4 then (if (unw 1 H O).1 = [] then .inl k.2.1 else r none (unw 7 (unw 1 H O).1.tail (unw 1 H O).2).1 (unw 7 (unw 1 H O).1.tail (unw 1 H O).2).2 (lkF B N k.1))
    else match sgR k.2.2 with
      | none => .inl k.2.1
      | some g => if rk g = 4 ∧ topR (unw (levR g) H O).1 = 4 then .inl k.2.1 else r (some (decide (g ≤ 12))) (g :: (unw (levR g) H O).1) (unw (levR g) H O).2 (lkF B N k.1)
def yt (B : Nat → Int32) (N : Nat) : Nat → Option Bool → List Int32 → List Int32 → Tk → YRes
  | 0 => fun _ _ _ k => .inl k.2.1
  | n + 1 => stY B N (yt B N n)
def Yv (B : Nat → Int32) (N : Nat) (md : Option Bool) (H O : List Int32) (k : Tk) : YRes := yt B N (N - k.1 + 1) md H O k
theorem stY_congr {B : Nat → Int32} {N : Nat} {r r' : Option Bool → List Int32 → List Int32 → Tk → YRes} {k : Tk} (h : ∀ md H O, r md H O (lkF B N k.1) = r' md H O (lkF B N k.1)) (md : Option Bool) (H O : List Int32) : stY B N r md H O k = stY B N r' md H O k := by
  unfold stY
  simp only [h]
theorem stY_end {B : Nat → Int32} {N : Nat} {r : Option Bool → List Int32 → List Int32 → Tk → YRes} {k : Tk} (hk : k.2.2 = -1) (md : Option Bool) (H O : List Int32) : stY B N r md H O k = .inl k.2.1 := by
  unfold stY
  rw [hk]
  cases md with
  | none => rfl
  | some m => cases m <;> rfl
theorem yt_end {B : Nat → Int32} {N : Nat} {k : Tk} (hk : k.2.2 = -1) : ∀ n md H O, yt B N n md H O k = .inl k.2.1
  | 0, _, _, _ => rfl
  | n + 1, md, H, O => stY_end hk md H O
/-- a token that isn't the end goes on -/
theorem lkQ_gt {B : Nat → Int32} {N q : Nat} (hq : q ≤ N) : (lkQ B N q).2.2 = -1 ∧ (lkQ B N q).1 = N ∨ (q < (lkQ B N q).1 ∧ (lkQ B N q).1 ≤ N ∧ q < N) := by
  unfold lkQ
  split
  · next h =>
    refine Or.inr ?_
    split
    · next h2 =>
      have h3 : spn isLt B N (N - q) q = spn isLt B N (N - (q + 1)) (q + 1) := by
        rw [show N - q = (N - (q + 1)) + 1 by omega]
        simp only [spn]
        rw [if_pos ⟨h, h2⟩]
      have h4 : q + 1 ≤ spn isLt B N (N - (q + 1)) (q + 1) := spn_ge _ _
      have h5 : spn isLt B N (N - (q + 1)) (q + 1) ≤ N := spn_le _ _ h
      exact ⟨by show q < spn isLt B N (N - q) q; omega, by show spn isLt B N (N - q) q ≤ N; omega, h⟩
    · split
      · next h2 =>
        have h3 : dgR B N (N - q) (q, 0) = dgR B N (N - (q + 1)) (q + 1, 0 * 10 + B q - 48) := by
          rw [show N - q = (N - (q + 1)) + 1 by omega]
          simp only [dgR]
          rw [if_pos ⟨h, h2⟩]
        have h4 : q + 1 ≤ (dgR B N (N - (q + 1)) (q + 1, 0 * 10 + B q - 48)).1 := dgR_ge _ (q + 1, 0 * 10 + B q - 48)
        have h5 : (dgR B N (N - (q + 1)) (q + 1, 0 * 10 + B q - 48)).1 ≤ N := dgR_le _ (q + 1, 0 * 10 + B q - 48) h
        exact ⟨by show q < (dgR B N (N - q) (q, 0)).1; rw [h3]; omega, by show (dgR B N (N - q) (q, 0)).1 ≤ N; rw [h3]; omega, h⟩
      · exact ⟨Nat.lt_succ_self q, h, h⟩
  · exact Or.inl ⟨rfl, by show q = N; omega⟩
theorem lkQ_at {B : Nat → Int32} {N q : Nat} : (lkQ B N q).2.1 = q := by
  unfold lkQ
  split
  · split
    · rfl
    · split <;> rfl
  · rfl
theorem lkF_gt {B : Nat → Int32} {N p : Nat} (hp : p ≤ N) : p ≤ (lkF B N p).2.1 ∧ (lkF B N p).2.1 ≤ N ∧ (lkF B N p).1 ≤ N ∧ ((lkF B N p).2.2 = -1 ∨ ((lkF B N p).2.1 < (lkF B N p).1)) := by
  have h0 : p ≤ spn isBk B N (N - p) p := spn_ge _ _
  have h1 : spn isBk B N (N - p) p ≤ N := spn_le _ _ hp
  unfold lkF
  rw [lkQ_at]
  rcases lkQ_gt (B := B) h1 with ⟨h, h'⟩ | ⟨h, h', h''⟩
  · exact ⟨h0, h1, by omega, Or.inl h⟩
  · exact ⟨h0, h1, h', Or.inr h⟩
def AdY (N n : Nat) (k : Tk) : Prop := k.2.2 = -1 ∨ N - k.1 < n
theorem ad_next {B : Nat → Int32} {N n : Nat} {k : Tk} (hk : k.1 ≤ N) (h : N - k.1 < n + 1) : AdY N n (lkF B N k.1) := by
  obtain ⟨h1, h2, h3, h4⟩ := lkF_gt (B := B) hk
  rcases h4 with h4 | h4
  · exact Or.inl h4
  · exact Or.inr (by omega)
theorem yt_ad {B : Nat → Int32} {N : Nat} : ∀ n n' k, k.1 ≤ N → AdY N n k → AdY N n' k → ∀ md H O, yt B N n md H O k = yt B N n' md H O k := by
  intro n
  induction n with
  | zero =>
    intro n' k hk h h'
    rcases h with h | h
    · intro md H O; rw [yt_end h, yt_end h]
    · omega
  | succ n ih =>
    intro n' k hk h h' md H O
    by_cases he : k.2.2 = -1
    · rw [yt_end he, yt_end he]
    · rcases h with h | h
      · exact absurd h he
      · rcases h' with h' | h'
        · exact absurd h' he
        · cases n' with
          | zero => omega
          | succ n' => exact stY_congr (fun md H O => ih n' _ (lkF_gt hk).2.2.1 (ad_next hk h) (ad_next hk h') md H O) md H O
theorem Yv_eq {B : Nat → Int32} {N : Nat} {k : Tk} (hk : k.1 ≤ N) (md : Option Bool) (H O : List Int32) : Yv B N md H O k = stY B N (Yv B N) md H O k := by
  refine stY_congr (fun md H O => ?_) md H O
  refine yt_ad (N - k.1) _ _ (lkF_gt hk).2.2.1 ?_ (Or.inr (by omega)) md H O
  exact ad_next hk (Nat.lt_succ_self _)
section
variable {B : Nat → Int32} {N p a : Nat} {t : Int32} {m : Bool} {H O : List Int32}
theorem Yv_num (hp : p ≤ N) (h : 0 ≤ t ∧ t < 10006) : Yv B N (some m) H O (p, a, t) = Yv B N none (unw 7 H (cC t :: O)).1 (unw 7 H (cC t :: O)).2 (lkF B N p) := by
  rw [Yv_eq hp]
  exact if_pos h
theorem Yv_not (hp : p ≤ N) (ht : t = 10013) (h : opn H ≠ 5) : Yv B N (some true) H O (p, a, t) = Yv B N (some true) (13 :: H) O (lkF B N p) := by
  rw [Yv_eq hp]
  show (if 0 ≤ t ∧ t < 10006 then _ else if t = 10013 ∧ true = true then (if opn H = 5 then _ else _) else if t = 10011 then (if opn H = 5 then _ else _) else if t = -3 then (if opn H = 5 then _ else _) else _) = _
  rw [if_neg (by rw [ht]; decide), if_pos ⟨ht, rfl⟩, if_neg h]
theorem Yv_neg (hp : p ≤ N) (ht : t = 10011) (h : opn H ≠ 5) : Yv B N (some m) H O (p, a, t) = Yv B N (some false) (19 :: H) O (lkF B N p) := by
  rw [Yv_eq hp]
  show (if 0 ≤ t ∧ t < 10006 then _ else if t = 10013 ∧ m = true then (if opn H = 5 then _ else _) else if t = 10011 then (if opn H = 5 then _ else _) else if t = -3 then (if opn H = 5 then _ else _) else _) = _
  rw [if_neg (by rw [ht]; decide), if_neg (fun q => absurd (ht ▸ q.1) (by decide)), if_pos ht, if_neg h]
theorem Yv_open (hp : p ≤ N) (ht : t = -3) (h : opn H ≠ 5) : Yv B N (some m) H O (p, a, t) = Yv B N (some true) (0 :: H) O (lkF B N p) := by
  rw [Yv_eq hp]
  show (if 0 ≤ t ∧ t < 10006 then _ else if t = 10013 ∧ m = true then (if opn H = 5 then _ else _) else if t = 10011 then (if opn H = 5 then _ else _) else if t = -3 then (if opn H = 5 then _ else _) else _) = _
  rw [if_neg (by rw [ht]; decide), if_neg (fun q => absurd (ht ▸ q.1) (by decide)), if_neg (by rw [ht]; decide), if_pos ht, if_neg h]
theorem Yv_full (hp : p ≤ N) (h : ¬ (0 ≤ t ∧ t < 10006)) (h5 : opn H = 5) : Yv B N (some m) H O (p, a, t) = .inl a := by
  rw [Yv_eq hp]
  show (if 0 ≤ t ∧ t < 10006 then _ else if t = 10013 ∧ m = true then (if opn H = 5 then _ else _) else if t = 10011 then (if opn H = 5 then _ else _) else if t = -3 then (if opn H = 5 then _ else _) else _) = _
  rw [if_neg h, if_pos h5, if_pos h5, if_pos h5]
  simp only [ite_self]
theorem Yv_else (hp : p ≤ N) (h : ¬ (0 ≤ t ∧ t < 10006)) (h1 : m = false ∨ t ≠ 10013) (h2 : t ≠ 10011) (h3 : t ≠ -3) : Yv B N (some m) H O (p, a, t) = .inl a := by
  rw [Yv_eq hp]
  show (if 0 ≤ t ∧ t < 10006 then _ else if t = 10013 ∧ m = true then _ else if t = 10011 then _ else if t = -3 then _ else _) = _
  rw [if_neg h, if_neg (fun q => h1.elim (fun e => by rw [e] at q; exact Bool.false_ne_true q.2) (fun e => e q.1)), if_neg h2, if_neg h3]
theorem Yv_semi (hp : p ≤ N) : Yv B N none H O (p, a, -5) = if (unw 1 H O).1 = [] then .inr ((unw 1 H O).2, p) else .inl a := by
  rw [Yv_eq hp]
  rfl
theorem Yv_close (hp : p ≤ N) : Yv B N none H O (p, a, -4) = if (unw 1 H O).1 = [] then .inl a else Yv B N none (unw 7 (unw 1 H O).1.tail (unw 1 H O).2).1 (unw 7 (unw 1 H O).1.tail (unw 1 H O).2).2 (lkF B N p) := by
  rw [Yv_eq hp]
  rfl
theorem Yv_nos (hp : p ≤ N) (h5 : t ≠ -5) (h4 : t ≠ -4) (hg : sgR t = none) : Yv B N none H O (p, a, t) = .inl a := by
  rw [Yv_eq hp]
  show (if t = -5 then _ else if t = -4 then _ else match sgR t with | none => (Sum.inl a : YRes) | some g => (if rk g = 4 ∧ topR (unw (levR g) H O).1 = 4 then (Sum.inl a : YRes) else Yv B N (some (decide (g ≤ 12))) (g :: (unw (levR g) H O).1) (unw (levR g) H O).2 (lkF B N p))) = _
  rw [if_neg h5, if_neg h4, hg]
theorem Yv_sign {g : Int32} (hp : p ≤ N) (h5 : t ≠ -5) (h4 : t ≠ -4) (hg : sgR t = some g) : Yv B N none H O (p, a, t) = if rk g = 4 ∧ topR (unw (levR g) H O).1 = 4 then .inl a else Yv B N (some (decide (g ≤ 12))) (g :: (unw (levR g) H O).1) (unw (levR g) H O).2 (lkF B N p) := by
  rw [Yv_eq hp]
  show (if t = -5 then _ else if t = -4 then _ else match sgR t with | none => (Sum.inl a : YRes) | some g => (if rk g = 4 ∧ topR (unw (levR g) H O).1 = 4 then (Sum.inl a : YRes) else Yv B N (some (decide (g ≤ 12))) (g :: (unw (levR g) H O).1) (unw (levR g) H O).2 (lkF B N p))) = _
  rw [if_neg h5, if_neg h4, hg]
end
theorem unw_no {l : Nat} {H : List Int32} (O : List Int32) (hl : topR H < l) : unw l H O = (H, O) := by
  cases H with
  | nil => rfl
  | cons a H => simp only [unw]; rw [if_neg]; exact Nat.not_le.mpr hl
theorem unw_cons {l : Nat} {s : Int32} (H O : List Int32) (h : l ≤ rk s) : unw l (s :: H) O = unw l H (s :: O) := by simp only [unw]; rw [if_pos h]
theorem Yv_pop {B : Nat → Int32} {N : Nat} {k : Tk} (hk : k.1 ≤ N) {s : Int32} (H O : List Int32) (h1 : 1 ≤ rk s) (hl : ∀ g, sgR k.2.2 = some g → levR g ≤ rk s) : Yv B N none (s :: H) O k = Yv B N none H (s :: O) k := by
  rw [Yv_eq hk, Yv_eq hk]
  have hu : ∀ l, l ≤ rk s → unw l (s :: H) O = unw l H (s :: O) := fun l h => by simp only [unw]; rw [if_pos h]
  unfold stY
  simp only [hu 1 h1]
  cases hg : sgR k.2.2 with
  | none => rfl
  | some g => simp only [hu _ (hl g hg)]
/-- the codes that were laid, the newest first -/
def cdP (c0 : Nat → Int32) : List Int32 → Nat → Int32
  | [] => c0
  | c :: O => upd (cdP c0 O) O.length c
def tkS (s : TS) : Tk := (s.pl, s.ta, s.tk)
def IvR (B c0 : Nat → Int32) (N : Nat) (O H : List Int32) (s : TS) : Prop := s.cn = O.length ∧ s.cd = cdP c0 O ∧ O.length + H.length ≤ s.ta ∧ s.pl ≤ N ∧ s.ta ≤ N ∧ (s.tk = -1 ∨ s.ta < s.pl)
def cmT (t : Int32) : Prop := t = 10008 ∨ t = 10009
/-- f reads what the yard reads -/
def SpR (B c0 : Nat → Int32) (N : Nat) (al : Prop) (pre st : Int32 → Prop) (m : Bool) (H : List Int32) (f : RD) : Prop := ∀ s O, IvR B c0 N O H s → pre s.tk →
  ((f s).1 = false → Yv B N (some m) H (O.map cC) (tkS s) = .inl (f s).2.ta) ∧
  ((f s).1 = true → ∃ O', IvR B c0 N O' H (f s).2 ∧ s.ta < (f s).2.ta ∧ ((st (f s).2.tk ∧ Yv B N (some m) H (O.map cC) (tkS s) = Yv B N none H (O'.map cC) (tkS (f s).2)) ∨ (al ∧ cmT (f s).2.tk ∧ Yv B N (some m) H (O.map cC) (tkS s) = .inl (f s).2.ta)))
theorem iv_lk {B c0 : Nat → Int32} {N : Nat} {O H H' : List Int32} {s : TS} (h : IvR B c0 N O H s) (ht : s.tk ≠ -1) (hH : H'.length ≤ H.length + 1) : IvR B c0 N O H' (lkS B N s) ∧ s.ta < (lkS B N s).ta := by
  obtain ⟨h1, h2, h3, h4, h5, h6⟩ := h
  obtain ⟨g1, g2, g3, g4⟩ := lkF_gt (B := B) h4
  rcases h6 with h6 | h6
  · exact absurd h6 ht
  · exact ⟨⟨h1, h2, by show O.length + H'.length ≤ (lkF B N s.pl).2.1; omega, g3, g2, g4⟩, by show s.ta < (lkF B N s.pl).2.1; omega⟩
theorem iv_em {B c0 : Nat → Int32} {N : Nat} (hN : N ≤ 160) {O H : List Int32} {s : TS} (v x : Int32) (h : IvR B c0 N O (x :: H) s) : (emS v s).1 = true ∧ IvR B c0 N (v :: O) H (emS v s).2 ∧ (emS v s).2.ta = s.ta ∧ tkS (emS v s).2 = tkS s := by
  obtain ⟨h1, h2, h3, h4, h5, h6⟩ := h
  have h3' : O.length + (H.length + 1) ≤ s.ta := h3
  have he : emS v s = (true, ⟨s.pl, s.ta, s.tk, s.cn + 1, upd s.cd s.cn v⟩) := by unfold emS; rw [if_pos (by omega)]
  rw [he]
  refine ⟨rfl, ⟨?_, ?_, ?_, h4, h5, h6⟩, rfl, rfl⟩
  · show s.cn + 1 = O.length + 1; omega
  · show upd s.cd s.cn v = upd (cdP c0 O) O.length v; rw [h1, h2]
  · show O.length + 1 + H.length ≤ s.ta; omega
section
variable {B c0 : Nat → Int32} {N : Nat}
/-- a chain: one, and as often as the sign comes one more -/
theorem sp_chain (hN : N ≤ 160) {al : Prop} {pre st : Int32 → Prop} {m : Bool} {H : List Int32} {f : RD} {c : Int32 → Prop} [DecidablePred c] (g : Int32 → Int32)
    (hf : SpR B c0 N al pre st m H f) (hs : ∀ t, c t → SpR B c0 N al (fun _ => True) st (decide (g t ≤ 12)) (g t :: H) f)
    (hsg : ∀ t, c t → sgR t = some (g t) ∧ cC t = g t ∧ levR (g t) = rk (g t) ∧ 1 ≤ rk (g t) ∧ rk (g t) ≠ 4 ∧ topR H < rk (g t))
    (hpop : ∀ t t', c t → st t' → ∀ x, sgR t' = some x → levR x ≤ rk (g t)) (hc1 : ¬ c (-1)) (hcc : ∀ t, c t → ¬ cmT t ∧ t ≠ -5 ∧ t ≠ -4) :
    SpR B c0 N al pre (fun t => st t ∧ ¬ c t) m H (chR B N c f) := by
  have loop : ∀ (Y0 : YRes) n s1 O1, 160 ≤ n + s1.ta → IvR B c0 N O1 H s1 → ((st s1.tk ∧ Y0 = Yv B N none H (O1.map cC) (tkS s1)) ∨ (al ∧ cmT s1.tk ∧ Y0 = .inl s1.ta)) →
      ((lpR c (bdR B N f) n s1).1 = false → Y0 = .inl (lpR c (bdR B N f) n s1).2.ta) ∧
      ((lpR c (bdR B N f) n s1).1 = true → ∃ O', IvR B c0 N O' H (lpR c (bdR B N f) n s1).2 ∧ s1.ta ≤ (lpR c (bdR B N f) n s1).2.ta ∧ (((st (lpR c (bdR B N f) n s1).2.tk ∧ ¬ c (lpR c (bdR B N f) n s1).2.tk) ∧ Y0 = Yv B N none H (O'.map cC) (tkS (lpR c (bdR B N f) n s1).2)) ∨ (al ∧ cmT (lpR c (bdR B N f) n s1).2.tk ∧ Y0 = .inl (lpR c (bdR B N f) n s1).2.ta))) := by
    intro Y0 n
    induction n with
    | zero =>
      intro s1 O1 hn hi hy
      refine ⟨fun h => (by cases h), fun _ => ⟨O1, hi, Nat.le_refl _, ?_⟩⟩
      have hno : ¬ c s1.tk := by
        obtain ⟨h1, h2, h3, h4, h5, h6⟩ := hi
        rcases h6 with h6 | h6
        · rw [h6]; exact hc1
        · omega
      rcases hy with ⟨a, b⟩ | ⟨z, a, b⟩
      · exact Or.inl ⟨⟨a, hno⟩, b⟩
      · exact Or.inr ⟨z, a, b⟩
    | succ n ih =>
      intro s1 O1 hn hi hy
      by_cases hct : c s1.tk
      · obtain ⟨ha, hb⟩ := show st s1.tk ∧ Y0 = Yv B N none H (O1.map cC) (tkS s1) from by
          rcases hy with h | ⟨z, a, b⟩
          · exact h
          · exact absurd a (hcc _ hct).1
        obtain ⟨q1, q2, q3, q4, q5, q6⟩ := hsg _ hct
        have hne : s1.tk ≠ -1 := fun h => hc1 (h ▸ hct)
        obtain ⟨hi1, hta⟩ := iv_lk (H' := g s1.tk :: H) hi hne (by simp)
        have hY : Y0 = Yv B N (some (decide (g s1.tk ≤ 12))) (g s1.tk :: H) (O1.map cC) (tkS (lkS B N s1)) := by
          rw [hb]
          show Yv B N none H (O1.map cC) (s1.pl, s1.ta, s1.tk) = _
          rw [Yv_sign hi.2.2.2.1 (hcc _ hct).2.1 (hcc _ hct).2.2 q1, if_neg (fun h => q5 h.1), q3, unw_no _ q6]
          rfl
        have hfs := hs _ hct (lkS B N s1) O1 hi1 trivial
        have hlp : lpR c (bdR B N f) (n + 1) s1 = if (bdR B N f s1.tk s1).1 = true then lpR c (bdR B N f) n (bdR B N f s1.tk s1).2 else bdR B N f s1.tk s1 := by
          show (if c s1.tk then _ else _) = _
          rw [if_pos hct]
        cases hr : (f (lkS B N s1)).1 with
        | false =>
          have hbd : bdR B N f s1.tk s1 = f (lkS B N s1) := by
            show (if (f (lkS B N s1)).1 = true then _ else _) = _
            rw [if_neg (by rw [hr]; exact Bool.false_ne_true)]
          rw [hlp, hbd, if_neg (by rw [hr]; exact Bool.false_ne_true)]
          refine ⟨fun _ => hY.trans (hfs.1 hr), fun h => ?_⟩
          rw [hr] at h; cases h
        | true =>
          obtain ⟨O2, hi2, ht2, hy2⟩ := hfs.2 hr
          obtain ⟨e1, e2, e3, e4⟩ := iv_em hN s1.tk _ hi2
          have hbd : bdR B N f s1.tk s1 = emS s1.tk (f (lkS B N s1)).2 := by
            show (if (f (lkS B N s1)).1 = true then _ else _) = _
            rw [if_pos hr]
          rw [hlp, hbd, if_pos e1]
          generalize emS s1.tk (f (lkS B N s1)).2 = r3 at e1 e2 e3 e4
          have hk : r3.2.tk = (f (lkS B N s1)).2.tk := congrArg (fun q => q.2.2) e4
          have hnext : (st r3.2.tk ∧ Y0 = Yv B N none H ((s1.tk :: O2).map cC) (tkS r3.2)) ∨ (al ∧ cmT r3.2.tk ∧ Y0 = .inl r3.2.ta) := by
            rw [e4, e3, hk]
            rcases hy2 with ⟨a, b⟩ | ⟨z, a, b⟩
            · refine Or.inl ⟨a, ?_⟩
              rw [hY, b, Yv_pop (k := tkS (f (lkS B N s1)).2) hi2.2.2.2.1 H _ q4 (hpop _ _ hct a)]
              show _ = Yv B N none H (cC s1.tk :: O2.map cC) _
              rw [q2]
            · exact Or.inr ⟨z, a, hY.trans b⟩
          obtain ⟨r1, r2⟩ := ih r3.2 (s1.tk :: O2) (by omega) e2 hnext
          refine ⟨r1, fun h => ?_⟩
          obtain ⟨O', u1, u2, u3⟩ := r2 h
          exact ⟨O', u1, by omega, u3⟩
      · have hlp : lpR c (bdR B N f) (n + 1) s1 = (true, s1) := by
          show (if c s1.tk then _ else _) = _
          rw [if_neg hct]
        rw [hlp]
        refine ⟨fun h => (by cases h), fun _ => ⟨O1, hi, Nat.le_refl _, ?_⟩⟩
        rcases hy with ⟨a, b⟩ | ⟨z, a, b⟩
        · exact Or.inl ⟨⟨a, hct⟩, b⟩
        · exact Or.inr ⟨z, a, b⟩
  intro s O hi hp
  obtain ⟨f1, f2⟩ := hf s O hi hp
  have hch : chR B N c f s = if (f s).1 = true then lpR c (bdR B N f) 160 (f s).2 else f s := rfl
  cases hr : (f s).1 with
  | false =>
    rw [hch, if_neg (by rw [hr]; exact Bool.false_ne_true)]
    refine ⟨fun _ => f1 hr, fun h => ?_⟩
    rw [hr] at h; cases h
  | true =>
    rw [hch, if_pos hr]
    obtain ⟨O1, hi1, ht1, hy1⟩ := f2 hr
    obtain ⟨g1, g2⟩ := loop _ 160 (f s).2 O1 (by omega) hi1 hy1
    refine ⟨g1, fun h => ?_⟩
    obtain ⟨O', u1, u2, u3⟩ := g2 h
    exact ⟨O', u1, by omega, u3⟩

def noOp (t : Int32) : Prop := t ≠ 10012
def noSm (t : Int32) : Prop := t ≠ 10010 ∧ t ≠ 10011 ∧ t ≠ 10012
def noNt (t : Int32) : Prop := t ≠ 10008 ∧ t ≠ 10009 ∧ noSm t
def noBo (t : Int32) : Prop := t ≠ 10007 ∧ noNt t
def noEi (t : Int32) : Prop := t ≠ 10006 ∧ noBo t
/-- an operand: the signs before it that bind as it does go with it -/
def SpO (B c0 : Nat → Int32) (N : Nat) (H : List Int32) (f : RD) : Prop := ∀ s O m, IvR B c0 N O H s → (m = false ∨ s.tk ≠ 10013) →
  ((f s).1 = false → Yv B N (some m) H (O.map cC) (tkS s) = .inl (f s).2.ta) ∧
  ((f s).1 = true → ∃ O', IvR B c0 N O' H (f s).2 ∧ s.ta < (f s).2.ta ∧ Yv B N (some m) H (O.map cC) (tkS s) = Yv B N none (unw 7 H (O'.map cC)).1 (unw 7 H (O'.map cC)).2 (tkS (f s).2))
theorem sp_term (hN : N ≤ 160) {H : List Int32} {f : RD} (hH : topR H < 6) (m : Bool) (h0 : SpO B c0 N H f) (h1 : SpO B c0 N (18 :: H) f) :
    SpR B c0 N False (fun t => m = false ∨ t ≠ 10013) noOp m H (chR B N (eqT 10012) f) := by
  have hh : SpR B c0 N False (fun t => m = false ∨ t ≠ 10013) (fun _ => True) m H (chR B N (eqT 10012) f) → SpR B c0 N False (fun t => m = false ∨ t ≠ 10013) (fun _ => True) m H (chR B N (eqT 10012) f) := id
  have key := sp_chain (B := B) (c0 := c0) hN (al := False) (pre := fun t => m = false ∨ t ≠ 10013) (st := fun _ => True) (m := m) (H := H) (f := f) (c := eqT 10012) (fun _ => 18)
    (by
      intro s O hi hp
      obtain ⟨a, b⟩ := h0 s O m hi hp
      refine ⟨a, fun h => ?_⟩
      obtain ⟨O', u1, u2, u3⟩ := b h
      rw [unw_no _ (by omega)] at u3
      exact ⟨O', u1, u2, Or.inl ⟨trivial, u3⟩⟩)
    (by
      intro t ht s O hi hp
      obtain ⟨a, b⟩ := h1 s O (decide ((18 : Int32) ≤ 12)) hi (Or.inl rfl)
      refine ⟨a, fun h => ?_⟩
      obtain ⟨O', u1, u2, u3⟩ := b h
      rw [unw_no _ (show rk 18 < 7 by decide)] at u3
      exact ⟨O', u1, u2, Or.inl ⟨trivial, u3⟩⟩)
    (by
      intro t ht
      obtain rfl : t = 10012 := ht
      exact ⟨by decide, by decide, by decide, by decide, by decide, hH⟩)
    (by
      intro t t' ht _ x hx
      show levR x ≤ 6
      unfold sgR at hx
      repeat' (first | (split at hx) | (injection hx with hx; subst hx; decide) | (cases hx)))
    (by unfold eqT; decide)
    (by
      intro t ht
      obtain rfl : t = 10012 := ht
      exact ⟨by unfold cmT; decide, by decide, by decide⟩)
  intro s O hi hp
  obtain ⟨a, b⟩ := key s O hi hp
  refine ⟨a, fun h => ?_⟩
  obtain ⟨O', u1, u2, u3⟩ := b h
  refine ⟨O', u1, u2, ?_⟩
  rcases u3 with ⟨v, w⟩ | v
  · exact Or.inl ⟨v.2, w⟩
  · exact Or.inr v
theorem sp_sum (hN : N ≤ 160) {H : List Int32} {f : RD} (hH : topR H < 5) (m : Bool) (h0 : SpR B c0 N False (fun t => m = false ∨ t ≠ 10013) noOp m H f) (h1 : SpR B c0 N False (fun t => false = false ∨ t ≠ 10013) noOp false (16 :: H) f) (h2 : SpR B c0 N False (fun t => false = false ∨ t ≠ 10013) noOp false (17 :: H) f) :
    SpR B c0 N False (fun t => m = false ∨ t ≠ 10013) noSm m H (chR B N pmT f) := by
  have key := sp_chain (B := B) (c0 := c0) hN (al := False) (pre := fun t => m = false ∨ t ≠ 10013) (st := noOp) (m := m) (H := H) (f := f) (c := pmT) (fun t => if t = 10010 then 16 else 17) h0
    (by
      intro t ht s O hi hp
      rcases ht with rfl | rfl
      · exact h1 s O hi (Or.inl rfl)
      · exact h2 s O hi (Or.inl rfl))
    (by
      intro t ht
      rcases ht with rfl | rfl
      · exact ⟨by decide, by decide, by decide, by decide, by decide, hH⟩
      · exact ⟨by decide, by decide, by decide, by decide, by decide, hH⟩)
    (by
      intro t t' ht ht' x hx
      have hr : rk (if t = 10010 then 16 else 17) = 5 := by rcases ht with rfl | rfl <;> decide
      rw [hr]
      unfold noOp at ht'
      unfold sgR at hx
      repeat' (first | (split at hx) | contradiction | (injection hx with hx; subst hx; decide) | (cases hx)))
    (by unfold pmT; decide)
    (by
      intro t ht
      rcases ht with rfl | rfl
      · exact ⟨by unfold cmT; decide, by decide, by decide⟩
      · exact ⟨by unfold cmT; decide, by decide, by decide⟩)
  intro s O hi hp
  obtain ⟨a, b⟩ := key s O hi hp
  refine ⟨a, fun h => ?_⟩
  obtain ⟨O', u1, u2, u3⟩ := b h
  refine ⟨O', u1, u2, ?_⟩
  rcases u3 with ⟨v, w⟩ | v
  · exact Or.inl ⟨⟨fun e => v.2 (Or.inl e), fun e => v.2 (Or.inr e), v.1⟩, w⟩
  · exact Or.inr v
theorem sp_both (hN : N ≤ 160) {H : List Int32} {f : RD} (hH : topR H < 2) (h0 : SpR B c0 N True (fun _ => True) noNt true H f) (h1 : SpR B c0 N True (fun _ => True) noNt true (12 :: H) f) :
    SpR B c0 N True (fun _ => True) noBo true H (chR B N (eqT 10007) f) := by
  have key := sp_chain (B := B) (c0 := c0) hN (al := True) (pre := fun _ => True) (st := noNt) (m := true) (H := H) (f := f) (c := eqT 10007) (fun _ => 12) h0
    (fun t ht => h1)
    (by
      intro t ht
      obtain rfl : t = 10007 := ht
      exact ⟨by decide, by decide, by decide, by decide, by decide, hH⟩)
    (by
      intro t t' ht ht' x hx
      show levR x ≤ 2
      obtain ⟨n1, n2, n3, n4, n5⟩ := ht'
      unfold sgR at hx
      repeat' (first | (split at hx) | contradiction | (injection hx with hx; subst hx; decide) | (cases hx)))
    (by unfold eqT; decide)
    (by
      intro t ht
      obtain rfl : t = 10007 := ht
      exact ⟨by unfold cmT; decide, by decide, by decide⟩)
  intro s O hi hp
  obtain ⟨a, b⟩ := key s O hi hp
  refine ⟨a, fun h => ?_⟩
  obtain ⟨O', u1, u2, u3⟩ := b h
  refine ⟨O', u1, u2, ?_⟩
  rcases u3 with ⟨v, w⟩ | v
  · exact Or.inl ⟨⟨v.2, v.1⟩, w⟩
  · exact Or.inr v
theorem sp_either (hN : N ≤ 160) {H : List Int32} {f : RD} (hH : topR H < 1) (h0 : SpR B c0 N True (fun _ => True) noBo true H f) (h1 : SpR B c0 N True (fun _ => True) noBo true (11 :: H) f) :
    SpR B c0 N True (fun _ => True) noEi true H (chR B N (eqT 10006) f) := by
  have key := sp_chain (B := B) (c0 := c0) hN (al := True) (pre := fun _ => True) (st := noBo) (m := true) (H := H) (f := f) (c := eqT 10006) (fun _ => 11) h0
    (fun t ht => h1)
    (by
      intro t ht
      obtain rfl : t = 10006 := ht
      exact ⟨by decide, by decide, by decide, by decide, by decide, hH⟩)
    (by
      intro t t' ht ht' x hx
      show levR x ≤ 1
      obtain ⟨n0, n1, n2, n3, n4, n5⟩ := ht'
      unfold sgR at hx
      repeat' (first | (split at hx) | contradiction | (injection hx with hx; subst hx; decide) | (cases hx)))
    (by unfold eqT; decide)
    (by
      intro t ht
      obtain rfl : t = 10006 := ht
      exact ⟨by unfold cmT; decide, by decide, by decide⟩)
  intro s O hi hp
  obtain ⟨a, b⟩ := key s O hi hp
  refine ⟨a, fun h => ?_⟩
  obtain ⟨O', u1, u2, u3⟩ := b h
  refine ⟨O', u1, u2, ?_⟩
  rcases u3 with ⟨v, w⟩ | v
  · exact Or.inl ⟨⟨v.2, v.1⟩, w⟩
  · exact Or.inr v
/-- not, and a comparison, at a level -/
theorem sp_cmp (hN : N ≤ 160) {H : List Int32} {f : RD} (hH : topR H < 4) (h0 : SpR B c0 N False (fun t => true = false ∨ t ≠ 10013) noSm true H f) (h1 : SpR B c0 N False (fun t => false = false ∨ t ≠ 10013) noSm false (14 :: H) f) (h2 : SpR B c0 N False (fun t => false = false ∨ t ≠ 10013) noSm false (15 :: H) f) :
    SpR B c0 N True (fun t => t ≠ 10013) noNt true H (sqR f (cpR B N f)) := by
  intro s O hi hp
  obtain ⟨a, b⟩ := h0 s O hi (Or.inr hp)
  have hsq : sqR f (cpR B N f) s = if (f s).1 = true then cpR B N f (f s).2 else f s := rfl
  cases hr : (f s).1 with
  | false =>
    rw [hsq, if_neg (by rw [hr]; exact Bool.false_ne_true)]
    refine ⟨fun _ => a hr, fun h => ?_⟩
    rw [hr] at h; cases h
  | true =>
    rw [hsq, if_pos hr]
    obtain ⟨O1, hi1, ht1, hy1⟩ := b hr
    generalize (f s).2 = s1 at hi1 ht1 hy1
    generalize Yv B N (some true) H (O.map cC) (tkS s) = Y0 at hy1
    by_cases hc : s1.tk = 10008 ∨ s1.tk = 10009
    · have hcp : cpR B N f s1 = bdR B N f s1.tk s1 := by unfold cpR; rw [if_pos hc]
      rw [hcp]
      obtain ⟨g, hg, hcg, hrg, hlg, hdg, hsp⟩ : ∃ g, sgR s1.tk = some g ∧ cC s1.tk = g ∧ rk g = 4 ∧ levR g = 5 ∧ decide (g ≤ 12) = false ∧ SpR B c0 N False (fun t => false = false ∨ t ≠ 10013) noSm false (g :: H) f := by
        rcases hc with e | e
        · rw [e]; exact ⟨14, by decide, by decide, by decide, by decide, by decide, h1⟩
        · rw [e]; exact ⟨15, by decide, by decide, by decide, by decide, by decide, h2⟩
      have hne : s1.tk ≠ -1 ∧ s1.tk ≠ -5 ∧ s1.tk ≠ -4 := by rcases hc with e | e <;> (rw [e]; decide)
      rcases hy1 with ⟨hst, hy⟩ | ⟨hno, -⟩
      · obtain ⟨hi2, hta⟩ := iv_lk (H' := g :: H) hi1 hne.1 (by simp)
        have hY : Y0 = Yv B N (some false) (g :: H) (O1.map cC) (tkS (lkS B N s1)) := by
          rw [hy]
          show Yv B N none H (O1.map cC) (s1.pl, s1.ta, s1.tk) = _
          rw [Yv_sign hi1.2.2.2.1 hne.2.1 hne.2.2 hg, hlg, unw_no _ (by omega), if_neg (fun q => by have h9 : topR H = 4 := q.2; omega), hdg]
          rfl
        obtain ⟨f1, f2⟩ := hsp (lkS B N s1) O1 hi2 (Or.inl rfl)
        cases hr2 : (f (lkS B N s1)).1 with
        | false =>
          have hbd : bdR B N f s1.tk s1 = f (lkS B N s1) := by
            show (if (f (lkS B N s1)).1 = true then _ else _) = _
            rw [if_neg (by rw [hr2]; exact Bool.false_ne_true)]
          rw [hbd]
          refine ⟨fun _ => hY.trans (f1 hr2), fun h => ?_⟩
          rw [hr2] at h; cases h
        | true =>
          obtain ⟨O2, hi3, ht3, hy3⟩ := f2 hr2
          obtain ⟨e1, e2, e3, e4⟩ := iv_em hN s1.tk _ hi3
          have hbd : bdR B N f s1.tk s1 = emS s1.tk (f (lkS B N s1)).2 := by
            show (if (f (lkS B N s1)).1 = true then _ else _) = _
            rw [if_pos hr2]
          rw [hbd]
          generalize emS s1.tk (f (lkS B N s1)).2 = r3 at e1 e2 e3 e4
          generalize (f (lkS B N s1)).2 = s2 at hi3 ht3 hy3 e3 e4
          have hk : r3.2.tk = s2.tk := congrArg (fun q => q.2.2) e4
          refine ⟨fun h => (by rw [e1] at h; cases h), fun _ => ⟨s1.tk :: O2, e2, by omega, ?_⟩⟩
          rw [hk, e3, e4]
          rcases hy3 with ⟨hst3, hy3⟩ | ⟨hno, -⟩
          · by_cases hc3 : s2.tk = 10008 ∨ s2.tk = 10009
            · refine Or.inr ⟨trivial, hc3, ?_⟩
              rw [hY, hy3]
              show Yv B N none (g :: H) (O2.map cC) (s2.pl, s2.ta, s2.tk) = _
              obtain ⟨g2, hg2, hrg2, hlg2⟩ : ∃ g, sgR s2.tk = some g ∧ rk g = 4 ∧ levR g = 5 := by
                rcases hc3 with e | e
                · rw [e]; exact ⟨14, by decide, by decide, by decide⟩
                · rw [e]; exact ⟨15, by decide, by decide, by decide⟩
              have hne2 : s2.tk ≠ -5 ∧ s2.tk ≠ -4 := by rcases hc3 with e | e <;> (rw [e]; decide)
              rw [Yv_sign hi3.2.2.2.1 hne2.1 hne2.2 hg2, hlg2, unw_no _ (show rk g < 5 by omega), if_pos ⟨hrg2, hrg⟩]
            · refine Or.inl ⟨⟨fun e => hc3 (Or.inl e), fun e => hc3 (Or.inr e), hst3⟩, ?_⟩
              rw [hY, hy3, Yv_pop (k := tkS s2) hi3.2.2.2.1 H _ (by omega)]
              · show _ = Yv B N none H (cC s1.tk :: O2.map cC) _
                rw [hcg]
              · intro x hx
                have hx : sgR s2.tk = some x := hx
                rw [hrg]
                obtain ⟨n1, n2, n3⟩ := hst3
                have n4 : s2.tk ≠ 10008 := fun e => hc3 (Or.inl e)
                have n5 : s2.tk ≠ 10009 := fun e => hc3 (Or.inr e)
                unfold sgR at hx
                repeat' (first | (split at hx) | contradiction | (injection hx with hx; subst hx; decide) | (cases hx))
          · exact hno.elim
      · exact hno.elim
    · have hcp : cpR B N f s1 = (true, s1) := by unfold cpR; rw [if_neg hc]
      rw [hcp]
      refine ⟨fun h => (by cases h), fun _ => ⟨O1, hi1, ht1, ?_⟩⟩
      rcases hy1 with ⟨hst, hy⟩ | ⟨hno, -⟩
      · exact Or.inl ⟨⟨fun e => hc (Or.inl e), fun e => hc (Or.inr e), hst⟩, hy⟩
      · exact hno.elim
theorem sp_bd {pre st st' : Int32 → Prop} {al : Prop} {m m' : Bool} (hN : N ≤ 160) {H : List Int32} {f : RD} {v g : Int32} {s : TS} {O : List Int32} (hi : IvR B c0 N O H s) (hne : s.tk ≠ -1) (hp : ∀ t, pre t) (hc : cC v = g) (hr : 1 ≤ rk g) (hf : SpR B c0 N al pre st m (g :: H) f)
    (hY : Yv B N (some m') H (O.map cC) (tkS s) = Yv B N (some m) (g :: H) (O.map cC) (tkS (lkS B N s))) (hst : ∀ t, st t → st' t) (hpop : ∀ t, st t → ∀ x, sgR t = some x → levR x ≤ rk g) :
    ((bdR B N f v s).1 = false → Yv B N (some m') H (O.map cC) (tkS s) = .inl (bdR B N f v s).2.ta) ∧
    ((bdR B N f v s).1 = true → ∃ O', IvR B c0 N O' H (bdR B N f v s).2 ∧ s.ta < (bdR B N f v s).2.ta ∧ ((st' (bdR B N f v s).2.tk ∧ Yv B N (some m') H (O.map cC) (tkS s) = Yv B N none H (O'.map cC) (tkS (bdR B N f v s).2)) ∨ (al ∧ cmT (bdR B N f v s).2.tk ∧ Yv B N (some m') H (O.map cC) (tkS s) = .inl (bdR B N f v s).2.ta))) := by
  obtain ⟨hi2, hta⟩ := iv_lk (H' := g :: H) hi hne (by simp)
  obtain ⟨f1, f2⟩ := hf (lkS B N s) O hi2 (hp _)
  cases hr2 : (f (lkS B N s)).1 with
  | false =>
    have hbd : bdR B N f v s = f (lkS B N s) := by
      show (if (f (lkS B N s)).1 = true then _ else _) = _
      rw [if_neg (by rw [hr2]; exact Bool.false_ne_true)]
    rw [hbd]
    refine ⟨fun _ => hY.trans (f1 hr2), fun h => ?_⟩
    rw [hr2] at h; cases h
  | true =>
    obtain ⟨O2, hi3, ht3, hy3⟩ := f2 hr2
    obtain ⟨e1, e2, e3, e4⟩ := iv_em hN v _ hi3
    have hbd : bdR B N f v s = emS v (f (lkS B N s)).2 := by
      show (if (f (lkS B N s)).1 = true then _ else _) = _
      rw [if_pos hr2]
    rw [hbd]
    generalize emS v (f (lkS B N s)).2 = r3 at e1 e2 e3 e4
    generalize (f (lkS B N s)).2 = s2 at hi3 ht3 hy3 e3 e4
    have hk : r3.2.tk = s2.tk := congrArg (fun q => q.2.2) e4
    refine ⟨fun h => (by rw [e1] at h; cases h), fun _ => ⟨v :: O2, e2, by omega, ?_⟩⟩
    rw [hk, e3, e4]
    rcases hy3 with ⟨a, b⟩ | ⟨z, a, b⟩
    · refine Or.inl ⟨hst _ a, ?_⟩
      rw [hY, b, Yv_pop (k := tkS s2) hi3.2.2.2.1 H _ hr (hpop _ a)]
      show _ = Yv B N none H (cC v :: O2.map cC) _
      rw [hc]
    · exact Or.inr ⟨z, a, hY.trans b⟩
def LvO (B c0 : Nat → Int32) (N n : Nat) (f : RD) : Prop := ∀ H, opn H + n = 5 → SpO B c0 N H f
def LvN (B c0 : Nat → Int32) (N n : Nat) (f : RD) : Prop := ∀ H, opn H + n = 5 → topR H ≤ 3 → SpR B c0 N True (fun _ => True) noNt true H f
def LvE (B c0 : Nat → Int32) (N n : Nat) (f : RD) : Prop := ∀ H, opn H + n = 5 → topR H = 0 → SpR B c0 N True (fun _ => True) noEi true H f
theorem opn_c {g : Int32} (H : List Int32) (h : ¬ (g = 0 ∨ g = 13 ∨ g = 19)) : opn (g :: H) = opn H := by
  simp only [opn]; rw [if_neg h]; omega
theorem opn_o {g : Int32} (H : List Int32) (h : g = 0 ∨ g = 13 ∨ g = 19) : opn (g :: H) = opn H + 1 := by
  simp only [opn]; rw [if_pos h]; omega
theorem lv_sum (hN : N ≤ 160) {n : Nat} {f : RD} (h : LvO B c0 N n f) (m : Bool) : ∀ H, opn H + n = 5 → topR H < 5 → SpR B c0 N False (fun t => m = false ∨ t ≠ 10013) noSm m H (smR B N f) := by
  have ht : ∀ m H, opn H + n = 5 → topR H < 6 → SpR B c0 N False (fun t => m = false ∨ t ≠ 10013) noOp m H (chR B N (eqT 10012) f) := fun m H h1 h2 =>
    sp_term hN h2 m (h H h1) (h (18 :: H) (by rw [opn_c H (by decide)]; exact h1))
  intro H h1 h2
  exact sp_sum hN h2 m (ht m H h1 (by omega)) (ht false (16 :: H) (by rw [opn_c H (by decide)]; exact h1) (show rk 16 < 6 by decide)) (ht false (17 :: H) (by rw [opn_c H (by decide)]; exact h1) (show rk 17 < 6 by decide))
theorem lv_nt (hN : N ≤ 160) {n : Nat} {f : RD} {lo : Option (RD × RD × RD)} (h : LvO B c0 N n f) (hl : (lo = none ∧ n = 0) ∨ (∃ l n', lo = some l ∧ n = n' + 1 ∧ LvN B c0 N n' l.2.1)) : LvN B c0 N n (ntR B N lo f) := by
  intro H h1 h2
  have hs := sp_cmp (B := B) (c0 := c0) hN (H := H) (by omega) (lv_sum hN h true H h1 (by omega)) (lv_sum hN h false (14 :: H) (by rw [opn_c H (by decide)]; exact h1) (show rk 14 < 5 by decide)) (lv_sum hN h false (15 :: H) (by rw [opn_c H (by decide)]; exact h1) (show rk 15 < 5 by decide))
  intro s O hi hp
  by_cases ht : s.tk = 10013
  · have hne : s.tk ≠ -1 := by rw [ht]; decide
    have hk : tkS s = (s.pl, s.ta, 10013) := by unfold tkS; rw [ht]
    rcases hl with ⟨hlo, h0⟩ | ⟨l, n', hlo, h0, hL⟩
    · have hnt : ntR B N lo f s = (false, s) := by
        rw [hlo]
        show (if s.tk = 10013 then _ else _) = _
        exact if_pos ht
      rw [hnt]
      refine ⟨fun _ => ?_, fun h => (by cases h)⟩
      rw [hk]
      exact Yv_full hi.2.2.2.1 (by decide) (by omega)
    · have hnt : ntR B N lo f s = bdR B N l.2.1 10013 s := by
        rw [hlo]
        show (if s.tk = 10013 then _ else _) = _
        exact if_pos ht
      rw [hnt]
      refine sp_bd (pre := fun _ => True) (st := noNt) (g := 13) hN hi hne (fun _ => trivial) (by decide) (by decide) (hL (13 :: H) (by rw [opn_o H (by decide)]; omega) (show rk 13 ≤ 3 by decide)) ?_ (fun _ h => h) ?_
      · exact Yv_not hi.2.2.2.1 ht (by omega)
      · intro t ht' x hx
        show levR x ≤ 3
        obtain ⟨n1, n2, n3, n4, n5⟩ := ht'
        unfold sgR at hx
        repeat' (first | (split at hx) | contradiction | (injection hx with hx; subst hx; decide) | (cases hx))
  · have hnt : ntR B N lo f s = sqR (smR B N f) (cpR B N (smR B N f)) s := by
      show (if s.tk = 10013 then _ else _) = _
      exact if_neg ht
    rw [hnt]
    exact hs s O hi ht
theorem lv_ei (hN : N ≤ 160) {n : Nat} {f : RD} (h : LvN B c0 N n f) : LvE B c0 N n (eiR B N f) := by
  have hb : ∀ H, opn H + n = 5 → topR H < 2 → SpR B c0 N True (fun _ => True) noBo true H (chR B N (eqT 10007) f) := fun H h1 h2 =>
    sp_both hN h2 (h H h1 (by omega)) (h (12 :: H) (by rw [opn_c H (by decide)]; exact h1) (show rk 12 ≤ 3 by decide))
  intro H h1 h2
  exact sp_either hN (by omega) (hb H h1 (by omega)) (hb (11 :: H) (by rw [opn_c H (by decide)]; exact h1) (show rk 11 < 2 by decide))
theorem lv_op (hN : N ≤ 160) {n : Nat} {lo : Option (RD × RD × RD)} (hl : (lo = none ∧ n = 0) ∨ (∃ l n', lo = some l ∧ n = n' + 1 ∧ LvO B c0 N n' l.1 ∧ LvE B c0 N n' l.2.2)) : LvO B c0 N n (opR B N lo) := by
  intro H h1 s O m hi hp
  have hpl := hi.2.2.2.1
  by_cases hnum : 0 ≤ s.tk ∧ s.tk < 10006
  · have hne : s.tk ≠ -1 := fun e => by rw [e] at hnum; exact absurd hnum.1 (by decide)
    have hop : opR B N lo s = emS s.tk (lkS B N s) := by
      show (if 0 ≤ s.tk ∧ s.tk < 10006 then _ else _) = _
      exact if_pos hnum
    obtain ⟨hi2, hta⟩ := iv_lk (H' := 0 :: H) hi hne (by simp)
    obtain ⟨e1, e2, e3, e4⟩ := iv_em hN s.tk _ hi2
    rw [hop]
    refine ⟨fun h => (by rw [e1] at h; cases h), fun _ => ⟨s.tk :: O, e2, by omega, ?_⟩⟩
    rw [e4]
    exact Yv_num hpl hnum
  · rcases hl with ⟨hlo, h0⟩ | ⟨l, n', hlo, h0, hL1, hL3⟩
    · have hop : opR B N lo s = (false, s) := by
        rw [hlo]
        show (if 0 ≤ s.tk ∧ s.tk < 10006 then _ else _) = _
        exact if_neg hnum
      rw [hop]
      refine ⟨fun _ => ?_, fun h => (by cases h)⟩
      exact Yv_full hpl hnum (by omega)
    · have hop : opR B N lo s = if s.tk = 10011 then bdR B N l.1 10014 s else sqR (psS B N (-3)) (sqR l.2.2 (psS B N (-4))) s := by
        rw [hlo]
        show (if 0 ≤ s.tk ∧ s.tk < 10006 then _ else _) = _
        exact if_neg hnum
      rw [hop]
      by_cases hm : s.tk = 10011
      · rw [if_pos hm]
        have hne : s.tk ≠ -1 := by rw [hm]; decide
        obtain ⟨hi2, hta⟩ := iv_lk (H' := 19 :: H) hi hne (by simp)
        have hY : Yv B N (some m) H (O.map cC) (tkS s) = Yv B N (some false) (19 :: H) (O.map cC) (tkS (lkS B N s)) := by
          exact Yv_neg hpl hm (by omega)
        obtain ⟨f1, f2⟩ := hL1 (19 :: H) (by rw [opn_o H (by decide)]; omega) (lkS B N s) O false hi2 (Or.inl rfl)
        cases hr2 : (l.1 (lkS B N s)).1 with
        | false =>
          have hbd : bdR B N l.1 10014 s = l.1 (lkS B N s) := by
            show (if (l.1 (lkS B N s)).1 = true then _ else _) = _
            rw [if_neg (by rw [hr2]; exact Bool.false_ne_true)]
          rw [hbd]
          refine ⟨fun _ => hY.trans (f1 hr2), fun h => ?_⟩
          rw [hr2] at h; cases h
        | true =>
          obtain ⟨O2, hi3, ht3, hy3⟩ := f2 hr2
          obtain ⟨e1, e2, e3, e4⟩ := iv_em hN 10014 _ hi3
          have hbd : bdR B N l.1 10014 s = emS 10014 (l.1 (lkS B N s)).2 := by
            show (if (l.1 (lkS B N s)).1 = true then _ else _) = _
            rw [if_pos hr2]
          rw [hbd]
          refine ⟨fun h => (by rw [e1] at h; cases h), fun _ => ⟨10014 :: O2, e2, by omega, ?_⟩⟩
          rw [e4, hY, hy3, unw_cons H _ (show 7 ≤ rk 19 by decide)]
          rw [show (10014 :: O2).map cC = 19 :: O2.map cC by rw [List.map_cons]; rfl]
      · rw [if_neg hm]
        by_cases ho : s.tk = -3
        · have hne : s.tk ≠ -1 := by rw [ho]; decide
          obtain ⟨hi2, hta⟩ := iv_lk (H' := 0 :: H) hi hne (by simp)
          have hY : Yv B N (some m) H (O.map cC) (tkS s) = Yv B N (some true) (0 :: H) (O.map cC) (tkS (lkS B N s)) := by
            exact Yv_open hpl ho (by omega)
          have hps : psS B N (-3) s = (true, lkS B N s) := by unfold psS; rw [if_pos ho]
          have hsq : sqR (psS B N (-3)) (sqR l.2.2 (psS B N (-4))) s = sqR l.2.2 (psS B N (-4)) (lkS B N s) := by
            show (if (psS B N (-3) s).1 = true then sqR l.2.2 (psS B N (-4)) (psS B N (-3) s).2 else psS B N (-3) s) = _
            rw [hps, if_pos rfl]
          rw [hsq]
          obtain ⟨f1, f2⟩ := hL3 (0 :: H) (by rw [opn_o H (by decide)]; omega) rfl (lkS B N s) O hi2 trivial
          have hsq2 : sqR l.2.2 (psS B N (-4)) (lkS B N s) = if (l.2.2 (lkS B N s)).1 = true then psS B N (-4) (l.2.2 (lkS B N s)).2 else l.2.2 (lkS B N s) := rfl
          cases hr2 : (l.2.2 (lkS B N s)).1 with
          | false =>
            rw [hsq2, if_neg (by rw [hr2]; exact Bool.false_ne_true)]
            refine ⟨fun _ => hY.trans (f1 hr2), fun h => ?_⟩
            rw [hr2] at h; cases h
          | true =>
            obtain ⟨O2, hi3, ht3, hy3⟩ := f2 hr2
            rw [hsq2, if_pos hr2]
            generalize (l.2.2 (lkS B N s)).2 = s2 at hi3 ht3 hy3
            by_cases hcl : s2.tk = -4
            · have hps2 : psS B N (-4) s2 = (true, lkS B N s2) := by unfold psS; rw [if_pos hcl]
              rw [hps2]
              obtain ⟨hi4, hta4⟩ := iv_lk (H' := H) hi3 (by rw [hcl]; decide) (by simp; omega)
              refine ⟨fun h => (by cases h), fun _ => ⟨O2, hi4, by show s.ta < (lkS B N s2).ta; omega, ?_⟩⟩
              rcases hy3 with ⟨hst, hy⟩ | ⟨-, hcm, -⟩
              · rw [hY, hy, show tkS s2 = (s2.pl, s2.ta, -4) by unfold tkS; rw [hcl], Yv_close hi3.2.2.2.1, unw_no _ (show rk 0 < 1 by decide), if_neg (by simp)]
                rfl
              · rw [hcl] at hcm
                exact absurd hcm (by unfold cmT; decide)
            · have hps2 : psS B N (-4) s2 = (false, s2) := by unfold psS; rw [if_neg hcl]
              rw [hps2]
              refine ⟨fun _ => ?_, fun h => (by cases h)⟩
              rcases hy3 with ⟨hst, hy⟩ | ⟨-, -, hy⟩
              · rw [hY, hy]
                show Yv B N none (0 :: H) (O2.map cC) (s2.pl, s2.ta, s2.tk) = _
                by_cases h5 : s2.tk = -5
                · rw [h5, Yv_semi hi3.2.2.2.1, unw_no _ (show rk 0 < 1 by decide), if_neg (by simp)]
                · refine Yv_nos hi3.2.2.2.1 h5 hcl ?_
                  obtain ⟨n1, n2, n3, n4, n5, n6, n7⟩ := hst
                  unfold sgR
                  rw [if_neg n1, if_neg n2, if_neg n3, if_neg n4, if_neg n5, if_neg n6, if_neg n7]
              · exact hY.trans hy
        · have hps : psS B N (-3) s = (false, s) := by unfold psS; rw [if_neg ho]
          have hsq : sqR (psS B N (-3)) (sqR l.2.2 (psS B N (-4))) s = (false, s) := by
            show (if (psS B N (-3) s).1 = true then sqR l.2.2 (psS B N (-4)) (psS B N (-3) s).2 else psS B N (-3) s) = _
            rw [hps, if_neg (by exact Bool.false_ne_true)]
          rw [hsq]
          refine ⟨fun _ => Yv_else hpl hnum hp hm ho, fun h => (by cases h)⟩
theorem lv_all (hN : N ≤ 160) : ∀ n, LvO B c0 N n (rdL B N n).1 ∧ LvN B c0 N n (rdL B N n).2.1 ∧ LvE B c0 N n (rdL B N n).2.2
  | 0 => by
    have h1 : LvO B c0 N 0 (opR B N none) := lv_op hN (Or.inl ⟨rfl, rfl⟩)
    have h2 : LvN B c0 N 0 (ntR B N none (opR B N none)) := lv_nt hN h1 (Or.inl ⟨rfl, rfl⟩)
    exact ⟨h1, h2, lv_ei hN h2⟩
  | n + 1 => by
    obtain ⟨i1, i2, i3⟩ := lv_all hN n
    have h1 : LvO B c0 N (n + 1) (opR B N (some (rdL B N n))) := lv_op hN (Or.inr ⟨_, n, rfl, rfl, i1, i3⟩)
    have h2 : LvN B c0 N (n + 1) (ntR B N (some (rdL B N n)) (opR B N (some (rdL B N n)))) := lv_nt hN h1 (Or.inr ⟨_, n, rfl, rfl, i2⟩)
    exact ⟨h1, h2, lv_ei hN h2⟩
end
