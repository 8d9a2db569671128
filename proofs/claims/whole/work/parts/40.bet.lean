/-! what is better; searches -/
abbrev Z3 : Type := (Nat → Int32) × (Nat → Int32) × (Nat → Int32)
abbrev B3 : Type := Int32 × Int32 × Int32
/-- how many have risen, what all stood -/
abbrev riS (s : ES) : Int32 := s.2.2.2.2.2.2.2.2
abbrev stS (P : Nat) (s : ES) : Int32 := sumTo s.2.2.2.1 P
def woS (P : Nat) (s : ES) : Int32 := 1000 * riS s - stS P s
def btr (P : Nat) (b : B3) (tag : Int32) (s : ES) : B3 := if riS s < b.2.1 ∨ (riS s = b.2.1 ∧ b.2.2 ≤ stS P s) then b else (tag, riS s, stS P s)
def mostOf (b : B3) : Int32 := if b.2.1 = -1 then -100000 else 1000 * b.2.1 - b.2.2
def BOK (b : B3) : Prop := (b.2.1 = -1 ∧ b.2.2 = 0) ∨ (sm 5 b.2.1 ∧ sm 150 b.2.2)
def GS (P : Nat) (s : ES) : Prop := sm 5 (riS s) ∧ sm 150 (stS P s)
def tellB (what : Int32) (b : B3) : Int32 := if what = 0 then b.1 else if what = 1 then b.2.1 else b.2.2
theorem GS_of {P C : Nat} {s : ES} (hP : P ≤ 5) (hI : INV P C s) (hN : NUM 30 s) : GS P s := by
  refine ⟨?_, sm_up (sumTo_sm hN.2.1 P) (by omega)⟩
  have := cntR_le s.2.2.2.2.1 P
  exact ⟨_, by omega, hI.2.2.2.2.1⟩
theorem wo_eq {r s : Nat} (hr : r ≤ 5) (hs : s ≤ 150) : ((1000 : Int32) * nI r - nI s).toInt = 1000 * (r : Int) - s := by
  have e : (1000 : Int32) * nI r = nI (1000 * r) := pk_mul 1000 r
  rw [e, pk_sub_toInt (by omega) (by omega)]
  omega
theorem btr_ok {P : Nat} {b : B3} {tag : Int32} {s : ES} (hb : BOK b) (hs : GS P s) : BOK (btr P b tag s) := by
  unfold btr
  split
  · exact hb
  · exact Or.inr hs
theorem most_iff {P : Nat} {b : B3} {s : ES} (hb : BOK b) (hs : GS P s) : woS P s ≤ mostOf b ↔ (riS s < b.2.1 ∨ (riS s = b.2.1 ∧ b.2.2 ≤ stS P s)) := by
  obtain ⟨⟨r, hr, er⟩, ⟨t, ht, et⟩⟩ := hs
  unfold woS mostOf
  rw [er, et]
  rcases hb with ⟨h1, h2⟩ | ⟨⟨r', hr', er'⟩, ⟨t', ht', et'⟩⟩
  · rw [h1, h2, if_pos rfl]
    constructor
    · intro h
      rw [Int32.le_iff_toInt_le, wo_eq hr ht] at h
      have e : (-100000 : Int32).toInt = -100000 := by decide
      omega
    · intro h
      rcases h with h | h
      · rw [Int32.lt_iff_toInt_lt, nI_toInt (by omega)] at h
        have e : (-1 : Int32).toInt = -1 := by decide
        omega
      · have h := h.1
        exact absurd h (nI_ne_m1 (by omega))
  · rw [er', et', if_neg (nI_ne_m1 (by omega)), Int32.le_iff_toInt_le, wo_eq hr ht, wo_eq hr' ht', nI_ltI (by omega) (by omega), nI_eq (by omega) (by omega), nI_leI (by omega) (by omega)]
    omega
theorem btr_no {P : Nat} {b : B3} {tag : Int32} {s : ES} (hb : BOK b) (hs : GS P s) (h : woS P s ≤ mostOf b) : btr P b tag s = b := if_pos ((most_iff hb hs).mp h)
theorem btr_eq {P : Nat} {b : B3} {tag : Int32} {s : ES} (hb : BOK b) (hs : GS P s) (h : ¬ woS P s ≤ mostOf b) : btr P b tag s = (tag, riS s, stS P s) := if_neg (fun q => h ((most_iff hb hs).mpr q))
theorem most_new {P : Nat} {tag : Int32} {s : ES} (hs : GS P s) : mostOf (tag, riS s, stS P s) = woS P s := by
  obtain ⟨⟨r, hr, er⟩, -⟩ := hs
  unfold mostOf woS
  show (if riS s = -1 then (-100000 : Int32) else _) = _
  rw [if_neg (by rw [er]; exact nI_ne_m1 (by omega))]
theorem btr_yes {P : Nat} {b : B3} {tag : Int32} {s : ES} (hb : BOK b) (hs : GS P s) (h : ¬ woS P s ≤ mostOf b) : (btr P b tag s).1 = tag ∧ mostOf (btr P b tag s) = woS P s := by
  rw [btr_eq hb hs h]
  exact ⟨rfl, most_new hs⟩
theorem ri_of {r s : Nat} (hr : r ≤ 5) (hs : s ≤ 150) : risenOf ((1000 : Int32) * nI r - nI s) = nI r := by
  unfold risenOf
  have e1 : (1000 : Int32) * nI r - nI s + 999 = nI (1000 * r + 999 - s) := by
    apply Int32.toInt_inj.mp
    rw [Int32.toInt_add, wo_eq hr hs, nI_toInt (by omega)]
    have e : (999 : Int32).toInt = 999 := by decide
    rw [e, Int.bmod_def]
    omega
  rw [e1, show (1000 : Int32) = nI 1000 from rfl, pk_div (by omega) (by omega) (by omega)]
  congr 1
  omega
theorem ri_wo {P : Nat} {s : ES} (hs : GS P s) : risenOf (woS P s) = riS s := by
  obtain ⟨⟨r, hr, er⟩, ⟨t, ht, et⟩⟩ := hs
  unfold woS
  rw [er, et, ri_of hr ht]
theorem st_wo {P : Nat} {s : ES} (hs : GS P s) : stoodOf (woS P s) = stS P s := by
  unfold stoodOf
  rw [ri_wo hs]
  unfold woS
  apply Int32.toInt_inj.mp
  obtain ⟨⟨r, hr, er⟩, ⟨t, ht, et⟩⟩ := hs
  rw [er, et, Int32.toInt_sub, wo_eq hr ht, show (1000 : Int32) * nI r = nI (1000 * r) from pk_mul 1000 r, nI_toInt (by omega), nI_toInt (by omega), Int.bmod_def]
  omega
theorem tell_told {what : Int32} {b : B3} (hb : sm 5 b.2.1 ∧ sm 150 b.2.2) : told3 what b.1 (mostOf b) = tellB what b := by
  obtain ⟨⟨r, hr, er⟩, ⟨t, ht, et⟩⟩ := hb
  have hm : mostOf b = 1000 * nI r - nI t := by
    unfold mostOf
    rw [er, et, if_neg (nI_ne_m1 (by omega))]
  unfold told3 tellB
  rw [hm, ri_of hr ht, er, et]
  split
  · rfl
  · split
    · rfl
    · unfold stoodOf
      rw [ri_of hr ht]
      apply Int32.toInt_inj.mp
      rw [Int32.toInt_sub, wo_eq hr ht, show (1000 : Int32) * nI r = nI (1000 * r) from pk_mul 1000 r, nI_toInt (by omega), nI_toInt (by omega), Int.bmod_def]
      omega
/-- behind a first evening something is best -/
theorem btr_set {P : Nat} {b : B3} {tag : Int32} {s : ES} (hb : BOK b) (hs : GS P s) : sm 5 (btr P b tag s).2.1 ∧ sm 150 (btr P b tag s).2.2 := by
  unfold btr
  split
  · next h =>
    rcases hb with ⟨h1, h2⟩ | hb
    · obtain ⟨⟨r, hr, er⟩, -⟩ := hs
      rw [h1, h2, er] at h
      rcases h with h | h
      · rw [Int32.lt_iff_toInt_lt, nI_toInt (by omega)] at h
        have e : (-1 : Int32).toInt = -1 := by decide
        omega
      · exact absurd h.1 (nI_ne_m1 (by omega))
    · exact hb
  · exact hs
/-- the styles, one behind the other -/
def takeB (ev : Int32 → ES) (P : Nat) : Nat → B3
  | 0 => (0, -1, 0)
  | i + 1 => btr P (takeB ev P i) (nI i) (ev (nI i))
theorem takeB_ok {ev : Int32 → ES} {P : Nat} (h : ∀ v, GS P (ev v)) : ∀ i, BOK (takeB ev P i)
  | 0 => Or.inl ⟨rfl, rfl⟩
  | i + 1 => btr_ok (takeB_ok h i) (h _)
/-- till when something is hot, from above -/
def coldS (hot : Nat → Bool) : Nat → Int32
  | 0 => 0
  | j + 1 => if hot j then (if j < 30 then nI (j + 1) else -1) else coldS hot j
/-- the last, the first of the first n that is so -/
def lastT (ok : Nat → Bool) : Nat → Int32
  | 0 => -1
  | n + 1 => if ok n then nI n else lastT ok n
def firstT (ok : Nat → Bool) : Nat → Int32
  | 0 => -1
  | n + 1 => if firstT ok n = -1 then (if ok n then nI n else -1) else firstT ok n
def onesN (s : Nat) : Nat := s % 2 + s / 2 % 2 + s / 4 % 2 + s / 8 % 2 + s / 16 % 2 + s / 32 % 2
theorem ones_dec : ∀ s : Fin 64, sumTo (fun q => (nI s.val >>> ((nI q) &&& 31)) &&& 1) 6 = nI (onesN s.val) := by decide +kernel
theorem pow_C : ∀ C : Fin 7, (1 : Int32) <<< ((nI C.val) &&& 31) = nI (2 ^ C.val) := by decide +kernel
theorem pow_le : ∀ C : Fin 7, 2 ^ C.val ≤ 64 := by decide
def swF (f : Nat → Int32) (a b : Nat) : Nat → Int32 := upd (upd f a (f b)) b (f a)
theorem swF_swF {f : Nat → Int32} {a b : Nat} (h : a ≠ b) : swF (swF f a b) a b = f := by
  funext j
  simp only [swF, upd]
  grind
theorem ho_u0 {a b c v : Int32} : upd (hoF a b c) 0 v = hoF v b c := by
  funext j
  simp only [upd, hoF]
  split <;> rfl
theorem ho_u1 {a b c v : Int32} : upd (hoF a b c) 1 v = hoF a v c := by
  funext j
  simp only [upd, hoF]
  grind
theorem o2i_neg {o : Option Nat} (h : ∀ b, o = some b → b < 1000) : o2i o = -1 ↔ o = none := by
  cases o with
  | none => exact ⟨fun _ => rfl, fun _ => rfl⟩
  | some b => exact ⟨fun q => absurd q (nI_ne_m1 (by have := h b rfl; omega)), fun q => by cases q⟩
