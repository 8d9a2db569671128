def cdB (cd0 : Nat → Int32) (b : Nat) : List Int32 → Nat → Int32
  | [] => cd0
  | c :: O => upd (cdB cd0 b O) (b + O.length) c
/-- the list lies in the row, its top uppermost -/
def StkR (he : Nat → Int32) : List Int32 → Prop
  | [] => True
  | x :: H => he H.length = x ∧ StkR he H
theorem stk_up {he : Nat → Int32} {v : Int32} : ∀ {H : List Int32} {n : Nat}, H.length ≤ n → StkR he H → StkR (upd he n v) H
  | [], _, _, _ => trivial
  | x :: H, n, hn, h => by
    have hn : H.length + 1 ≤ n := hn
    exact ⟨by rw [pk_un (by omega)]; exact h.1, stk_up (by omega) h.2⟩
theorem stk_push {he : Nat → Int32} {v : Int32} {H : List Int32} (h : StkR he H) : StkR (upd he H.length v) (v :: H) := ⟨pk_us, stk_up (Nat.le_refl _) h⟩
theorem stk_unw {he : Nat → Int32} {l : Nat} : ∀ (H O : List Int32), StkR he H → StkR he (unw l H O).1
  | [], _, _ => trivial
  | x :: H, O, h => by
    simp only [unw]
    split
    · exact stk_unw H (x :: O) h.2
    · exact h
theorem len_unw {l : Nat} : ∀ (H O : List Int32), (unw l H O).1.length + (unw l H O).2.length = H.length + O.length ∧ (unw l H O).1.length ≤ H.length
  | [], _ => ⟨rfl, Nat.le_refl _⟩
  | x :: H, O => by
    simp only [unw]
    split
    · have := len_unw (l := l) H (x :: O)
      simp only [List.length_cons] at this ⊢
      omega
    · exact ⟨rfl, Nat.le_refl _⟩
theorem top_unw {l : Nat} : ∀ (H O : List Int32) {x : Int32} {H1 : List Int32}, (unw l H O).1 = x :: H1 → rk x < l
  | [], _, x, H1, h => by cases h
  | y :: H, O, x, H1, h => by
    simp only [unw] at h
    split at h
    · exact top_unw H (y :: O) h
    · next q =>
      injection h with h1 h2
      subst h1
      omega
theorem rk_le (x : Int32) : rk x ≤ 7 := by unfold rk; repeat' (first | split | omega)
theorem rk_0 {x : Int32} (h : rk x = 0) : x = 0 := by
  unfold rk at h
  repeat' (first | (split at h) | assumption | omega)
theorem opn_le : ∀ H : List Int32, opn H ≤ H.length
  | [] => Nat.le_refl _
  | x :: H => by
    have := opn_le H
    simp only [opn, List.length_cons]
    split <;> omega
theorem opn_m1 {x : Int32} {H : List Int32} (h : x = 13 ∨ x = 19) : nI (opn (x :: H)) - 1 = nI (opn H) := by
  rw [opn_o H (h.elim (fun e => Or.inr (Or.inl e)) (fun e => Or.inr (Or.inr e)))]
  exact nI_pred _
theorem opn_m0 {H : List Int32} : nI (opn (0 :: H)) - 1 = nI (opn H) := by
  rw [opn_o H (Or.inl rfl)]
  exact nI_pred _
theorem opn_z {x : Int32} {H : List Int32} (h0 : x ≠ 0) (h1 : ¬ x = 13) (h2 : ¬ x = 19) : nI (opn (x :: H)) - 0 = nI (opn H) := by
  rw [opn_c H (fun q => q.elim h0 (fun q => q.elim h1 h2)), show (0 : Int32) = nI 0 from rfl, pk_sub (Nat.zero_le _)]
  rfl
section
variable {B : Nat → Int32} {N : Nat} {m : Bool} {H O : List Int32} {k : Tk} {r : Option Bool → List Int32 → List Int32 → Tk → YRes}
theorem st_num (h : 0 ≤ k.2.2 ∧ k.2.2 < 10006) : stY B N r (some m) H O k = r none (unw 7 H (cC k.2.2 :: O)).1 (unw 7 H (cC k.2.2 :: O)).2 (lkF B N k.1) := if_pos h
theorem st_un (h : ¬ (0 ≤ k.2.2 ∧ k.2.2 < 10006)) : stY B N r (some m) H O k = if k.2.2 = 10013 ∧ m = true then (if opn H = 5 then .inl k.2.1 else r (some true) (13 :: H) O (lkF B N k.1))
    else if k.2.2 = 10011 then (if opn H = 5 then .inl k.2.1 else r (some false) (19 :: H) O (lkF B N k.1))
    else if k.2.2 = -3 then (if opn H = 5 then .inl k.2.1 else r (some true) (0 :: H) O (lkF B N k.1))
    else .inl k.2.1 := if_neg h
theorem st_semi (h : k.2.2 = -5) : stY B N r none H O k = if (unw 1 H O).1 = [] then .inr ((unw 1 H O).2, k.1) else .inl k.2.1 := if_pos h
theorem st_close (h5 : ¬ k.2.2 = -5) (h : k.2.2 = -4) : stY B N r none H O k = if (unw 1 H O).1 = [] then .inl k.2.1 else r none (unw 7 (unw 1 H O).1.tail (unw 1 H O).2).1 (unw 7 (unw 1 H O).1.tail (unw 1 H O).2).2 (lkF B N k.1) := (if_neg h5).trans (if_pos h)
theorem st_nos (h5 : ¬ k.2.2 = -5) (h4 : ¬ k.2.2 = -4) (hg : sgR k.2.2 = none) : stY B N r none H O k = .inl k.2.1 := by
  refine ((if_neg h5).trans (if_neg h4)).trans ?_
  rw [hg]
theorem st_sign {g : Int32} (h5 : ¬ k.2.2 = -5) (h4 : ¬ k.2.2 = -4) (hg : sgR k.2.2 = some g) : stY B N r none H O k = if rk g = 4 ∧ topR (unw (levR g) H O).1 = 4 then .inl k.2.1 else r (some (decide (g ≤ 12))) (g :: (unw (levR g) H O).1) (unw (levR g) H O).2 (lkF B N k.1) := by
  refine ((if_neg h5).trans (if_neg h4)).trans ?_
  rw [hg]
end
theorem tk_i0 {c : Int32} (h : tkM c = 0) : c = -1 := by
  unfold tkM at h
  by_cases q0 : c = -1
  · exact q0
  rw [if_neg q0] at h
  by_cases q1 : 0 ≤ c ∧ c < 10000
  · rw [if_pos q1] at h; exact absurd h (by decide)
  rw [if_neg q1] at h
  by_cases q2 : 0 ≤ c ∧ c < 10006
  · rw [if_pos q2] at h; exact absurd h (by decide)
  rw [if_neg q2] at h
  by_cases q3 : c = -10 ∨ c = -11 ∨ c = -12
  · rw [if_pos q3] at h; exact absurd h (by decide)
  rw [if_neg q3] at h
  by_cases q4 : c = 10006
  · rw [if_pos q4] at h; exact absurd h (by decide)
  rw [if_neg q4] at h
  by_cases q5 : c = 10007
  · rw [if_pos q5] at h; exact absurd h (by decide)
  rw [if_neg q5] at h
  by_cases q6 : c = 10013
  · rw [if_pos q6] at h; exact absurd h (by decide)
  rw [if_neg q6] at h
  by_cases q7 : c = -3
  · rw [if_pos q7] at h; exact absurd h (by decide)
  rw [if_neg q7] at h
  by_cases q8 : c = -4
  · rw [if_pos q8] at h; exact absurd h (by decide)
  rw [if_neg q8] at h
  by_cases q9 : c = -5
  · rw [if_pos q9] at h; exact absurd h (by decide)
  rw [if_neg q9] at h
  by_cases q10 : c = 10010
  · rw [if_pos q10] at h; exact absurd h (by decide)
  rw [if_neg q10] at h
  by_cases q11 : c = 10011
  · rw [if_pos q11] at h; exact absurd h (by decide)
  rw [if_neg q11] at h
  by_cases q12 : c = 10012
  · rw [if_pos q12] at h; exact absurd h (by decide)
  rw [if_neg q12] at h
  by_cases q13 : c = 10008
  · rw [if_pos q13] at h; exact absurd h (by decide)
  rw [if_neg q13] at h
  by_cases q14 : c = 10009
  · rw [if_pos q14] at h; exact absurd h (by decide)
  rw [if_neg q14] at h
  exact absurd h (by decide)
theorem tk_i1 {c : Int32} (h : tkM c = 1) : 0 ≤ c ∧ c < 10000 := by
  unfold tkM at h
  by_cases q0 : c = -1
  · rw [if_pos q0] at h; exact absurd h (by decide)
  rw [if_neg q0] at h
  by_cases q1 : 0 ≤ c ∧ c < 10000
  · exact q1
  rw [if_neg q1] at h
  by_cases q2 : 0 ≤ c ∧ c < 10006
  · rw [if_pos q2] at h; exact absurd h (by decide)
  rw [if_neg q2] at h
  by_cases q3 : c = -10 ∨ c = -11 ∨ c = -12
  · rw [if_pos q3] at h; exact absurd h (by decide)
  rw [if_neg q3] at h
  by_cases q4 : c = 10006
  · rw [if_pos q4] at h; exact absurd h (by decide)
  rw [if_neg q4] at h
  by_cases q5 : c = 10007
  · rw [if_pos q5] at h; exact absurd h (by decide)
  rw [if_neg q5] at h
  by_cases q6 : c = 10013
  · rw [if_pos q6] at h; exact absurd h (by decide)
  rw [if_neg q6] at h
  by_cases q7 : c = -3
  · rw [if_pos q7] at h; exact absurd h (by decide)
  rw [if_neg q7] at h
  by_cases q8 : c = -4
  · rw [if_pos q8] at h; exact absurd h (by decide)
  rw [if_neg q8] at h
  by_cases q9 : c = -5
  · rw [if_pos q9] at h; exact absurd h (by decide)
  rw [if_neg q9] at h
  by_cases q10 : c = 10010
  · rw [if_pos q10] at h; exact absurd h (by decide)
  rw [if_neg q10] at h
  by_cases q11 : c = 10011
  · rw [if_pos q11] at h; exact absurd h (by decide)
  rw [if_neg q11] at h
  by_cases q12 : c = 10012
  · rw [if_pos q12] at h; exact absurd h (by decide)
  rw [if_neg q12] at h
  by_cases q13 : c = 10008
  · rw [if_pos q13] at h; exact absurd h (by decide)
  rw [if_neg q13] at h
  by_cases q14 : c = 10009
  · rw [if_pos q14] at h; exact absurd h (by decide)
  rw [if_neg q14] at h
  exact absurd h (by decide)
theorem tk_i2 {c : Int32} (h : tkM c = 2) : (0 ≤ c ∧ c < 10006) ∧ ¬ (0 ≤ c ∧ c < 10000) := by
  unfold tkM at h
  by_cases q0 : c = -1
  · rw [if_pos q0] at h; exact absurd h (by decide)
  rw [if_neg q0] at h
  by_cases q1 : 0 ≤ c ∧ c < 10000
  · rw [if_pos q1] at h; exact absurd h (by decide)
  rw [if_neg q1] at h
  by_cases q2 : 0 ≤ c ∧ c < 10006
  · exact ⟨q2, q1⟩
  rw [if_neg q2] at h
  by_cases q3 : c = -10 ∨ c = -11 ∨ c = -12
  · rw [if_pos q3] at h; exact absurd h (by decide)
  rw [if_neg q3] at h
  by_cases q4 : c = 10006
  · rw [if_pos q4] at h; exact absurd h (by decide)
  rw [if_neg q4] at h
  by_cases q5 : c = 10007
  · rw [if_pos q5] at h; exact absurd h (by decide)
  rw [if_neg q5] at h
  by_cases q6 : c = 10013
  · rw [if_pos q6] at h; exact absurd h (by decide)
  rw [if_neg q6] at h
  by_cases q7 : c = -3
  · rw [if_pos q7] at h; exact absurd h (by decide)
  rw [if_neg q7] at h
  by_cases q8 : c = -4
  · rw [if_pos q8] at h; exact absurd h (by decide)
  rw [if_neg q8] at h
  by_cases q9 : c = -5
  · rw [if_pos q9] at h; exact absurd h (by decide)
  rw [if_neg q9] at h
  by_cases q10 : c = 10010
  · rw [if_pos q10] at h; exact absurd h (by decide)
  rw [if_neg q10] at h
  by_cases q11 : c = 10011
  · rw [if_pos q11] at h; exact absurd h (by decide)
  rw [if_neg q11] at h
  by_cases q12 : c = 10012
  · rw [if_pos q12] at h; exact absurd h (by decide)
  rw [if_neg q12] at h
  by_cases q13 : c = 10008
  · rw [if_pos q13] at h; exact absurd h (by decide)
  rw [if_neg q13] at h
  by_cases q14 : c = 10009
  · rw [if_pos q14] at h; exact absurd h (by decide)
  rw [if_neg q14] at h
  exact absurd h (by decide)
theorem tk_i3 {c : Int32} (h : tkM c = 3) : c = -10 ∨ c = -11 ∨ c = -12 := by
  unfold tkM at h
  by_cases q0 : c = -1
  · rw [if_pos q0] at h; exact absurd h (by decide)
  rw [if_neg q0] at h
  by_cases q1 : 0 ≤ c ∧ c < 10000
  · rw [if_pos q1] at h; exact absurd h (by decide)
  rw [if_neg q1] at h
  by_cases q2 : 0 ≤ c ∧ c < 10006
  · rw [if_pos q2] at h; exact absurd h (by decide)
  rw [if_neg q2] at h
  by_cases q3 : c = -10 ∨ c = -11 ∨ c = -12
  · exact q3
  rw [if_neg q3] at h
  by_cases q4 : c = 10006
  · rw [if_pos q4] at h; exact absurd h (by decide)
  rw [if_neg q4] at h
  by_cases q5 : c = 10007
  · rw [if_pos q5] at h; exact absurd h (by decide)
  rw [if_neg q5] at h
  by_cases q6 : c = 10013
  · rw [if_pos q6] at h; exact absurd h (by decide)
  rw [if_neg q6] at h
  by_cases q7 : c = -3
  · rw [if_pos q7] at h; exact absurd h (by decide)
  rw [if_neg q7] at h
  by_cases q8 : c = -4
  · rw [if_pos q8] at h; exact absurd h (by decide)
  rw [if_neg q8] at h
  by_cases q9 : c = -5
  · rw [if_pos q9] at h; exact absurd h (by decide)
  rw [if_neg q9] at h
  by_cases q10 : c = 10010
  · rw [if_pos q10] at h; exact absurd h (by decide)
  rw [if_neg q10] at h
  by_cases q11 : c = 10011
  · rw [if_pos q11] at h; exact absurd h (by decide)
  rw [if_neg q11] at h
  by_cases q12 : c = 10012
  · rw [if_pos q12] at h; exact absurd h (by decide)
  rw [if_neg q12] at h
  by_cases q13 : c = 10008
  · rw [if_pos q13] at h; exact absurd h (by decide)
  rw [if_neg q13] at h
  by_cases q14 : c = 10009
  · rw [if_pos q14] at h; exact absurd h (by decide)
  rw [if_neg q14] at h
  exact absurd h (by decide)
theorem tk_i6 {c : Int32} (h : tkM c = 6) : c = 10013 := by
  unfold tkM at h
  by_cases q0 : c = -1
  · rw [if_pos q0] at h; exact absurd h (by decide)
  rw [if_neg q0] at h
  by_cases q1 : 0 ≤ c ∧ c < 10000
  · rw [if_pos q1] at h; exact absurd h (by decide)
  rw [if_neg q1] at h
  by_cases q2 : 0 ≤ c ∧ c < 10006
  · rw [if_pos q2] at h; exact absurd h (by decide)
  rw [if_neg q2] at h
  by_cases q3 : c = -10 ∨ c = -11 ∨ c = -12
  · rw [if_pos q3] at h; exact absurd h (by decide)
  rw [if_neg q3] at h
  by_cases q4 : c = 10006
  · rw [if_pos q4] at h; exact absurd h (by decide)
  rw [if_neg q4] at h
  by_cases q5 : c = 10007
  · rw [if_pos q5] at h; exact absurd h (by decide)
  rw [if_neg q5] at h
  by_cases q6 : c = 10013
  · exact q6
  rw [if_neg q6] at h
  by_cases q7 : c = -3
  · rw [if_pos q7] at h; exact absurd h (by decide)
  rw [if_neg q7] at h
  by_cases q8 : c = -4
  · rw [if_pos q8] at h; exact absurd h (by decide)
  rw [if_neg q8] at h
  by_cases q9 : c = -5
  · rw [if_pos q9] at h; exact absurd h (by decide)
  rw [if_neg q9] at h
  by_cases q10 : c = 10010
  · rw [if_pos q10] at h; exact absurd h (by decide)
  rw [if_neg q10] at h
  by_cases q11 : c = 10011
  · rw [if_pos q11] at h; exact absurd h (by decide)
  rw [if_neg q11] at h
  by_cases q12 : c = 10012
  · rw [if_pos q12] at h; exact absurd h (by decide)
  rw [if_neg q12] at h
  by_cases q13 : c = 10008
  · rw [if_pos q13] at h; exact absurd h (by decide)
  rw [if_neg q13] at h
  by_cases q14 : c = 10009
  · rw [if_pos q14] at h; exact absurd h (by decide)
  rw [if_neg q14] at h
  exact absurd h (by decide)
theorem tk_i45 {c : Int32} (h : tkM c = 45) : c = 10011 := by
  unfold tkM at h
  by_cases q0 : c = -1
  · rw [if_pos q0] at h; exact absurd h (by decide)
  rw [if_neg q0] at h
  by_cases q1 : 0 ≤ c ∧ c < 10000
  · rw [if_pos q1] at h; exact absurd h (by decide)
  rw [if_neg q1] at h
  by_cases q2 : 0 ≤ c ∧ c < 10006
  · rw [if_pos q2] at h; exact absurd h (by decide)
  rw [if_neg q2] at h
  by_cases q3 : c = -10 ∨ c = -11 ∨ c = -12
  · rw [if_pos q3] at h; exact absurd h (by decide)
  rw [if_neg q3] at h
  by_cases q4 : c = 10006
  · rw [if_pos q4] at h; exact absurd h (by decide)
  rw [if_neg q4] at h
  by_cases q5 : c = 10007
  · rw [if_pos q5] at h; exact absurd h (by decide)
  rw [if_neg q5] at h
  by_cases q6 : c = 10013
  · rw [if_pos q6] at h; exact absurd h (by decide)
  rw [if_neg q6] at h
  by_cases q7 : c = -3
  · rw [if_pos q7] at h; exact absurd h (by decide)
  rw [if_neg q7] at h
  by_cases q8 : c = -4
  · rw [if_pos q8] at h; exact absurd h (by decide)
  rw [if_neg q8] at h
  by_cases q9 : c = -5
  · rw [if_pos q9] at h; exact absurd h (by decide)
  rw [if_neg q9] at h
  by_cases q10 : c = 10010
  · rw [if_pos q10] at h; exact absurd h (by decide)
  rw [if_neg q10] at h
  by_cases q11 : c = 10011
  · exact q11
  rw [if_neg q11] at h
  by_cases q12 : c = 10012
  · rw [if_pos q12] at h; exact absurd h (by decide)
  rw [if_neg q12] at h
  by_cases q13 : c = 10008
  · rw [if_pos q13] at h; exact absurd h (by decide)
  rw [if_neg q13] at h
  by_cases q14 : c = 10009
  · rw [if_pos q14] at h; exact absurd h (by decide)
  rw [if_neg q14] at h
  exact absurd h (by decide)
theorem tk_i40 {c : Int32} (h : tkM c = 40) : c = -3 := by
  unfold tkM at h
  by_cases q0 : c = -1
  · rw [if_pos q0] at h; exact absurd h (by decide)
  rw [if_neg q0] at h
  by_cases q1 : 0 ≤ c ∧ c < 10000
  · rw [if_pos q1] at h; exact absurd h (by decide)
  rw [if_neg q1] at h
  by_cases q2 : 0 ≤ c ∧ c < 10006
  · rw [if_pos q2] at h; exact absurd h (by decide)
  rw [if_neg q2] at h
  by_cases q3 : c = -10 ∨ c = -11 ∨ c = -12
  · rw [if_pos q3] at h; exact absurd h (by decide)
  rw [if_neg q3] at h
  by_cases q4 : c = 10006
  · rw [if_pos q4] at h; exact absurd h (by decide)
  rw [if_neg q4] at h
  by_cases q5 : c = 10007
  · rw [if_pos q5] at h; exact absurd h (by decide)
  rw [if_neg q5] at h
  by_cases q6 : c = 10013
  · rw [if_pos q6] at h; exact absurd h (by decide)
  rw [if_neg q6] at h
  by_cases q7 : c = -3
  · exact q7
  rw [if_neg q7] at h
  by_cases q8 : c = -4
  · rw [if_pos q8] at h; exact absurd h (by decide)
  rw [if_neg q8] at h
  by_cases q9 : c = -5
  · rw [if_pos q9] at h; exact absurd h (by decide)
  rw [if_neg q9] at h
  by_cases q10 : c = 10010
  · rw [if_pos q10] at h; exact absurd h (by decide)
  rw [if_neg q10] at h
  by_cases q11 : c = 10011
  · rw [if_pos q11] at h; exact absurd h (by decide)
  rw [if_neg q11] at h
  by_cases q12 : c = 10012
  · rw [if_pos q12] at h; exact absurd h (by decide)
  rw [if_neg q12] at h
  by_cases q13 : c = 10008
  · rw [if_pos q13] at h; exact absurd h (by decide)
  rw [if_neg q13] at h
  by_cases q14 : c = 10009
  · rw [if_pos q14] at h; exact absurd h (by decide)
  rw [if_neg q14] at h
  exact absurd h (by decide)
theorem tk_i59 {c : Int32} (h : tkM c = 59) : c = -5 := by
  unfold tkM at h
  by_cases q0 : c = -1
  · rw [if_pos q0] at h; exact absurd h (by decide)
  rw [if_neg q0] at h
  by_cases q1 : 0 ≤ c ∧ c < 10000
  · rw [if_pos q1] at h; exact absurd h (by decide)
  rw [if_neg q1] at h
  by_cases q2 : 0 ≤ c ∧ c < 10006
  · rw [if_pos q2] at h; exact absurd h (by decide)
  rw [if_neg q2] at h
  by_cases q3 : c = -10 ∨ c = -11 ∨ c = -12
  · rw [if_pos q3] at h; exact absurd h (by decide)
  rw [if_neg q3] at h
  by_cases q4 : c = 10006
  · rw [if_pos q4] at h; exact absurd h (by decide)
  rw [if_neg q4] at h
  by_cases q5 : c = 10007
  · rw [if_pos q5] at h; exact absurd h (by decide)
  rw [if_neg q5] at h
  by_cases q6 : c = 10013
  · rw [if_pos q6] at h; exact absurd h (by decide)
  rw [if_neg q6] at h
  by_cases q7 : c = -3
  · rw [if_pos q7] at h; exact absurd h (by decide)
  rw [if_neg q7] at h
  by_cases q8 : c = -4
  · rw [if_pos q8] at h; exact absurd h (by decide)
  rw [if_neg q8] at h
  by_cases q9 : c = -5
  · exact q9
  rw [if_neg q9] at h
  by_cases q10 : c = 10010
  · rw [if_pos q10] at h; exact absurd h (by decide)
  rw [if_neg q10] at h
  by_cases q11 : c = 10011
  · rw [if_pos q11] at h; exact absurd h (by decide)
  rw [if_neg q11] at h
  by_cases q12 : c = 10012
  · rw [if_pos q12] at h; exact absurd h (by decide)
  rw [if_neg q12] at h
  by_cases q13 : c = 10008
  · rw [if_pos q13] at h; exact absurd h (by decide)
  rw [if_neg q13] at h
  by_cases q14 : c = 10009
  · rw [if_pos q14] at h; exact absurd h (by decide)
  rw [if_neg q14] at h
  exact absurd h (by decide)
theorem tk_i41 {c : Int32} (h : tkM c = 41) : c = -4 := by
  unfold tkM at h
  by_cases q0 : c = -1
  · rw [if_pos q0] at h; exact absurd h (by decide)
  rw [if_neg q0] at h
  by_cases q1 : 0 ≤ c ∧ c < 10000
  · rw [if_pos q1] at h; exact absurd h (by decide)
  rw [if_neg q1] at h
  by_cases q2 : 0 ≤ c ∧ c < 10006
  · rw [if_pos q2] at h; exact absurd h (by decide)
  rw [if_neg q2] at h
  by_cases q3 : c = -10 ∨ c = -11 ∨ c = -12
  · rw [if_pos q3] at h; exact absurd h (by decide)
  rw [if_neg q3] at h
  by_cases q4 : c = 10006
  · rw [if_pos q4] at h; exact absurd h (by decide)
  rw [if_neg q4] at h
  by_cases q5 : c = 10007
  · rw [if_pos q5] at h; exact absurd h (by decide)
  rw [if_neg q5] at h
  by_cases q6 : c = 10013
  · rw [if_pos q6] at h; exact absurd h (by decide)
  rw [if_neg q6] at h
  by_cases q7 : c = -3
  · rw [if_pos q7] at h; exact absurd h (by decide)
  rw [if_neg q7] at h
  by_cases q8 : c = -4
  · exact q8
  rw [if_neg q8] at h
  by_cases q9 : c = -5
  · rw [if_pos q9] at h; exact absurd h (by decide)
  rw [if_neg q9] at h
  by_cases q10 : c = 10010
  · rw [if_pos q10] at h; exact absurd h (by decide)
  rw [if_neg q10] at h
  by_cases q11 : c = 10011
  · rw [if_pos q11] at h; exact absurd h (by decide)
  rw [if_neg q11] at h
  by_cases q12 : c = 10012
  · rw [if_pos q12] at h; exact absurd h (by decide)
  rw [if_neg q12] at h
  by_cases q13 : c = 10008
  · rw [if_pos q13] at h; exact absurd h (by decide)
  rw [if_neg q13] at h
  by_cases q14 : c = 10009
  · rw [if_pos q14] at h; exact absurd h (by decide)
  rw [if_neg q14] at h
  exact absurd h (by decide)
theorem tk_num {c : Int32} (h : 0 ≤ c ∧ c < 10006) : tkM c = 1 ∨ tkM c = 2 := by
  have hne : ¬ c = -1 := fun e => by rw [e] at h; exact absurd h.1 (by decide)
  by_cases h1 : c < 10000
  · exact Or.inl (by unfold tkM; rw [if_neg hne, if_pos ⟨h.1, h1⟩])
  · exact Or.inr (by unfold tkM; rw [if_neg hne, if_neg (fun q => h1 q.2), if_pos h])
theorem tk_e {c : Int32} (h : c = -1 ∨ c = -10 ∨ c = -11 ∨ c = -12 ∨ c = 10013 ∨ c = 10011 ∨ c = -3 ∨ c = -5 ∨ c = -4) : tkM c = if c = -1 then 0 else if c = 10013 then 6 else if c = 10011 then 45 else if c = -3 then 40 else if c = -5 then 59 else if c = -4 then 41 else 3 := by
  rcases h with rfl | rfl | rfl | rfl | rfl | rfl | rfl | rfl | rfl <;> decide
def sgT (t : Int32) : Int32 := if t = 4 then 11 else if t = 5 then 12 else if t = 60 then 14 else if t = 61 then 15 else if t = 43 then 16 else if t = 45 then 17 else if t = 42 then 18 else -1
theorem sg_T {c : Int32} : sgT (tkM c) = (sgR c).getD (-1) := by
  by_cases h : c = 10006 ∨ c = 10007 ∨ c = 10008 ∨ c = 10009 ∨ c = 10010 ∨ c = 10011 ∨ c = 10012
  · rcases h with rfl | rfl | rfl | rfl | rfl | rfl | rfl <;> decide
  · have n1 : ¬ c = 10006 := fun e => h (Or.inl e)
    have n2 : ¬ c = 10007 := fun e => h (Or.inr (Or.inl e))
    have n3 : ¬ c = 10008 := fun e => h (Or.inr (Or.inr (Or.inl e)))
    have n4 : ¬ c = 10009 := fun e => h (Or.inr (Or.inr (Or.inr (Or.inl e))))
    have n5 : ¬ c = 10010 := fun e => h (Or.inr (Or.inr (Or.inr (Or.inr (Or.inl e)))))
    have n6 : ¬ c = 10011 := fun e => h (Or.inr (Or.inr (Or.inr (Or.inr (Or.inr (Or.inl e))))))
    have n7 : ¬ c = 10012 := fun e => h (Or.inr (Or.inr (Or.inr (Or.inr (Or.inr (Or.inr e))))))
    rw [show sgR c = none by unfold sgR; rw [if_neg n1, if_neg n2, if_neg n3, if_neg n4, if_neg n5, if_neg n6, if_neg n7]]
    unfold tkM
    rw [if_neg n1, if_neg n2, if_neg n3, if_neg n4, if_neg n5, if_neg n6, if_neg n7]
    repeat' (first | split | rfl)
theorem sg_ne {c g : Int32} (h : sgR c = some g) : g ≠ -1 ∧ 1 ≤ rk g ∧ g ≠ 0 ∧ ¬ g = 13 ∧ ¬ g = 19 := by
  unfold sgR at h
  repeat' (first | (split at h) | (injection h with h; subst h; decide) | (cases h))
theorem lev_1 {g : Int32} (h : 1 ≤ rk g) : 1 ≤ levR g := by unfold levR; split <;> omega
