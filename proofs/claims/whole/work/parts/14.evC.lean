/-- an int array's cell is what its first n places hold -/
theorem vp_ext (cA : ClassId) {n : Nat} {f g : Nat → Int32} (h : ∀ j, j < n → f j = g j) : vp_cell cA (n, .inl f) = vp_cell cA (n, .inl g) := by
  rw [vp_cell_i, vp_cell_i]
  unfold arrV
  congr 1
  apply Array.ext
  · simp
  · intro i h1 h2
    simp only [Array.size_ofFn] at h1
    simp [h i h1]
theorem ww_arr {M : XM} {d : Nat} {Q : Option Value → List va_E → Prop} {z : Nat × Nat × Nat × Nat} {pc : Nat} {lv : List (Nat × Value)} {st : List Value} {w w1 : List va_E} (a : Nat) {k n : Nat} {f : Nat → Int32} (g : Nat → Int32) (ha : w[a]? = some (.inl (k, n, .inl f))) (h : ∀ j, j < n → f j = g j) (hw : w.set a (.inl (k, n, .inl g)) = w1) (kk : WW M d Q z pc lv st w1) : WW M d Q z pc lv st w := by
  subst hw
  intro hM p l e s m args below meth c D cy A n0 ad0 C ad H locs ls X
  obtain ⟨hP, hD, hS, hlv, hG, hn0, hz⟩ := X
  refine kk hM C ⟨?_, ?_, hS, hlv, hG, by rw [List.length_set]; exact hn0, hz⟩
  · rw [← xw_set]
    intro i q hi
    rw [List.getElem?_set] at hi
    split at hi
    · next hia =>
      split at hi
      · cases hi
        subst hia
        have h1 := hP a _ (xw_at ha)
        show H[ad a]? = some (vp_cell (cy k) (n, .inl g))
        rw [← vp_ext (cy k) h]
        exact h1
      · cases hi
    · exact hP i q hi
  · rw [← xw_set]
    exact hD.set (xw_at ha)
theorem nat_ac : nativeFrameWords "java/lang/System" "arraycopy" 5 + 11 ≤ 50 := by decide +kernel
theorem ok_ac : mb (.native arraycopyName) = true ∧ mb (.static arraycopyName) = true ∧ mb (.initialized "java/lang/System") = true := ⟨by decide +kernel, by decide +kernel, by decide +kernel⟩
theorem ww_copy {M : XM} {d : Nat} {Q : Option Value → List va_E → Prop} {z : Nat × Nat × Nat × Nat} {pc : Nat} {lv : List (Nat × Value)} {st : List Value} {w : List va_E} (a : Nat) {idx a0 a1 n0 n1 : Nat} {f g : Nat → Int32} {sp dp n : Int32} (hok : mb (.methodLink M.2.2.2.2.2.1 idx arraycopyName) = true) (hd : 1 ≤ d) (hrm : (st.map fun v => v.category).sum ≤ 8)
    (ha0 : w[a0]? = some (.inl (0, n0, .inl f))) (ha1 : w[a1]? = some (.inl (0, n1, .inl g))) (h1 : ¬ sp < 0) (h2 : ¬ dp < 0) (h3 : ¬ n < 0) (h4 : sp.toNatClampNeg + n.toNatClampNeg ≤ n0) (h5 : dp.toNatClampNeg + n.toNatClampNeg ≤ n1) (hq : M.2.2.2.2.1[a]? = some (pc, .invokestatic idx, 3))
    (kk : WW M d Q z (pc + 3) lv st (w.set a1 (.inl (0, n1, .inl (va_cpy f g sp.toNatClampNeg dp.toNatClampNeg n.toNatClampNeg))))) : WW M d Q z pc lv (.int n :: .int dp :: .ref a1 :: .int sp :: .ref a0 :: st) w := by
  intro hM p l e s m args below meth c D cy A n0' ad0 C ad H locs ls X
  obtain ⟨hx, hb, hr2, hlk, hml, hown, hts, hK, hA, hnm, hmt⟩ := id C
  obtain ⟨hP, hD, hS, hlv, hG, hn0, hz⟩ := X
  refine va_copyi (D := D) (ty := .int) hx hb (hml.trans hlv.1.symm) hown (hts _ (mb_in hok)) (hts _ (mb_in ok_ac.1)) (hts _ (mb_in ok_ac.2.1)) (hts _ (mb_in ok_ac.2.2)) hK hP hD hS a0 a1 0 0 (xw_at ha0) (xw_at ha1) rfl rfl rfl h1 h2 h3 h4 h5 (fun _ _ => rfl) hd ?_ (xpc hM hq) (fun H1 locs1 hP1 hD1 hS1 => ?_)
  · have h6 : ((st.map (xt ad)).map fun v => v.category).sum ≤ 8 := by simpa [Function.comp_def, xt_cat] using hrm
    have := nat_ac
    show ((st.map (xt ad)).map fun v => v.category).sum + (nativeFrameWords "java/lang/System" "arraycopy" 5 + 11) ≤ 64 * d
    omega
  · rw [show (xw cy ad w).set a1 (ad a1, .inl (cy 0, n1, .inl (va_cpy f g sp.toNatClampNeg dp.toNatClampNeg n.toNatClampNeg))) = xw cy ad (w.set a1 (.inl (0, n1, .inl (va_cpy f g sp.toNatClampNeg dp.toNatClampNeg n.toNatClampNeg)))) from (xw_set (e := .inl (0, n1, .inl (va_cpy f g sp.toNatClampNeg dp.toNatClampNeg n.toNatClampNeg))))] at hP1 hD1
    exact kk hM C ⟨hP1, hD1, hS1, hlv, hG, by rw [List.length_set]; exact hn0, hz⟩
/-- the first n are v -/
def flF (f : Nat → Int32) (v : Int32) (n : Nat) : Nat → Int32 := fun j => if j < n then v else f j
theorem flF_0 (f : Nat → Int32) (v : Int32) : flF f v 0 = f := by funext j; simp [flF]
theorem flF_s (f : Nat → Int32) (v : Int32) (n : Nat) : upd (flF f v n) n v = flF f v (n + 1) := by
  funext j
  simp only [upd, flF]
  grind
def jnC (code a b : Int32) : Int32 := if code = 10006 then b2i (¬ a = 0 ∨ ¬ b = 0) else if code = 10007 then b2i (¬ a = 0 ∧ ¬ b = 0) else if code = 10008 then b2i (a < b) else if code = 10009 then b2i (a = b) else if code = 10010 then a + b else if code = 10011 then a - b else a * b
/-- one code of a law: the stack and how many lie on it -/
def sStep (named : Nat → Int32) (code : Int32) (s : (Nat → Int32) × Nat) : (Nat → Int32) × Nat :=
  if code < 10006 ∧ s.2 < 40 then (upd s.1 s.2 (if code < 10000 then code else named (code - 10000).toNatClampNeg), s.2 + 1)
  else if code = 10014 ∧ 0 < s.2 then (upd s.1 (s.2 - 1) (-(s.1 (s.2 - 1))), s.2)
  else if code = 10013 ∧ 0 < s.2 then (upd s.1 (s.2 - 1) (if s.1 (s.2 - 1) = 0 then 1 else 0), s.2)
  else if 1 < s.2 then (upd s.1 (s.2 - 2) (jnC code (s.1 (s.2 - 2)) (s.1 (s.2 - 1))), s.2 - 1)
  else s
def sRun (named codes : Nat → Int32) (a : Nat) (s : (Nat → Int32) × Nat) : Nat → (Nat → Int32) × Nat
  | 0 => s
  | n + 1 => sStep named (codes (a + n)) (sRun named codes a s n)
def clamp99 (x : Int32) : Int32 := if (0 : Int32) < (if x < (99 : Int32) then x else 99) then (if x < (99 : Int32) then x else 99) else 0
def sFrom (e : Nat → Nat) (part : Nat) : Nat := if part = 0 then 0 else e (part - 1)
/-- what a part of a law says -/
def sayC (codes : Nat → Int32) (e : Nat → Nat) (part : Nat) (stk named : Nat → Int32) : (Nat → Int32) × Nat := sRun named codes (sFrom e part) (upd stk 0 0, 0) (e part - sFrom e part)
abbrev wFill (n : Nat) (f : Nat → Int32) : List va_E :=
  [iA n f]
set_option maxHeartbeats 4000000 in
theorem l_J7_fill_5 {Q : Option Value → List va_E → Prop} {d : Nat} (n : Nat) (f : Nat → Int32) (v : Int32) (hN : n < 1000) (K : WW M_J7_fill_53178 d Q xz 20 [(0, .ref 0), (1, .int v), (2, .int (nI n)), (3, .int (nI n))] [] (wFill n (flF f v n))) :
    ∀ (m i : Nat), i ≤ n → n + 1 ≤ i + m → WW M_J7_fill_53178 d Q xz 5 [(0, .ref 0), (1, .int v), (2, .int (nI i)), (3, .int (nI n))] [] (wFill n (flF f v i)) := by
  intro m
  induction m with
  | zero => intro i; intros; omega
  | succ m ih =>
    intro i hi hn
    refine ww_run 5 2 (pc' := 7) (lv' := [(0, .ref 0), (1, .int v), (2, .int (nI i)), (3, .int (nI n))]) (st' := [.int (nI n), .int (nI i)]) (w' := wFill n (flF f v i)) (Ps := []) rfl trivial ?_
    refine ww_icmp_ge 7 rfl (tgt := 20) rfl (fun c1 => ?_) (fun c1 => ?_)
    · have c1 : n ≤ i := (nI_leI (a := n) (b := i) (by omega) (by omega)).mp c1
      obtain rfl : i = n := by omega
      exact K
    · have c1 : ¬ n ≤ i := fun q => c1 ((nI_leI (a := n) (b := i) (by omega) (by omega)).mpr q)
      refine ww_run 8 6 (pc' := 5) (lv' := [(2, .int ((nI i) + 1)), (0, .ref 0), (1, .int v), (3, .int (nI n))]) (st' := []) (w' := wFill n (upd (flF f v i) ((nI i).toNatClampNeg) v)) (Ps := [vp_in (nI i) n]) rfl ⟨(vp_in_nI (by omega) (by omega)), trivial⟩ ?_
      rw [nI_clamp (n := i) (by omega)]
      rw [nI_1 i]
      refine ww_lv [1, 2, 0, 3] (lv' := [(0, .ref 0), (1, .int v), (2, .int (nI (i + 1))), (3, .int (nI n))]) rfl ?_
      rw [flF_s]
      exact ih (i + 1) (by omega) (by omega)
set_option maxHeartbeats 4000000 in
set_option maxRecDepth 100000 in
theorem c_J7_fill_53178 (n : Nat) (f : Nat → Int32) (v : Int32) (hN : n < 1000) : Co M_J7_fill_53178 0 0 0 [.ref 0, .int v] (wFill n f) (Qv (wFill n (fun _ => v))) := by
  refine Co.of ok_J7_fill_53178 rfl ?_
  refine ww_run 0 5 (pc' := 5) (lv' := [(3, .int (nI n)), (2, .int 0), (0, .ref 0), (1, .int v)]) (st' := []) (w' := wFill n f) (Ps := []) rfl trivial ?_
  refine ww_lv [2, 3, 1, 0] (lv' := [(0, .ref 0), (1, .int v), (2, .int 0), (3, .int (nI n))]) rfl ?_
  have h0 := l_J7_fill_5 (Q := Qv (wFill n (fun _ => v))) (d := 0) n f v hN ?_ (n + 1) 0 (by omega) (by omega)
  · rw [flF_0] at h0
    exact h0
  refine ww_arr 0 (fun _ => v) rfl (fun j hj => by simp [flF, hj]) (w1 := wFill n (fun _ => v)) rfl ?_
  refine ww_vret 14 rfl rfl ?_
  exact ⟨rfl, rfl⟩
set_option maxHeartbeats 4000000 in
set_option maxRecDepth 100000 in
theorem c_X3_joined  (k a b : Int32) : Co M_X3_joined 0 0 0 [.int k, .int a, .int b] (wZero ) (Qi (jnC k a b) wZero ) := by
  refine Co.of ok_X3_joined rfl ?_
  refine ww_run 0 1 (pc' := 1) (lv' := [(0, .int k), (1, .int a), (2, .int b)]) (st' := [.int k]) (w' := wZero ) (Ps := []) rfl trivial ?_
  by_cases q0 : k = 10006
  · refine ww_tabI 1 rfl (by rw [q0]; decide) (by rw [q0]; decide) (off := 39) (by rw [q0]; rfl) (tgt := 40) rfl ?_
    refine ww_run 2 1 (pc' := 41) (lv' := [(0, .int k), (1, .int a), (2, .int b)]) (st' := [.int a]) (w' := wZero ) (Ps := []) rfl trivial ?_
    refine ww_if_ne 3 rfl (tgt := 48) rfl (fun c1 => ?_) (fun c1 => ?_)
    · refine ww_run 6 2 (pc' := 53) (lv' := [(0, .int k), (1, .int a), (2, .int b)]) (st' := [.int 1]) (w' := wZero ) (Ps := []) rfl trivial ?_
      refine ww_iret 9 rfl rfl ?_
      exact ⟨by unfold jnC b2i; grind, rfl⟩
    · refine ww_run 4 1 (pc' := 45) (lv' := [(0, .int k), (1, .int a), (2, .int b)]) (st' := [.int b]) (w' := wZero ) (Ps := []) rfl trivial ?_
      refine ww_if_eq 5 rfl (tgt := 52) rfl (fun c2 => ?_) (fun c2 => ?_)
      · refine ww_run 8 1 (pc' := 53) (lv' := [(0, .int k), (1, .int a), (2, .int b)]) (st' := [.int 0]) (w' := wZero ) (Ps := []) rfl trivial ?_
        refine ww_iret 9 rfl rfl ?_
        exact ⟨by unfold jnC b2i; grind, rfl⟩
      · refine ww_run 6 2 (pc' := 53) (lv' := [(0, .int k), (1, .int a), (2, .int b)]) (st' := [.int 1]) (w' := wZero ) (Ps := []) rfl trivial ?_
        refine ww_iret 9 rfl rfl ?_
        exact ⟨by unfold jnC b2i; grind, rfl⟩
  by_cases q1 : k = 10007
  · refine ww_tabI 1 rfl (by rw [q1]; decide) (by rw [q1]; decide) (off := 53) (by rw [q1]; rfl) (tgt := 54) rfl ?_
    refine ww_run 10 1 (pc' := 55) (lv' := [(0, .int k), (1, .int a), (2, .int b)]) (st' := [.int a]) (w' := wZero ) (Ps := []) rfl trivial ?_
    refine ww_if_eq 11 rfl (tgt := 66) rfl (fun c3 => ?_) (fun c3 => ?_)
    · refine ww_run 16 1 (pc' := 67) (lv' := [(0, .int k), (1, .int a), (2, .int b)]) (st' := [.int 0]) (w' := wZero ) (Ps := []) rfl trivial ?_
      refine ww_iret 17 rfl rfl ?_
      exact ⟨by unfold jnC b2i; grind, rfl⟩
    · refine ww_run 12 1 (pc' := 59) (lv' := [(0, .int k), (1, .int a), (2, .int b)]) (st' := [.int b]) (w' := wZero ) (Ps := []) rfl trivial ?_
      refine ww_if_eq 13 rfl (tgt := 66) rfl (fun c4 => ?_) (fun c4 => ?_)
      · refine ww_run 16 1 (pc' := 67) (lv' := [(0, .int k), (1, .int a), (2, .int b)]) (st' := [.int 0]) (w' := wZero ) (Ps := []) rfl trivial ?_
        refine ww_iret 17 rfl rfl ?_
        exact ⟨by unfold jnC b2i; grind, rfl⟩
      · refine ww_run 14 2 (pc' := 67) (lv' := [(0, .int k), (1, .int a), (2, .int b)]) (st' := [.int 1]) (w' := wZero ) (Ps := []) rfl trivial ?_
        refine ww_iret 17 rfl rfl ?_
        exact ⟨by unfold jnC b2i; grind, rfl⟩
  by_cases q2 : k = 10008
  · refine ww_tabI 1 rfl (by rw [q2]; decide) (by rw [q2]; decide) (off := 67) (by rw [q2]; rfl) (tgt := 68) rfl ?_
    refine ww_run 18 2 (pc' := 70) (lv' := [(0, .int k), (1, .int a), (2, .int b)]) (st' := [.int b, .int a]) (w' := wZero ) (Ps := []) rfl trivial ?_
    refine ww_icmp_ge 20 rfl (tgt := 77) rfl (fun c5 => ?_) (fun c5 => ?_)
    · refine ww_run 23 1 (pc' := 78) (lv' := [(0, .int k), (1, .int a), (2, .int b)]) (st' := [.int 0]) (w' := wZero ) (Ps := []) rfl trivial ?_
      refine ww_iret 24 rfl rfl ?_
      exact ⟨by unfold jnC b2i; grind, rfl⟩
    · refine ww_run 21 2 (pc' := 78) (lv' := [(0, .int k), (1, .int a), (2, .int b)]) (st' := [.int 1]) (w' := wZero ) (Ps := []) rfl trivial ?_
      refine ww_iret 24 rfl rfl ?_
      exact ⟨by unfold jnC b2i; grind, rfl⟩
  by_cases q3 : k = 10009
  · refine ww_tabI 1 rfl (by rw [q3]; decide) (by rw [q3]; decide) (off := 78) (by rw [q3]; rfl) (tgt := 79) rfl ?_
    refine ww_run 25 2 (pc' := 81) (lv' := [(0, .int k), (1, .int a), (2, .int b)]) (st' := [.int b, .int a]) (w' := wZero ) (Ps := []) rfl trivial ?_
    refine ww_icmp_ne 27 rfl (tgt := 88) rfl (fun c6 => ?_) (fun c6 => ?_)
    · refine ww_run 30 1 (pc' := 89) (lv' := [(0, .int k), (1, .int a), (2, .int b)]) (st' := [.int 0]) (w' := wZero ) (Ps := []) rfl trivial ?_
      refine ww_iret 31 rfl rfl ?_
      exact ⟨by unfold jnC b2i; grind, rfl⟩
    · refine ww_run 28 2 (pc' := 89) (lv' := [(0, .int k), (1, .int a), (2, .int b)]) (st' := [.int 1]) (w' := wZero ) (Ps := []) rfl trivial ?_
      refine ww_iret 31 rfl rfl ?_
      exact ⟨by unfold jnC b2i; grind, rfl⟩
  by_cases q4 : k = 10010
  · refine ww_tabI 1 rfl (by rw [q4]; decide) (by rw [q4]; decide) (off := 89) (by rw [q4]; rfl) (tgt := 90) rfl ?_
    refine ww_run 32 3 (pc' := 93) (lv' := [(0, .int k), (1, .int a), (2, .int b)]) (st' := [.int (a + b)]) (w' := wZero ) (Ps := []) rfl trivial ?_
    refine ww_iret 35 rfl rfl ?_
    exact ⟨by unfold jnC b2i; grind, rfl⟩
  by_cases q5 : k = 10011
  · refine ww_tabI 1 rfl (by rw [q5]; decide) (by rw [q5]; decide) (off := 93) (by rw [q5]; rfl) (tgt := 94) rfl ?_
    refine ww_run 36 3 (pc' := 97) (lv' := [(0, .int k), (1, .int a), (2, .int b)]) (st' := [.int (a - b)]) (w' := wZero ) (Ps := []) rfl trivial ?_
    refine ww_iret 39 rfl rfl ?_
    exact ⟨by unfold jnC b2i; grind, rfl⟩
  refine ww_tabO 1 rfl (by have z0 := lv_neT q0 (a := 10006) rfl; have z1 := lv_neT q1 (a := 10007) rfl; have z2 := lv_neT q2 (a := 10008) rfl; have z3 := lv_neT q3 (a := 10009) rfl; have z4 := lv_neT q4 (a := 10010) rfl; have z5 := lv_neT q5 (a := 10011) rfl; omega) (tgt := 98) rfl ?_
  refine ww_run 40 3 (pc' := 101) (lv' := [(0, .int k), (1, .int a), (2, .int b)]) (st' := [.int (a * b)]) (w' := wZero ) (Ps := []) rfl trivial ?_
  refine ww_iret 43 rfl rfl ?_
  exact ⟨by unfold jnC b2i; grind, rfl⟩
theorem sub10 {x : Int32} (h0 : 10000 ≤ x) (h1 : ¬ 10006 ≤ x) : 0 ≤ (x - 10000).toInt ∧ (x - 10000).toInt < 6 := by
  have a1 : (10000 : Int) ≤ x.toInt := Int32.le_iff_toInt_le.mp h0
  have a2 : x.toInt < 10006 := Int32.lt_iff_toInt_lt.mp (Int32.not_le.mp h1)
  rw [Int32.toInt_sub, Int.bmod_def, show (10000 : Int32).toInt = 10000 from rfl]
  omega
theorem sFrom_le {e : Nat → Nat} (h01 : e 0 ≤ e 1) (h12 : e 1 ≤ e 2) {part : Nat} (h : part < 3) : sFrom e part ≤ e part := by
  rcases part with _ | _ | _ | p
  · exact Nat.zero_le _
  · exact h01
  · exact h12
  · omega
theorem e_le {e : Nat → Nat} {nc : Nat} (h01 : e 0 ≤ e 1) (h12 : e 1 ≤ e 2) (h2n : e 2 ≤ nc) {part : Nat} (h : part < 3) : e part ≤ nc := by
  rcases part with _ | _ | _ | p
  · omega
  · show e 1 ≤ nc
    omega
  · exact h2n
  · omega
set_option maxHeartbeats 4000000 in
set_option maxRecDepth 100000 in
theorem l_X3_says_27 {Q : Option Value → List va_E → Prop} {d : Nat} (hd : 1 ≤ d) (nc : Nat) (codes ends stk names : Nat → Int32) (part : Nat) (e : Nat → Nat) (hpart : part < 3) (hnc : nc < 1000) (he : ∀ j, j < 3 → ends j = nI (e j)) (h01 : e 0 ≤ e 1) (h12 : e 1 ≤ e 2) (h2n : e 2 ≤ nc) (hA : sFrom e part ≤ e part) (hE : e part ≤ nc) (K : ∀ (sk : Nat → Int32) (t : Nat), t ≤ 40 → sayC codes e part stk names = (sk, t) → WW M_X3_says d Q xz 206 [(0, .ref 0), (1, .int (nI part)), (2, .ref 4), (3, .int (nI t)), (4, .int (nI (e part)))] [] (wLaw nc codes ends sk names)) :
    ∀ (n i : Nat) (sk : Nat → Int32) (t : Nat), i ≤ e part → e part + 1 ≤ i + n → sFrom e part ≤ i → t ≤ 40 → sRun names codes (sFrom e part) (upd stk 0 0, 0) (i - sFrom e part) = (sk, t) → WW M_X3_says d Q xz 27 [(0, .ref 0), (1, .int (nI part)), (2, .ref 4), (3, .int (nI t)), (4, .int (nI i))] [] (wLaw nc codes ends sk names) := by
  intro n
  induction n with
  | zero => intro i; intros; omega
  | succ n ih =>
    intro i sk t hi hn hAi ht hs
    refine ww_run 18 5 (pc' := 35) (lv' := [(0, .ref 0), (1, .int (nI part)), (2, .ref 4), (3, .int (nI t)), (4, .int (nI i))]) (st' := [.int (ends (nI part).toNatClampNeg), .int (nI i)]) (w' := wLaw nc codes ends sk names) (Ps := [vp_in (nI part) 3]) rfl ⟨(vp_in_nI (by omega) (by omega)), trivial⟩ ?_
    rw [nI_clamp (n := part) (by omega)]
    rw [he part hpart]
    refine ww_icmp_ge 23 rfl (tgt := 206) rfl (fun c1 => ?_) (fun c1 => ?_)
    · have c1 : e part ≤ i := (nI_leI (a := (e part)) (b := i) (by omega) (by omega)).mp c1
      have hie : i = e part := by omega
      subst hie
      exact K sk t ht hs
    · have c1 : ¬ e part ≤ i := fun q => c1 ((nI_leI (a := (e part)) (b := i) (by omega) (by omega)).mpr q)
      refine ww_run 24 7 (pc' := 52) (lv' := [(5, .int (codes (nI i).toNatClampNeg)), (0, .ref 0), (1, .int (nI part)), (2, .ref 4), (3, .int (nI t)), (4, .int (nI i))]) (st' := [.int 10006, .int (codes (nI i).toNatClampNeg)]) (w' := wLaw nc codes ends sk names) (Ps := [vp_in (nI i) nc]) rfl ⟨(vp_in_nI (by omega) (by omega)), trivial⟩ ?_
      rw [nI_clamp (n := i) (by omega)]
      refine ww_icmp_ge 31 rfl (tgt := 94) rfl (fun c2 => ?_) (fun c2 => ?_)
      · refine ww_run 51 2 (pc' := 99) (lv' := [(5, .int (codes i)), (0, .ref 0), (1, .int (nI part)), (2, .ref 4), (3, .int (nI t)), (4, .int (nI i))]) (st' := [.int 10014, .int (codes i)]) (w' := wLaw nc codes ends sk names) (Ps := []) rfl trivial ?_
        refine ww_icmp_ne 53 rfl (tgt := 126) rfl (fun c3 => ?_) (fun c3 => ?_)
        · refine ww_run 70 2 (pc' := 131) (lv' := [(5, .int (codes i)), (0, .ref 0), (1, .int (nI part)), (2, .ref 4), (3, .int (nI t)), (4, .int (nI i))]) (st' := [.int 10013, .int (codes i)]) (w' := wLaw nc codes ends sk names) (Ps := []) rfl trivial ?_
          refine ww_icmp_ne 72 rfl (tgt := 165) rfl (fun c4 => ?_) (fun c4 => ?_)
          · refine ww_run 92 2 (pc' := 167) (lv' := [(5, .int (codes i)), (0, .ref 0), (1, .int (nI part)), (2, .ref 4), (3, .int (nI t)), (4, .int (nI i))]) (st' := [.int 1, .int (nI t)]) (w' := wLaw nc codes ends sk names) (Ps := []) rfl trivial ?_
            refine ww_icmp_le 94 rfl (tgt := 200) rfl (fun c5 => ?_) (fun c5 => ?_)
            · have c5 : t ≤ 1 := (nI_leI (a := t) (b := 1) (by omega) (by omega)).mp c5
              refine ww_run 114 2 (pc' := 27) (lv' := [(4, .int ((nI i) + 1)), (5, .int (codes i)), (0, .ref 0), (1, .int (nI part)), (2, .ref 4), (3, .int (nI t))]) (st' := []) (w' := wLaw nc codes ends sk names) (Ps := []) rfl trivial ?_
              rw [nI_1 i]
              refine ww_lv [2, 3, 4, 5, 0] (lv' := [(0, .ref 0), (1, .int (nI part)), (2, .ref 4), (3, .int (nI t)), (4, .int (nI (i + 1)))]) rfl ?_
              refine ih (i + 1) sk t (by omega) (by omega) (by omega) (by omega) ?_
              rw [show i + 1 - sFrom e part = (i - sFrom e part) + 1 by omega]
              show sStep names (codes (sFrom e part + (i - sFrom e part))) (sRun names codes (sFrom e part) (upd stk 0 0, 0) (i - sFrom e part)) = _
              rw [hs, show sFrom e part + (i - sFrom e part) = i by omega]
              unfold sStep
              simp only
              grind
            · have c5 : ¬ t ≤ 1 := fun q => c5 ((nI_leI (a := t) (b := 1) (by omega) (by omega)).mpr q)
              obtain ⟨u, rfl⟩ : ∃ u, t = u + 1 + 1 := ⟨t - 2, by omega⟩
              refine ww_run 95 17 (pc' := 196) (lv' := [(3, .int ((nI (u + 1 + 1)) + (-1))), (5, .int (codes i)), (0, .ref 0), (1, .int (nI part)), (2, .ref 4), (4, .int (nI i))]) (st' := [.int (sk ((nI (u + 1 + 1)) + (-1)).toNatClampNeg), .int (sk (((nI (u + 1 + 1)) + (-1)) - 1).toNatClampNeg), .int (codes i), .int (((nI (u + 1 + 1)) + (-1)) - 1), .ref 3]) (w' := wLaw nc codes ends sk names) (Ps := [vp_in (((nI (u + 1 + 1)) + (-1)) - 1) 40, vp_in ((nI (u + 1 + 1)) + (-1)) 40]) rfl ⟨(by rw [pk_m1 (u + 1), nI_pred u]; exact vp_in_nI (by omega) (by omega)), (by rw [pk_m1 (u + 1)]; exact vp_in_nI (by omega) (by omega)), trivial⟩ ?_
              rw [pk_m1 (u + 1)]
              rw [nI_clamp (n := (u + 1)) (by omega)]
              rw [nI_pred u]
              rw [nI_clamp (n := u) (by omega)]
              refine ww_cSi 112 ok_X3_joined (Co.fr0 (c_X3_joined (codes i) (sk u) (sk (u + 1))) rfl) lk_X3_21 rfl (by omega) (rest := [.int (nI u), .ref 3]) rfl (Nat.le_of_ble_eq_true rfl) rfl ?_
              refine ww_run 113 3 (pc' := 27) (lv' := [(4, .int ((nI i) + 1)), (3, .int (nI (u + 1))), (5, .int (codes i)), (0, .ref 0), (1, .int (nI part)), (2, .ref 4)]) (st' := []) (w' := wLaw nc codes ends (upd sk ((nI u).toNatClampNeg) (jnC (codes i) (sk u) (sk (u + 1)))) names) (Ps := [vp_in (nI u) 40]) rfl ⟨(vp_in_nI (by omega) (by omega)), trivial⟩ ?_
              rw [nI_clamp (n := u) (by omega)]
              rw [nI_1 i]
              refine ww_lv [3, 4, 5, 1, 0] (lv' := [(0, .ref 0), (1, .int (nI part)), (2, .ref 4), (3, .int (nI (u + 1))), (4, .int (nI (i + 1)))]) rfl ?_
              refine ih (i + 1) (upd sk (u) (jnC (codes i) (sk u) (sk (u + 1)))) (u + 1) (by omega) (by omega) (by omega) (by omega) ?_
              rw [show i + 1 - sFrom e part = (i - sFrom e part) + 1 by omega]
              show sStep names (codes (sFrom e part + (i - sFrom e part))) (sRun names codes (sFrom e part) (upd stk 0 0, 0) (i - sFrom e part)) = _
              rw [hs, show sFrom e part + (i - sFrom e part) = i by omega]
              unfold sStep
              simp only
              grind
          · refine ww_run 73 1 (pc' := 135) (lv' := [(5, .int (codes i)), (0, .ref 0), (1, .int (nI part)), (2, .ref 4), (3, .int (nI t)), (4, .int (nI i))]) (st' := [.int (nI t)]) (w' := wLaw nc codes ends sk names) (Ps := []) rfl trivial ?_
            refine ww_if_le 74 rfl (tgt := 165) rfl (fun c6 => ?_) (fun c6 => ?_)
            · have c6 : t ≤ 0 := (nI_leI (a := t) (b := 0) (by omega) (by omega)).mp c6
              refine ww_run 92 2 (pc' := 167) (lv' := [(5, .int (codes i)), (0, .ref 0), (1, .int (nI part)), (2, .ref 4), (3, .int (nI t)), (4, .int (nI i))]) (st' := [.int 1, .int (nI t)]) (w' := wLaw nc codes ends sk names) (Ps := []) rfl trivial ?_
              refine ww_icmp_le 94 rfl (tgt := 200) rfl (fun c7 => ?_) (fun c7 => ?_)
              · have c7 : t ≤ 1 := (nI_leI (a := t) (b := 1) (by omega) (by omega)).mp c7
                refine ww_run 114 2 (pc' := 27) (lv' := [(4, .int ((nI i) + 1)), (5, .int (codes i)), (0, .ref 0), (1, .int (nI part)), (2, .ref 4), (3, .int (nI t))]) (st' := []) (w' := wLaw nc codes ends sk names) (Ps := []) rfl trivial ?_
                rw [nI_1 i]
                refine ww_lv [2, 3, 4, 5, 0] (lv' := [(0, .ref 0), (1, .int (nI part)), (2, .ref 4), (3, .int (nI t)), (4, .int (nI (i + 1)))]) rfl ?_
                refine ih (i + 1) sk t (by omega) (by omega) (by omega) (by omega) ?_
                rw [show i + 1 - sFrom e part = (i - sFrom e part) + 1 by omega]
                show sStep names (codes (sFrom e part + (i - sFrom e part))) (sRun names codes (sFrom e part) (upd stk 0 0, 0) (i - sFrom e part)) = _
                rw [hs, show sFrom e part + (i - sFrom e part) = i by omega]
                unfold sStep
                simp only
                grind
              · have c7 : ¬ t ≤ 1 := fun q => c7 ((nI_leI (a := t) (b := 1) (by omega) (by omega)).mpr q)
                obtain ⟨u, rfl⟩ : ∃ u, t = u + 1 + 1 := ⟨t - 2, by omega⟩
                refine ww_run 95 17 (pc' := 196) (lv' := [(3, .int ((nI (u + 1 + 1)) + (-1))), (5, .int (codes i)), (0, .ref 0), (1, .int (nI part)), (2, .ref 4), (4, .int (nI i))]) (st' := [.int (sk ((nI (u + 1 + 1)) + (-1)).toNatClampNeg), .int (sk (((nI (u + 1 + 1)) + (-1)) - 1).toNatClampNeg), .int (codes i), .int (((nI (u + 1 + 1)) + (-1)) - 1), .ref 3]) (w' := wLaw nc codes ends sk names) (Ps := [vp_in (((nI (u + 1 + 1)) + (-1)) - 1) 40, vp_in ((nI (u + 1 + 1)) + (-1)) 40]) rfl ⟨(by rw [pk_m1 (u + 1), nI_pred u]; exact vp_in_nI (by omega) (by omega)), (by rw [pk_m1 (u + 1)]; exact vp_in_nI (by omega) (by omega)), trivial⟩ ?_
                rw [pk_m1 (u + 1)]
                rw [nI_clamp (n := (u + 1)) (by omega)]
                rw [nI_pred u]
                rw [nI_clamp (n := u) (by omega)]
                refine ww_cSi 112 ok_X3_joined (Co.fr0 (c_X3_joined (codes i) (sk u) (sk (u + 1))) rfl) lk_X3_21 rfl (by omega) (rest := [.int (nI u), .ref 3]) rfl (Nat.le_of_ble_eq_true rfl) rfl ?_
                refine ww_run 113 3 (pc' := 27) (lv' := [(4, .int ((nI i) + 1)), (3, .int (nI (u + 1))), (5, .int (codes i)), (0, .ref 0), (1, .int (nI part)), (2, .ref 4)]) (st' := []) (w' := wLaw nc codes ends (upd sk ((nI u).toNatClampNeg) (jnC (codes i) (sk u) (sk (u + 1)))) names) (Ps := [vp_in (nI u) 40]) rfl ⟨(vp_in_nI (by omega) (by omega)), trivial⟩ ?_
                rw [nI_clamp (n := u) (by omega)]
                rw [nI_1 i]
                refine ww_lv [3, 4, 5, 1, 0] (lv' := [(0, .ref 0), (1, .int (nI part)), (2, .ref 4), (3, .int (nI (u + 1))), (4, .int (nI (i + 1)))]) rfl ?_
                refine ih (i + 1) (upd sk (u) (jnC (codes i) (sk u) (sk (u + 1)))) (u + 1) (by omega) (by omega) (by omega) (by omega) ?_
                rw [show i + 1 - sFrom e part = (i - sFrom e part) + 1 by omega]
                show sStep names (codes (sFrom e part + (i - sFrom e part))) (sRun names codes (sFrom e part) (upd stk 0 0, 0) (i - sFrom e part)) = _
                rw [hs, show sFrom e part + (i - sFrom e part) = i by omega]
                unfold sStep
                simp only
                grind
            · have c6 : ¬ t ≤ 0 := fun q => c6 ((nI_leI (a := t) (b := 0) (by omega) (by omega)).mpr q)
              obtain ⟨u, rfl⟩ : ∃ u, t = u + 1 := ⟨t - 1, by omega⟩
              refine ww_run 75 11 (pc' := 153) (lv' := [(5, .int (codes i)), (0, .ref 0), (1, .int (nI part)), (2, .ref 4), (3, .int (nI (u + 1))), (4, .int (nI i))]) (st' := [.int (sk ((nI (u + 1)) - 1).toNatClampNeg), .int ((nI (u + 1)) - 1), .ref 3]) (w' := wLaw nc codes ends sk names) (Ps := [vp_in ((nI (u + 1)) - 1) 40]) rfl ⟨(by rw [nI_pred u]; exact vp_in_nI (by omega) (by omega)), trivial⟩ ?_
              rw [nI_pred u]
              rw [nI_clamp (n := u) (by omega)]
              refine ww_if_ne 86 rfl (tgt := 160) rfl (fun c8 => ?_) (fun c8 => ?_)
              · refine ww_run 89 3 (pc' := 200) (lv' := [(5, .int (codes i)), (0, .ref 0), (1, .int (nI part)), (2, .ref 4), (3, .int (nI (u + 1))), (4, .int (nI i))]) (st' := []) (w' := wLaw nc codes ends (upd sk ((nI u).toNatClampNeg) 0) names) (Ps := [vp_in (nI u) 40]) rfl ⟨(vp_in_nI (by omega) (by omega)), trivial⟩ ?_
                rw [nI_clamp (n := u) (by omega)]
                refine ww_run 114 2 (pc' := 27) (lv' := [(4, .int ((nI i) + 1)), (5, .int (codes i)), (0, .ref 0), (1, .int (nI part)), (2, .ref 4), (3, .int (nI (u + 1)))]) (st' := []) (w' := wLaw nc codes ends (upd sk (u) 0) names) (Ps := []) rfl trivial ?_
                rw [nI_1 i]
                refine ww_lv [2, 3, 4, 5, 0] (lv' := [(0, .ref 0), (1, .int (nI part)), (2, .ref 4), (3, .int (nI (u + 1))), (4, .int (nI (i + 1)))]) rfl ?_
                refine ih (i + 1) (upd sk (u) 0) (u + 1) (by omega) (by omega) (by omega) (by omega) ?_
                rw [show i + 1 - sFrom e part = (i - sFrom e part) + 1 by omega]
                show sStep names (codes (sFrom e part + (i - sFrom e part))) (sRun names codes (sFrom e part) (upd stk 0 0, 0) (i - sFrom e part)) = _
                rw [hs, show sFrom e part + (i - sFrom e part) = i by omega]
                unfold sStep
                simp only
                grind
              · refine ww_run 87 2 (pc' := 161) (lv' := [(5, .int (codes i)), (0, .ref 0), (1, .int (nI part)), (2, .ref 4), (3, .int (nI (u + 1))), (4, .int (nI i))]) (st' := [.int 1, .int (nI u), .ref 3]) (w' := wLaw nc codes ends sk names) (Ps := []) rfl trivial ?_
                refine ww_run 90 2 (pc' := 200) (lv' := [(5, .int (codes i)), (0, .ref 0), (1, .int (nI part)), (2, .ref 4), (3, .int (nI (u + 1))), (4, .int (nI i))]) (st' := []) (w' := wLaw nc codes ends (upd sk ((nI u).toNatClampNeg) 1) names) (Ps := [vp_in (nI u) 40]) rfl ⟨(vp_in_nI (by omega) (by omega)), trivial⟩ ?_
                rw [nI_clamp (n := u) (by omega)]
                refine ww_run 114 2 (pc' := 27) (lv' := [(4, .int ((nI i) + 1)), (5, .int (codes i)), (0, .ref 0), (1, .int (nI part)), (2, .ref 4), (3, .int (nI (u + 1)))]) (st' := []) (w' := wLaw nc codes ends (upd sk (u) 1) names) (Ps := []) rfl trivial ?_
                rw [nI_1 i]
                refine ww_lv [2, 3, 4, 5, 0] (lv' := [(0, .ref 0), (1, .int (nI part)), (2, .ref 4), (3, .int (nI (u + 1))), (4, .int (nI (i + 1)))]) rfl ?_
                refine ih (i + 1) (upd sk (u) 1) (u + 1) (by omega) (by omega) (by omega) (by omega) ?_
                rw [show i + 1 - sFrom e part = (i - sFrom e part) + 1 by omega]
                show sStep names (codes (sFrom e part + (i - sFrom e part))) (sRun names codes (sFrom e part) (upd stk 0 0, 0) (i - sFrom e part)) = _
                rw [hs, show sFrom e part + (i - sFrom e part) = i by omega]
                unfold sStep
                simp only
                grind
        · refine ww_run 54 1 (pc' := 103) (lv' := [(5, .int (codes i)), (0, .ref 0), (1, .int (nI part)), (2, .ref 4), (3, .int (nI t)), (4, .int (nI i))]) (st' := [.int (nI t)]) (w' := wLaw nc codes ends sk names) (Ps := []) rfl trivial ?_
          refine ww_if_le 55 rfl (tgt := 126) rfl (fun c9 => ?_) (fun c9 => ?_)
          · have c9 : t ≤ 0 := (nI_leI (a := t) (b := 0) (by omega) (by omega)).mp c9
            refine ww_run 70 2 (pc' := 131) (lv' := [(5, .int (codes i)), (0, .ref 0), (1, .int (nI part)), (2, .ref 4), (3, .int (nI t)), (4, .int (nI i))]) (st' := [.int 10013, .int (codes i)]) (w' := wLaw nc codes ends sk names) (Ps := []) rfl trivial ?_
            refine ww_icmp_ne 72 rfl (tgt := 165) rfl (fun c10 => ?_) (fun c10 => ?_)
            · refine ww_run 92 2 (pc' := 167) (lv' := [(5, .int (codes i)), (0, .ref 0), (1, .int (nI part)), (2, .ref 4), (3, .int (nI t)), (4, .int (nI i))]) (st' := [.int 1, .int (nI t)]) (w' := wLaw nc codes ends sk names) (Ps := []) rfl trivial ?_
              refine ww_icmp_le 94 rfl (tgt := 200) rfl (fun c11 => ?_) (fun c11 => ?_)
              · have c11 : t ≤ 1 := (nI_leI (a := t) (b := 1) (by omega) (by omega)).mp c11
                refine ww_run 114 2 (pc' := 27) (lv' := [(4, .int ((nI i) + 1)), (5, .int (codes i)), (0, .ref 0), (1, .int (nI part)), (2, .ref 4), (3, .int (nI t))]) (st' := []) (w' := wLaw nc codes ends sk names) (Ps := []) rfl trivial ?_
                rw [nI_1 i]
                refine ww_lv [2, 3, 4, 5, 0] (lv' := [(0, .ref 0), (1, .int (nI part)), (2, .ref 4), (3, .int (nI t)), (4, .int (nI (i + 1)))]) rfl ?_
                refine ih (i + 1) sk t (by omega) (by omega) (by omega) (by omega) ?_
                rw [show i + 1 - sFrom e part = (i - sFrom e part) + 1 by omega]
                show sStep names (codes (sFrom e part + (i - sFrom e part))) (sRun names codes (sFrom e part) (upd stk 0 0, 0) (i - sFrom e part)) = _
                rw [hs, show sFrom e part + (i - sFrom e part) = i by omega]
                unfold sStep
                simp only
                grind
              · have c11 : ¬ t ≤ 1 := fun q => c11 ((nI_leI (a := t) (b := 1) (by omega) (by omega)).mpr q)
                obtain ⟨u, rfl⟩ : ∃ u, t = u + 1 + 1 := ⟨t - 2, by omega⟩
                refine ww_run 95 17 (pc' := 196) (lv' := [(3, .int ((nI (u + 1 + 1)) + (-1))), (5, .int (codes i)), (0, .ref 0), (1, .int (nI part)), (2, .ref 4), (4, .int (nI i))]) (st' := [.int (sk ((nI (u + 1 + 1)) + (-1)).toNatClampNeg), .int (sk (((nI (u + 1 + 1)) + (-1)) - 1).toNatClampNeg), .int (codes i), .int (((nI (u + 1 + 1)) + (-1)) - 1), .ref 3]) (w' := wLaw nc codes ends sk names) (Ps := [vp_in (((nI (u + 1 + 1)) + (-1)) - 1) 40, vp_in ((nI (u + 1 + 1)) + (-1)) 40]) rfl ⟨(by rw [pk_m1 (u + 1), nI_pred u]; exact vp_in_nI (by omega) (by omega)), (by rw [pk_m1 (u + 1)]; exact vp_in_nI (by omega) (by omega)), trivial⟩ ?_
                rw [pk_m1 (u + 1)]
                rw [nI_clamp (n := (u + 1)) (by omega)]
                rw [nI_pred u]
                rw [nI_clamp (n := u) (by omega)]
                refine ww_cSi 112 ok_X3_joined (Co.fr0 (c_X3_joined (codes i) (sk u) (sk (u + 1))) rfl) lk_X3_21 rfl (by omega) (rest := [.int (nI u), .ref 3]) rfl (Nat.le_of_ble_eq_true rfl) rfl ?_
                refine ww_run 113 3 (pc' := 27) (lv' := [(4, .int ((nI i) + 1)), (3, .int (nI (u + 1))), (5, .int (codes i)), (0, .ref 0), (1, .int (nI part)), (2, .ref 4)]) (st' := []) (w' := wLaw nc codes ends (upd sk ((nI u).toNatClampNeg) (jnC (codes i) (sk u) (sk (u + 1)))) names) (Ps := [vp_in (nI u) 40]) rfl ⟨(vp_in_nI (by omega) (by omega)), trivial⟩ ?_
                rw [nI_clamp (n := u) (by omega)]
                rw [nI_1 i]
                refine ww_lv [3, 4, 5, 1, 0] (lv' := [(0, .ref 0), (1, .int (nI part)), (2, .ref 4), (3, .int (nI (u + 1))), (4, .int (nI (i + 1)))]) rfl ?_
                refine ih (i + 1) (upd sk (u) (jnC (codes i) (sk u) (sk (u + 1)))) (u + 1) (by omega) (by omega) (by omega) (by omega) ?_
                rw [show i + 1 - sFrom e part = (i - sFrom e part) + 1 by omega]
                show sStep names (codes (sFrom e part + (i - sFrom e part))) (sRun names codes (sFrom e part) (upd stk 0 0, 0) (i - sFrom e part)) = _
                rw [hs, show sFrom e part + (i - sFrom e part) = i by omega]
                unfold sStep
                simp only
                grind
            · refine ww_run 73 1 (pc' := 135) (lv' := [(5, .int (codes i)), (0, .ref 0), (1, .int (nI part)), (2, .ref 4), (3, .int (nI t)), (4, .int (nI i))]) (st' := [.int (nI t)]) (w' := wLaw nc codes ends sk names) (Ps := []) rfl trivial ?_
              refine ww_if_le 74 rfl (tgt := 165) rfl (fun c12 => ?_) (fun c12 => ?_)
              · have c12 : t ≤ 0 := (nI_leI (a := t) (b := 0) (by omega) (by omega)).mp c12
                refine ww_run 92 2 (pc' := 167) (lv' := [(5, .int (codes i)), (0, .ref 0), (1, .int (nI part)), (2, .ref 4), (3, .int (nI t)), (4, .int (nI i))]) (st' := [.int 1, .int (nI t)]) (w' := wLaw nc codes ends sk names) (Ps := []) rfl trivial ?_
                refine ww_icmp_le 94 rfl (tgt := 200) rfl (fun c13 => ?_) (fun c13 => ?_)
                · have c13 : t ≤ 1 := (nI_leI (a := t) (b := 1) (by omega) (by omega)).mp c13
                  refine ww_run 114 2 (pc' := 27) (lv' := [(4, .int ((nI i) + 1)), (5, .int (codes i)), (0, .ref 0), (1, .int (nI part)), (2, .ref 4), (3, .int (nI t))]) (st' := []) (w' := wLaw nc codes ends sk names) (Ps := []) rfl trivial ?_
                  rw [nI_1 i]
                  refine ww_lv [2, 3, 4, 5, 0] (lv' := [(0, .ref 0), (1, .int (nI part)), (2, .ref 4), (3, .int (nI t)), (4, .int (nI (i + 1)))]) rfl ?_
                  refine ih (i + 1) sk t (by omega) (by omega) (by omega) (by omega) ?_
                  rw [show i + 1 - sFrom e part = (i - sFrom e part) + 1 by omega]
                  show sStep names (codes (sFrom e part + (i - sFrom e part))) (sRun names codes (sFrom e part) (upd stk 0 0, 0) (i - sFrom e part)) = _
                  rw [hs, show sFrom e part + (i - sFrom e part) = i by omega]
                  unfold sStep
                  simp only
                  grind
                · have c13 : ¬ t ≤ 1 := fun q => c13 ((nI_leI (a := t) (b := 1) (by omega) (by omega)).mpr q)
                  obtain ⟨u, rfl⟩ : ∃ u, t = u + 1 + 1 := ⟨t - 2, by omega⟩
                  refine ww_run 95 17 (pc' := 196) (lv' := [(3, .int ((nI (u + 1 + 1)) + (-1))), (5, .int (codes i)), (0, .ref 0), (1, .int (nI part)), (2, .ref 4), (4, .int (nI i))]) (st' := [.int (sk ((nI (u + 1 + 1)) + (-1)).toNatClampNeg), .int (sk (((nI (u + 1 + 1)) + (-1)) - 1).toNatClampNeg), .int (codes i), .int (((nI (u + 1 + 1)) + (-1)) - 1), .ref 3]) (w' := wLaw nc codes ends sk names) (Ps := [vp_in (((nI (u + 1 + 1)) + (-1)) - 1) 40, vp_in ((nI (u + 1 + 1)) + (-1)) 40]) rfl ⟨(by rw [pk_m1 (u + 1), nI_pred u]; exact vp_in_nI (by omega) (by omega)), (by rw [pk_m1 (u + 1)]; exact vp_in_nI (by omega) (by omega)), trivial⟩ ?_
                  rw [pk_m1 (u + 1)]
                  rw [nI_clamp (n := (u + 1)) (by omega)]
                  rw [nI_pred u]
                  rw [nI_clamp (n := u) (by omega)]
                  refine ww_cSi 112 ok_X3_joined (Co.fr0 (c_X3_joined (codes i) (sk u) (sk (u + 1))) rfl) lk_X3_21 rfl (by omega) (rest := [.int (nI u), .ref 3]) rfl (Nat.le_of_ble_eq_true rfl) rfl ?_
                  refine ww_run 113 3 (pc' := 27) (lv' := [(4, .int ((nI i) + 1)), (3, .int (nI (u + 1))), (5, .int (codes i)), (0, .ref 0), (1, .int (nI part)), (2, .ref 4)]) (st' := []) (w' := wLaw nc codes ends (upd sk ((nI u).toNatClampNeg) (jnC (codes i) (sk u) (sk (u + 1)))) names) (Ps := [vp_in (nI u) 40]) rfl ⟨(vp_in_nI (by omega) (by omega)), trivial⟩ ?_
                  rw [nI_clamp (n := u) (by omega)]
                  rw [nI_1 i]
                  refine ww_lv [3, 4, 5, 1, 0] (lv' := [(0, .ref 0), (1, .int (nI part)), (2, .ref 4), (3, .int (nI (u + 1))), (4, .int (nI (i + 1)))]) rfl ?_
                  refine ih (i + 1) (upd sk (u) (jnC (codes i) (sk u) (sk (u + 1)))) (u + 1) (by omega) (by omega) (by omega) (by omega) ?_
                  rw [show i + 1 - sFrom e part = (i - sFrom e part) + 1 by omega]
                  show sStep names (codes (sFrom e part + (i - sFrom e part))) (sRun names codes (sFrom e part) (upd stk 0 0, 0) (i - sFrom e part)) = _
                  rw [hs, show sFrom e part + (i - sFrom e part) = i by omega]
                  unfold sStep
                  simp only
                  grind
              · have c12 : ¬ t ≤ 0 := fun q => c12 ((nI_leI (a := t) (b := 0) (by omega) (by omega)).mpr q)
                obtain ⟨u, rfl⟩ : ∃ u, t = u + 1 := ⟨t - 1, by omega⟩
                refine ww_run 75 11 (pc' := 153) (lv' := [(5, .int (codes i)), (0, .ref 0), (1, .int (nI part)), (2, .ref 4), (3, .int (nI (u + 1))), (4, .int (nI i))]) (st' := [.int (sk ((nI (u + 1)) - 1).toNatClampNeg), .int ((nI (u + 1)) - 1), .ref 3]) (w' := wLaw nc codes ends sk names) (Ps := [vp_in ((nI (u + 1)) - 1) 40]) rfl ⟨(by rw [nI_pred u]; exact vp_in_nI (by omega) (by omega)), trivial⟩ ?_
                rw [nI_pred u]
                rw [nI_clamp (n := u) (by omega)]
                refine ww_if_ne 86 rfl (tgt := 160) rfl (fun c14 => ?_) (fun c14 => ?_)
                · refine ww_run 89 3 (pc' := 200) (lv' := [(5, .int (codes i)), (0, .ref 0), (1, .int (nI part)), (2, .ref 4), (3, .int (nI (u + 1))), (4, .int (nI i))]) (st' := []) (w' := wLaw nc codes ends (upd sk ((nI u).toNatClampNeg) 0) names) (Ps := [vp_in (nI u) 40]) rfl ⟨(vp_in_nI (by omega) (by omega)), trivial⟩ ?_
                  rw [nI_clamp (n := u) (by omega)]
                  refine ww_run 114 2 (pc' := 27) (lv' := [(4, .int ((nI i) + 1)), (5, .int (codes i)), (0, .ref 0), (1, .int (nI part)), (2, .ref 4), (3, .int (nI (u + 1)))]) (st' := []) (w' := wLaw nc codes ends (upd sk (u) 0) names) (Ps := []) rfl trivial ?_
                  rw [nI_1 i]
                  refine ww_lv [2, 3, 4, 5, 0] (lv' := [(0, .ref 0), (1, .int (nI part)), (2, .ref 4), (3, .int (nI (u + 1))), (4, .int (nI (i + 1)))]) rfl ?_
                  refine ih (i + 1) (upd sk (u) 0) (u + 1) (by omega) (by omega) (by omega) (by omega) ?_
                  rw [show i + 1 - sFrom e part = (i - sFrom e part) + 1 by omega]
                  show sStep names (codes (sFrom e part + (i - sFrom e part))) (sRun names codes (sFrom e part) (upd stk 0 0, 0) (i - sFrom e part)) = _
                  rw [hs, show sFrom e part + (i - sFrom e part) = i by omega]
                  unfold sStep
                  simp only
                  grind
                · refine ww_run 87 2 (pc' := 161) (lv' := [(5, .int (codes i)), (0, .ref 0), (1, .int (nI part)), (2, .ref 4), (3, .int (nI (u + 1))), (4, .int (nI i))]) (st' := [.int 1, .int (nI u), .ref 3]) (w' := wLaw nc codes ends sk names) (Ps := []) rfl trivial ?_
                  refine ww_run 90 2 (pc' := 200) (lv' := [(5, .int (codes i)), (0, .ref 0), (1, .int (nI part)), (2, .ref 4), (3, .int (nI (u + 1))), (4, .int (nI i))]) (st' := []) (w' := wLaw nc codes ends (upd sk ((nI u).toNatClampNeg) 1) names) (Ps := [vp_in (nI u) 40]) rfl ⟨(vp_in_nI (by omega) (by omega)), trivial⟩ ?_
                  rw [nI_clamp (n := u) (by omega)]
                  refine ww_run 114 2 (pc' := 27) (lv' := [(4, .int ((nI i) + 1)), (5, .int (codes i)), (0, .ref 0), (1, .int (nI part)), (2, .ref 4), (3, .int (nI (u + 1)))]) (st' := []) (w' := wLaw nc codes ends (upd sk (u) 1) names) (Ps := []) rfl trivial ?_
                  rw [nI_1 i]
                  refine ww_lv [2, 3, 4, 5, 0] (lv' := [(0, .ref 0), (1, .int (nI part)), (2, .ref 4), (3, .int (nI (u + 1))), (4, .int (nI (i + 1)))]) rfl ?_
                  refine ih (i + 1) (upd sk (u) 1) (u + 1) (by omega) (by omega) (by omega) (by omega) ?_
                  rw [show i + 1 - sFrom e part = (i - sFrom e part) + 1 by omega]
                  show sStep names (codes (sFrom e part + (i - sFrom e part))) (sRun names codes (sFrom e part) (upd stk 0 0, 0) (i - sFrom e part)) = _
                  rw [hs, show sFrom e part + (i - sFrom e part) = i by omega]
                  unfold sStep
                  simp only
                  grind
          · have c9 : ¬ t ≤ 0 := fun q => c9 ((nI_leI (a := t) (b := 0) (by omega) (by omega)).mpr q)
            obtain ⟨u, rfl⟩ : ∃ u, t = u + 1 := ⟨t - 1, by omega⟩
            refine ww_run 56 14 (pc' := 200) (lv' := [(5, .int (codes i)), (0, .ref 0), (1, .int (nI part)), (2, .ref 4), (3, .int (nI (u + 1))), (4, .int (nI i))]) (st' := []) (w' := wLaw nc codes ends (upd sk (((nI (u + 1)) - 1).toNatClampNeg) (-(sk ((nI (u + 1)) - 1).toNatClampNeg))) names) (Ps := [vp_in ((nI (u + 1)) - 1) 40, vp_in ((nI (u + 1)) - 1) 40]) rfl ⟨(by rw [nI_pred u]; exact vp_in_nI (by omega) (by omega)), (by rw [nI_pred u]; exact vp_in_nI (by omega) (by omega)), trivial⟩ ?_
            rw [nI_pred u]
            rw [nI_clamp (n := u) (by omega)]
            refine ww_run 114 2 (pc' := 27) (lv' := [(4, .int ((nI i) + 1)), (5, .int (codes i)), (0, .ref 0), (1, .int (nI part)), (2, .ref 4), (3, .int (nI (u + 1)))]) (st' := []) (w' := wLaw nc codes ends (upd sk (u) (-(sk u))) names) (Ps := []) rfl trivial ?_
            rw [nI_1 i]
            refine ww_lv [2, 3, 4, 5, 0] (lv' := [(0, .ref 0), (1, .int (nI part)), (2, .ref 4), (3, .int (nI (u + 1))), (4, .int (nI (i + 1)))]) rfl ?_
            refine ih (i + 1) (upd sk (u) (-(sk u))) (u + 1) (by omega) (by omega) (by omega) (by omega) ?_
            rw [show i + 1 - sFrom e part = (i - sFrom e part) + 1 by omega]
            show sStep names (codes (sFrom e part + (i - sFrom e part))) (sRun names codes (sFrom e part) (upd stk 0 0, 0) (i - sFrom e part)) = _
            rw [hs, show sFrom e part + (i - sFrom e part) = i by omega]
            unfold sStep
            simp only
            grind
      · refine ww_run 32 2 (pc' := 58) (lv' := [(5, .int (codes i)), (0, .ref 0), (1, .int (nI part)), (2, .ref 4), (3, .int (nI t)), (4, .int (nI i))]) (st' := [.int 40, .int (nI t)]) (w' := wLaw nc codes ends sk names) (Ps := []) rfl trivial ?_
        refine ww_icmp_ge 34 rfl (tgt := 94) rfl (fun c15 => ?_) (fun c15 => ?_)
        · have c15 : 40 ≤ t := (nI_leI (a := 40) (b := t) (by omega) (by omega)).mp c15
          refine ww_run 51 2 (pc' := 99) (lv' := [(5, .int (codes i)), (0, .ref 0), (1, .int (nI part)), (2, .ref 4), (3, .int (nI t)), (4, .int (nI i))]) (st' := [.int 10014, .int (codes i)]) (w' := wLaw nc codes ends sk names) (Ps := []) rfl trivial ?_
          refine ww_icmp_ne 53 rfl (tgt := 126) rfl (fun c16 => ?_) (fun c16 => ?_)
          · refine ww_run 70 2 (pc' := 131) (lv' := [(5, .int (codes i)), (0, .ref 0), (1, .int (nI part)), (2, .ref 4), (3, .int (nI t)), (4, .int (nI i))]) (st' := [.int 10013, .int (codes i)]) (w' := wLaw nc codes ends sk names) (Ps := []) rfl trivial ?_
            refine ww_icmp_ne 72 rfl (tgt := 165) rfl (fun c17 => ?_) (fun c17 => ?_)
            · refine ww_run 92 2 (pc' := 167) (lv' := [(5, .int (codes i)), (0, .ref 0), (1, .int (nI part)), (2, .ref 4), (3, .int (nI t)), (4, .int (nI i))]) (st' := [.int 1, .int (nI t)]) (w' := wLaw nc codes ends sk names) (Ps := []) rfl trivial ?_
              refine ww_icmp_le 94 rfl (tgt := 200) rfl (fun c18 => ?_) (fun c18 => ?_)
              · have c18 : t ≤ 1 := (nI_leI (a := t) (b := 1) (by omega) (by omega)).mp c18
                refine ww_run 114 2 (pc' := 27) (lv' := [(4, .int ((nI i) + 1)), (5, .int (codes i)), (0, .ref 0), (1, .int (nI part)), (2, .ref 4), (3, .int (nI t))]) (st' := []) (w' := wLaw nc codes ends sk names) (Ps := []) rfl trivial ?_
                rw [nI_1 i]
                refine ww_lv [2, 3, 4, 5, 0] (lv' := [(0, .ref 0), (1, .int (nI part)), (2, .ref 4), (3, .int (nI t)), (4, .int (nI (i + 1)))]) rfl ?_
                refine ih (i + 1) sk t (by omega) (by omega) (by omega) (by omega) ?_
                rw [show i + 1 - sFrom e part = (i - sFrom e part) + 1 by omega]
                show sStep names (codes (sFrom e part + (i - sFrom e part))) (sRun names codes (sFrom e part) (upd stk 0 0, 0) (i - sFrom e part)) = _
                rw [hs, show sFrom e part + (i - sFrom e part) = i by omega]
                unfold sStep
                simp only
                grind
              · have c18 : ¬ t ≤ 1 := fun q => c18 ((nI_leI (a := t) (b := 1) (by omega) (by omega)).mpr q)
                obtain ⟨u, rfl⟩ : ∃ u, t = u + 1 + 1 := ⟨t - 2, by omega⟩
                refine ww_run 95 17 (pc' := 196) (lv' := [(3, .int ((nI (u + 1 + 1)) + (-1))), (5, .int (codes i)), (0, .ref 0), (1, .int (nI part)), (2, .ref 4), (4, .int (nI i))]) (st' := [.int (sk ((nI (u + 1 + 1)) + (-1)).toNatClampNeg), .int (sk (((nI (u + 1 + 1)) + (-1)) - 1).toNatClampNeg), .int (codes i), .int (((nI (u + 1 + 1)) + (-1)) - 1), .ref 3]) (w' := wLaw nc codes ends sk names) (Ps := [vp_in (((nI (u + 1 + 1)) + (-1)) - 1) 40, vp_in ((nI (u + 1 + 1)) + (-1)) 40]) rfl ⟨(by rw [pk_m1 (u + 1), nI_pred u]; exact vp_in_nI (by omega) (by omega)), (by rw [pk_m1 (u + 1)]; exact vp_in_nI (by omega) (by omega)), trivial⟩ ?_
                rw [pk_m1 (u + 1)]
                rw [nI_clamp (n := (u + 1)) (by omega)]
                rw [nI_pred u]
                rw [nI_clamp (n := u) (by omega)]
                refine ww_cSi 112 ok_X3_joined (Co.fr0 (c_X3_joined (codes i) (sk u) (sk (u + 1))) rfl) lk_X3_21 rfl (by omega) (rest := [.int (nI u), .ref 3]) rfl (Nat.le_of_ble_eq_true rfl) rfl ?_
                refine ww_run 113 3 (pc' := 27) (lv' := [(4, .int ((nI i) + 1)), (3, .int (nI (u + 1))), (5, .int (codes i)), (0, .ref 0), (1, .int (nI part)), (2, .ref 4)]) (st' := []) (w' := wLaw nc codes ends (upd sk ((nI u).toNatClampNeg) (jnC (codes i) (sk u) (sk (u + 1)))) names) (Ps := [vp_in (nI u) 40]) rfl ⟨(vp_in_nI (by omega) (by omega)), trivial⟩ ?_
                rw [nI_clamp (n := u) (by omega)]
                rw [nI_1 i]
                refine ww_lv [3, 4, 5, 1, 0] (lv' := [(0, .ref 0), (1, .int (nI part)), (2, .ref 4), (3, .int (nI (u + 1))), (4, .int (nI (i + 1)))]) rfl ?_
                refine ih (i + 1) (upd sk (u) (jnC (codes i) (sk u) (sk (u + 1)))) (u + 1) (by omega) (by omega) (by omega) (by omega) ?_
                rw [show i + 1 - sFrom e part = (i - sFrom e part) + 1 by omega]
                show sStep names (codes (sFrom e part + (i - sFrom e part))) (sRun names codes (sFrom e part) (upd stk 0 0, 0) (i - sFrom e part)) = _
                rw [hs, show sFrom e part + (i - sFrom e part) = i by omega]
                unfold sStep
                simp only
                grind
            · refine ww_run 73 1 (pc' := 135) (lv' := [(5, .int (codes i)), (0, .ref 0), (1, .int (nI part)), (2, .ref 4), (3, .int (nI t)), (4, .int (nI i))]) (st' := [.int (nI t)]) (w' := wLaw nc codes ends sk names) (Ps := []) rfl trivial ?_
              refine ww_if_le 74 rfl (tgt := 165) rfl (fun c19 => ?_) (fun c19 => ?_)
              · have c19 : t ≤ 0 := (nI_leI (a := t) (b := 0) (by omega) (by omega)).mp c19
                refine ww_run 92 2 (pc' := 167) (lv' := [(5, .int (codes i)), (0, .ref 0), (1, .int (nI part)), (2, .ref 4), (3, .int (nI t)), (4, .int (nI i))]) (st' := [.int 1, .int (nI t)]) (w' := wLaw nc codes ends sk names) (Ps := []) rfl trivial ?_
                refine ww_icmp_le 94 rfl (tgt := 200) rfl (fun c20 => ?_) (fun c20 => ?_)
                · have c20 : t ≤ 1 := (nI_leI (a := t) (b := 1) (by omega) (by omega)).mp c20
                  refine ww_run 114 2 (pc' := 27) (lv' := [(4, .int ((nI i) + 1)), (5, .int (codes i)), (0, .ref 0), (1, .int (nI part)), (2, .ref 4), (3, .int (nI t))]) (st' := []) (w' := wLaw nc codes ends sk names) (Ps := []) rfl trivial ?_
                  rw [nI_1 i]
                  refine ww_lv [2, 3, 4, 5, 0] (lv' := [(0, .ref 0), (1, .int (nI part)), (2, .ref 4), (3, .int (nI t)), (4, .int (nI (i + 1)))]) rfl ?_
                  refine ih (i + 1) sk t (by omega) (by omega) (by omega) (by omega) ?_
                  rw [show i + 1 - sFrom e part = (i - sFrom e part) + 1 by omega]
                  show sStep names (codes (sFrom e part + (i - sFrom e part))) (sRun names codes (sFrom e part) (upd stk 0 0, 0) (i - sFrom e part)) = _
                  rw [hs, show sFrom e part + (i - sFrom e part) = i by omega]
                  unfold sStep
                  simp only
                  grind
                · have c20 : ¬ t ≤ 1 := fun q => c20 ((nI_leI (a := t) (b := 1) (by omega) (by omega)).mpr q)
                  obtain ⟨u, rfl⟩ : ∃ u, t = u + 1 + 1 := ⟨t - 2, by omega⟩
                  refine ww_run 95 17 (pc' := 196) (lv' := [(3, .int ((nI (u + 1 + 1)) + (-1))), (5, .int (codes i)), (0, .ref 0), (1, .int (nI part)), (2, .ref 4), (4, .int (nI i))]) (st' := [.int (sk ((nI (u + 1 + 1)) + (-1)).toNatClampNeg), .int (sk (((nI (u + 1 + 1)) + (-1)) - 1).toNatClampNeg), .int (codes i), .int (((nI (u + 1 + 1)) + (-1)) - 1), .ref 3]) (w' := wLaw nc codes ends sk names) (Ps := [vp_in (((nI (u + 1 + 1)) + (-1)) - 1) 40, vp_in ((nI (u + 1 + 1)) + (-1)) 40]) rfl ⟨(by rw [pk_m1 (u + 1), nI_pred u]; exact vp_in_nI (by omega) (by omega)), (by rw [pk_m1 (u + 1)]; exact vp_in_nI (by omega) (by omega)), trivial⟩ ?_
                  rw [pk_m1 (u + 1)]
                  rw [nI_clamp (n := (u + 1)) (by omega)]
                  rw [nI_pred u]
                  rw [nI_clamp (n := u) (by omega)]
                  refine ww_cSi 112 ok_X3_joined (Co.fr0 (c_X3_joined (codes i) (sk u) (sk (u + 1))) rfl) lk_X3_21 rfl (by omega) (rest := [.int (nI u), .ref 3]) rfl (Nat.le_of_ble_eq_true rfl) rfl ?_
                  refine ww_run 113 3 (pc' := 27) (lv' := [(4, .int ((nI i) + 1)), (3, .int (nI (u + 1))), (5, .int (codes i)), (0, .ref 0), (1, .int (nI part)), (2, .ref 4)]) (st' := []) (w' := wLaw nc codes ends (upd sk ((nI u).toNatClampNeg) (jnC (codes i) (sk u) (sk (u + 1)))) names) (Ps := [vp_in (nI u) 40]) rfl ⟨(vp_in_nI (by omega) (by omega)), trivial⟩ ?_
                  rw [nI_clamp (n := u) (by omega)]
                  rw [nI_1 i]
                  refine ww_lv [3, 4, 5, 1, 0] (lv' := [(0, .ref 0), (1, .int (nI part)), (2, .ref 4), (3, .int (nI (u + 1))), (4, .int (nI (i + 1)))]) rfl ?_
                  refine ih (i + 1) (upd sk (u) (jnC (codes i) (sk u) (sk (u + 1)))) (u + 1) (by omega) (by omega) (by omega) (by omega) ?_
                  rw [show i + 1 - sFrom e part = (i - sFrom e part) + 1 by omega]
                  show sStep names (codes (sFrom e part + (i - sFrom e part))) (sRun names codes (sFrom e part) (upd stk 0 0, 0) (i - sFrom e part)) = _
                  rw [hs, show sFrom e part + (i - sFrom e part) = i by omega]
                  unfold sStep
                  simp only
                  grind
              · have c19 : ¬ t ≤ 0 := fun q => c19 ((nI_leI (a := t) (b := 0) (by omega) (by omega)).mpr q)
                obtain ⟨u, rfl⟩ : ∃ u, t = u + 1 := ⟨t - 1, by omega⟩
                refine ww_run 75 11 (pc' := 153) (lv' := [(5, .int (codes i)), (0, .ref 0), (1, .int (nI part)), (2, .ref 4), (3, .int (nI (u + 1))), (4, .int (nI i))]) (st' := [.int (sk ((nI (u + 1)) - 1).toNatClampNeg), .int ((nI (u + 1)) - 1), .ref 3]) (w' := wLaw nc codes ends sk names) (Ps := [vp_in ((nI (u + 1)) - 1) 40]) rfl ⟨(by rw [nI_pred u]; exact vp_in_nI (by omega) (by omega)), trivial⟩ ?_
                rw [nI_pred u]
                rw [nI_clamp (n := u) (by omega)]
                refine ww_if_ne 86 rfl (tgt := 160) rfl (fun c21 => ?_) (fun c21 => ?_)
                · refine ww_run 89 3 (pc' := 200) (lv' := [(5, .int (codes i)), (0, .ref 0), (1, .int (nI part)), (2, .ref 4), (3, .int (nI (u + 1))), (4, .int (nI i))]) (st' := []) (w' := wLaw nc codes ends (upd sk ((nI u).toNatClampNeg) 0) names) (Ps := [vp_in (nI u) 40]) rfl ⟨(vp_in_nI (by omega) (by omega)), trivial⟩ ?_
                  rw [nI_clamp (n := u) (by omega)]
                  refine ww_run 114 2 (pc' := 27) (lv' := [(4, .int ((nI i) + 1)), (5, .int (codes i)), (0, .ref 0), (1, .int (nI part)), (2, .ref 4), (3, .int (nI (u + 1)))]) (st' := []) (w' := wLaw nc codes ends (upd sk (u) 0) names) (Ps := []) rfl trivial ?_
                  rw [nI_1 i]
                  refine ww_lv [2, 3, 4, 5, 0] (lv' := [(0, .ref 0), (1, .int (nI part)), (2, .ref 4), (3, .int (nI (u + 1))), (4, .int (nI (i + 1)))]) rfl ?_
                  refine ih (i + 1) (upd sk (u) 0) (u + 1) (by omega) (by omega) (by omega) (by omega) ?_
                  rw [show i + 1 - sFrom e part = (i - sFrom e part) + 1 by omega]
                  show sStep names (codes (sFrom e part + (i - sFrom e part))) (sRun names codes (sFrom e part) (upd stk 0 0, 0) (i - sFrom e part)) = _
                  rw [hs, show sFrom e part + (i - sFrom e part) = i by omega]
                  unfold sStep
                  simp only
                  grind
                · refine ww_run 87 2 (pc' := 161) (lv' := [(5, .int (codes i)), (0, .ref 0), (1, .int (nI part)), (2, .ref 4), (3, .int (nI (u + 1))), (4, .int (nI i))]) (st' := [.int 1, .int (nI u), .ref 3]) (w' := wLaw nc codes ends sk names) (Ps := []) rfl trivial ?_
                  refine ww_run 90 2 (pc' := 200) (lv' := [(5, .int (codes i)), (0, .ref 0), (1, .int (nI part)), (2, .ref 4), (3, .int (nI (u + 1))), (4, .int (nI i))]) (st' := []) (w' := wLaw nc codes ends (upd sk ((nI u).toNatClampNeg) 1) names) (Ps := [vp_in (nI u) 40]) rfl ⟨(vp_in_nI (by omega) (by omega)), trivial⟩ ?_
                  rw [nI_clamp (n := u) (by omega)]
                  refine ww_run 114 2 (pc' := 27) (lv' := [(4, .int ((nI i) + 1)), (5, .int (codes i)), (0, .ref 0), (1, .int (nI part)), (2, .ref 4), (3, .int (nI (u + 1)))]) (st' := []) (w' := wLaw nc codes ends (upd sk (u) 1) names) (Ps := []) rfl trivial ?_
                  rw [nI_1 i]
                  refine ww_lv [2, 3, 4, 5, 0] (lv' := [(0, .ref 0), (1, .int (nI part)), (2, .ref 4), (3, .int (nI (u + 1))), (4, .int (nI (i + 1)))]) rfl ?_
                  refine ih (i + 1) (upd sk (u) 1) (u + 1) (by omega) (by omega) (by omega) (by omega) ?_
                  rw [show i + 1 - sFrom e part = (i - sFrom e part) + 1 by omega]
                  show sStep names (codes (sFrom e part + (i - sFrom e part))) (sRun names codes (sFrom e part) (upd stk 0 0, 0) (i - sFrom e part)) = _
                  rw [hs, show sFrom e part + (i - sFrom e part) = i by omega]
                  unfold sStep
                  simp only
                  grind
          · refine ww_run 54 1 (pc' := 103) (lv' := [(5, .int (codes i)), (0, .ref 0), (1, .int (nI part)), (2, .ref 4), (3, .int (nI t)), (4, .int (nI i))]) (st' := [.int (nI t)]) (w' := wLaw nc codes ends sk names) (Ps := []) rfl trivial ?_
            refine ww_if_le 55 rfl (tgt := 126) rfl (fun c22 => ?_) (fun c22 => ?_)
            · have c22 : t ≤ 0 := (nI_leI (a := t) (b := 0) (by omega) (by omega)).mp c22
              refine ww_run 70 2 (pc' := 131) (lv' := [(5, .int (codes i)), (0, .ref 0), (1, .int (nI part)), (2, .ref 4), (3, .int (nI t)), (4, .int (nI i))]) (st' := [.int 10013, .int (codes i)]) (w' := wLaw nc codes ends sk names) (Ps := []) rfl trivial ?_
              refine ww_icmp_ne 72 rfl (tgt := 165) rfl (fun c23 => ?_) (fun c23 => ?_)
              · refine ww_run 92 2 (pc' := 167) (lv' := [(5, .int (codes i)), (0, .ref 0), (1, .int (nI part)), (2, .ref 4), (3, .int (nI t)), (4, .int (nI i))]) (st' := [.int 1, .int (nI t)]) (w' := wLaw nc codes ends sk names) (Ps := []) rfl trivial ?_
                refine ww_icmp_le 94 rfl (tgt := 200) rfl (fun c24 => ?_) (fun c24 => ?_)
                · have c24 : t ≤ 1 := (nI_leI (a := t) (b := 1) (by omega) (by omega)).mp c24
                  refine ww_run 114 2 (pc' := 27) (lv' := [(4, .int ((nI i) + 1)), (5, .int (codes i)), (0, .ref 0), (1, .int (nI part)), (2, .ref 4), (3, .int (nI t))]) (st' := []) (w' := wLaw nc codes ends sk names) (Ps := []) rfl trivial ?_
                  rw [nI_1 i]
                  refine ww_lv [2, 3, 4, 5, 0] (lv' := [(0, .ref 0), (1, .int (nI part)), (2, .ref 4), (3, .int (nI t)), (4, .int (nI (i + 1)))]) rfl ?_
                  refine ih (i + 1) sk t (by omega) (by omega) (by omega) (by omega) ?_
                  rw [show i + 1 - sFrom e part = (i - sFrom e part) + 1 by omega]
                  show sStep names (codes (sFrom e part + (i - sFrom e part))) (sRun names codes (sFrom e part) (upd stk 0 0, 0) (i - sFrom e part)) = _
                  rw [hs, show sFrom e part + (i - sFrom e part) = i by omega]
                  unfold sStep
                  simp only
                  grind
                · have c24 : ¬ t ≤ 1 := fun q => c24 ((nI_leI (a := t) (b := 1) (by omega) (by omega)).mpr q)
                  obtain ⟨u, rfl⟩ : ∃ u, t = u + 1 + 1 := ⟨t - 2, by omega⟩
                  refine ww_run 95 17 (pc' := 196) (lv' := [(3, .int ((nI (u + 1 + 1)) + (-1))), (5, .int (codes i)), (0, .ref 0), (1, .int (nI part)), (2, .ref 4), (4, .int (nI i))]) (st' := [.int (sk ((nI (u + 1 + 1)) + (-1)).toNatClampNeg), .int (sk (((nI (u + 1 + 1)) + (-1)) - 1).toNatClampNeg), .int (codes i), .int (((nI (u + 1 + 1)) + (-1)) - 1), .ref 3]) (w' := wLaw nc codes ends sk names) (Ps := [vp_in (((nI (u + 1 + 1)) + (-1)) - 1) 40, vp_in ((nI (u + 1 + 1)) + (-1)) 40]) rfl ⟨(by rw [pk_m1 (u + 1), nI_pred u]; exact vp_in_nI (by omega) (by omega)), (by rw [pk_m1 (u + 1)]; exact vp_in_nI (by omega) (by omega)), trivial⟩ ?_
                  rw [pk_m1 (u + 1)]
                  rw [nI_clamp (n := (u + 1)) (by omega)]
                  rw [nI_pred u]
                  rw [nI_clamp (n := u) (by omega)]
                  refine ww_cSi 112 ok_X3_joined (Co.fr0 (c_X3_joined (codes i) (sk u) (sk (u + 1))) rfl) lk_X3_21 rfl (by omega) (rest := [.int (nI u), .ref 3]) rfl (Nat.le_of_ble_eq_true rfl) rfl ?_
                  refine ww_run 113 3 (pc' := 27) (lv' := [(4, .int ((nI i) + 1)), (3, .int (nI (u + 1))), (5, .int (codes i)), (0, .ref 0), (1, .int (nI part)), (2, .ref 4)]) (st' := []) (w' := wLaw nc codes ends (upd sk ((nI u).toNatClampNeg) (jnC (codes i) (sk u) (sk (u + 1)))) names) (Ps := [vp_in (nI u) 40]) rfl ⟨(vp_in_nI (by omega) (by omega)), trivial⟩ ?_
                  rw [nI_clamp (n := u) (by omega)]
                  rw [nI_1 i]
                  refine ww_lv [3, 4, 5, 1, 0] (lv' := [(0, .ref 0), (1, .int (nI part)), (2, .ref 4), (3, .int (nI (u + 1))), (4, .int (nI (i + 1)))]) rfl ?_
                  refine ih (i + 1) (upd sk (u) (jnC (codes i) (sk u) (sk (u + 1)))) (u + 1) (by omega) (by omega) (by omega) (by omega) ?_
                  rw [show i + 1 - sFrom e part = (i - sFrom e part) + 1 by omega]
                  show sStep names (codes (sFrom e part + (i - sFrom e part))) (sRun names codes (sFrom e part) (upd stk 0 0, 0) (i - sFrom e part)) = _
                  rw [hs, show sFrom e part + (i - sFrom e part) = i by omega]
                  unfold sStep
                  simp only
                  grind
              · refine ww_run 73 1 (pc' := 135) (lv' := [(5, .int (codes i)), (0, .ref 0), (1, .int (nI part)), (2, .ref 4), (3, .int (nI t)), (4, .int (nI i))]) (st' := [.int (nI t)]) (w' := wLaw nc codes ends sk names) (Ps := []) rfl trivial ?_
                refine ww_if_le 74 rfl (tgt := 165) rfl (fun c25 => ?_) (fun c25 => ?_)
                · have c25 : t ≤ 0 := (nI_leI (a := t) (b := 0) (by omega) (by omega)).mp c25
                  refine ww_run 92 2 (pc' := 167) (lv' := [(5, .int (codes i)), (0, .ref 0), (1, .int (nI part)), (2, .ref 4), (3, .int (nI t)), (4, .int (nI i))]) (st' := [.int 1, .int (nI t)]) (w' := wLaw nc codes ends sk names) (Ps := []) rfl trivial ?_
                  refine ww_icmp_le 94 rfl (tgt := 200) rfl (fun c26 => ?_) (fun c26 => ?_)
                  · have c26 : t ≤ 1 := (nI_leI (a := t) (b := 1) (by omega) (by omega)).mp c26
                    refine ww_run 114 2 (pc' := 27) (lv' := [(4, .int ((nI i) + 1)), (5, .int (codes i)), (0, .ref 0), (1, .int (nI part)), (2, .ref 4), (3, .int (nI t))]) (st' := []) (w' := wLaw nc codes ends sk names) (Ps := []) rfl trivial ?_
                    rw [nI_1 i]
                    refine ww_lv [2, 3, 4, 5, 0] (lv' := [(0, .ref 0), (1, .int (nI part)), (2, .ref 4), (3, .int (nI t)), (4, .int (nI (i + 1)))]) rfl ?_
                    refine ih (i + 1) sk t (by omega) (by omega) (by omega) (by omega) ?_
                    rw [show i + 1 - sFrom e part = (i - sFrom e part) + 1 by omega]
                    show sStep names (codes (sFrom e part + (i - sFrom e part))) (sRun names codes (sFrom e part) (upd stk 0 0, 0) (i - sFrom e part)) = _
                    rw [hs, show sFrom e part + (i - sFrom e part) = i by omega]
                    unfold sStep
                    simp only
                    grind
                  · have c26 : ¬ t ≤ 1 := fun q => c26 ((nI_leI (a := t) (b := 1) (by omega) (by omega)).mpr q)
                    obtain ⟨u, rfl⟩ : ∃ u, t = u + 1 + 1 := ⟨t - 2, by omega⟩
                    refine ww_run 95 17 (pc' := 196) (lv' := [(3, .int ((nI (u + 1 + 1)) + (-1))), (5, .int (codes i)), (0, .ref 0), (1, .int (nI part)), (2, .ref 4), (4, .int (nI i))]) (st' := [.int (sk ((nI (u + 1 + 1)) + (-1)).toNatClampNeg), .int (sk (((nI (u + 1 + 1)) + (-1)) - 1).toNatClampNeg), .int (codes i), .int (((nI (u + 1 + 1)) + (-1)) - 1), .ref 3]) (w' := wLaw nc codes ends sk names) (Ps := [vp_in (((nI (u + 1 + 1)) + (-1)) - 1) 40, vp_in ((nI (u + 1 + 1)) + (-1)) 40]) rfl ⟨(by rw [pk_m1 (u + 1), nI_pred u]; exact vp_in_nI (by omega) (by omega)), (by rw [pk_m1 (u + 1)]; exact vp_in_nI (by omega) (by omega)), trivial⟩ ?_
                    rw [pk_m1 (u + 1)]
                    rw [nI_clamp (n := (u + 1)) (by omega)]
                    rw [nI_pred u]
                    rw [nI_clamp (n := u) (by omega)]
                    refine ww_cSi 112 ok_X3_joined (Co.fr0 (c_X3_joined (codes i) (sk u) (sk (u + 1))) rfl) lk_X3_21 rfl (by omega) (rest := [.int (nI u), .ref 3]) rfl (Nat.le_of_ble_eq_true rfl) rfl ?_
                    refine ww_run 113 3 (pc' := 27) (lv' := [(4, .int ((nI i) + 1)), (3, .int (nI (u + 1))), (5, .int (codes i)), (0, .ref 0), (1, .int (nI part)), (2, .ref 4)]) (st' := []) (w' := wLaw nc codes ends (upd sk ((nI u).toNatClampNeg) (jnC (codes i) (sk u) (sk (u + 1)))) names) (Ps := [vp_in (nI u) 40]) rfl ⟨(vp_in_nI (by omega) (by omega)), trivial⟩ ?_
                    rw [nI_clamp (n := u) (by omega)]
                    rw [nI_1 i]
                    refine ww_lv [3, 4, 5, 1, 0] (lv' := [(0, .ref 0), (1, .int (nI part)), (2, .ref 4), (3, .int (nI (u + 1))), (4, .int (nI (i + 1)))]) rfl ?_
                    refine ih (i + 1) (upd sk (u) (jnC (codes i) (sk u) (sk (u + 1)))) (u + 1) (by omega) (by omega) (by omega) (by omega) ?_
                    rw [show i + 1 - sFrom e part = (i - sFrom e part) + 1 by omega]
                    show sStep names (codes (sFrom e part + (i - sFrom e part))) (sRun names codes (sFrom e part) (upd stk 0 0, 0) (i - sFrom e part)) = _
                    rw [hs, show sFrom e part + (i - sFrom e part) = i by omega]
                    unfold sStep
                    simp only
                    grind
                · have c25 : ¬ t ≤ 0 := fun q => c25 ((nI_leI (a := t) (b := 0) (by omega) (by omega)).mpr q)
                  obtain ⟨u, rfl⟩ : ∃ u, t = u + 1 := ⟨t - 1, by omega⟩
                  refine ww_run 75 11 (pc' := 153) (lv' := [(5, .int (codes i)), (0, .ref 0), (1, .int (nI part)), (2, .ref 4), (3, .int (nI (u + 1))), (4, .int (nI i))]) (st' := [.int (sk ((nI (u + 1)) - 1).toNatClampNeg), .int ((nI (u + 1)) - 1), .ref 3]) (w' := wLaw nc codes ends sk names) (Ps := [vp_in ((nI (u + 1)) - 1) 40]) rfl ⟨(by rw [nI_pred u]; exact vp_in_nI (by omega) (by omega)), trivial⟩ ?_
                  rw [nI_pred u]
                  rw [nI_clamp (n := u) (by omega)]
                  refine ww_if_ne 86 rfl (tgt := 160) rfl (fun c27 => ?_) (fun c27 => ?_)
                  · refine ww_run 89 3 (pc' := 200) (lv' := [(5, .int (codes i)), (0, .ref 0), (1, .int (nI part)), (2, .ref 4), (3, .int (nI (u + 1))), (4, .int (nI i))]) (st' := []) (w' := wLaw nc codes ends (upd sk ((nI u).toNatClampNeg) 0) names) (Ps := [vp_in (nI u) 40]) rfl ⟨(vp_in_nI (by omega) (by omega)), trivial⟩ ?_
                    rw [nI_clamp (n := u) (by omega)]
                    refine ww_run 114 2 (pc' := 27) (lv' := [(4, .int ((nI i) + 1)), (5, .int (codes i)), (0, .ref 0), (1, .int (nI part)), (2, .ref 4), (3, .int (nI (u + 1)))]) (st' := []) (w' := wLaw nc codes ends (upd sk (u) 0) names) (Ps := []) rfl trivial ?_
                    rw [nI_1 i]
                    refine ww_lv [2, 3, 4, 5, 0] (lv' := [(0, .ref 0), (1, .int (nI part)), (2, .ref 4), (3, .int (nI (u + 1))), (4, .int (nI (i + 1)))]) rfl ?_
                    refine ih (i + 1) (upd sk (u) 0) (u + 1) (by omega) (by omega) (by omega) (by omega) ?_
                    rw [show i + 1 - sFrom e part = (i - sFrom e part) + 1 by omega]
                    show sStep names (codes (sFrom e part + (i - sFrom e part))) (sRun names codes (sFrom e part) (upd stk 0 0, 0) (i - sFrom e part)) = _
                    rw [hs, show sFrom e part + (i - sFrom e part) = i by omega]
                    unfold sStep
                    simp only
                    grind
                  · refine ww_run 87 2 (pc' := 161) (lv' := [(5, .int (codes i)), (0, .ref 0), (1, .int (nI part)), (2, .ref 4), (3, .int (nI (u + 1))), (4, .int (nI i))]) (st' := [.int 1, .int (nI u), .ref 3]) (w' := wLaw nc codes ends sk names) (Ps := []) rfl trivial ?_
                    refine ww_run 90 2 (pc' := 200) (lv' := [(5, .int (codes i)), (0, .ref 0), (1, .int (nI part)), (2, .ref 4), (3, .int (nI (u + 1))), (4, .int (nI i))]) (st' := []) (w' := wLaw nc codes ends (upd sk ((nI u).toNatClampNeg) 1) names) (Ps := [vp_in (nI u) 40]) rfl ⟨(vp_in_nI (by omega) (by omega)), trivial⟩ ?_
                    rw [nI_clamp (n := u) (by omega)]
                    refine ww_run 114 2 (pc' := 27) (lv' := [(4, .int ((nI i) + 1)), (5, .int (codes i)), (0, .ref 0), (1, .int (nI part)), (2, .ref 4), (3, .int (nI (u + 1)))]) (st' := []) (w' := wLaw nc codes ends (upd sk (u) 1) names) (Ps := []) rfl trivial ?_
                    rw [nI_1 i]
                    refine ww_lv [2, 3, 4, 5, 0] (lv' := [(0, .ref 0), (1, .int (nI part)), (2, .ref 4), (3, .int (nI (u + 1))), (4, .int (nI (i + 1)))]) rfl ?_
                    refine ih (i + 1) (upd sk (u) 1) (u + 1) (by omega) (by omega) (by omega) (by omega) ?_
                    rw [show i + 1 - sFrom e part = (i - sFrom e part) + 1 by omega]
                    show sStep names (codes (sFrom e part + (i - sFrom e part))) (sRun names codes (sFrom e part) (upd stk 0 0, 0) (i - sFrom e part)) = _
                    rw [hs, show sFrom e part + (i - sFrom e part) = i by omega]
                    unfold sStep
                    simp only
                    grind
            · have c22 : ¬ t ≤ 0 := fun q => c22 ((nI_leI (a := t) (b := 0) (by omega) (by omega)).mpr q)
              obtain ⟨u, rfl⟩ : ∃ u, t = u + 1 := ⟨t - 1, by omega⟩
              refine ww_run 56 14 (pc' := 200) (lv' := [(5, .int (codes i)), (0, .ref 0), (1, .int (nI part)), (2, .ref 4), (3, .int (nI (u + 1))), (4, .int (nI i))]) (st' := []) (w' := wLaw nc codes ends (upd sk (((nI (u + 1)) - 1).toNatClampNeg) (-(sk ((nI (u + 1)) - 1).toNatClampNeg))) names) (Ps := [vp_in ((nI (u + 1)) - 1) 40, vp_in ((nI (u + 1)) - 1) 40]) rfl ⟨(by rw [nI_pred u]; exact vp_in_nI (by omega) (by omega)), (by rw [nI_pred u]; exact vp_in_nI (by omega) (by omega)), trivial⟩ ?_
              rw [nI_pred u]
              rw [nI_clamp (n := u) (by omega)]
              refine ww_run 114 2 (pc' := 27) (lv' := [(4, .int ((nI i) + 1)), (5, .int (codes i)), (0, .ref 0), (1, .int (nI part)), (2, .ref 4), (3, .int (nI (u + 1)))]) (st' := []) (w' := wLaw nc codes ends (upd sk (u) (-(sk u))) names) (Ps := []) rfl trivial ?_
              rw [nI_1 i]
              refine ww_lv [2, 3, 4, 5, 0] (lv' := [(0, .ref 0), (1, .int (nI part)), (2, .ref 4), (3, .int (nI (u + 1))), (4, .int (nI (i + 1)))]) rfl ?_
              refine ih (i + 1) (upd sk (u) (-(sk u))) (u + 1) (by omega) (by omega) (by omega) (by omega) ?_
              rw [show i + 1 - sFrom e part = (i - sFrom e part) + 1 by omega]
              show sStep names (codes (sFrom e part + (i - sFrom e part))) (sRun names codes (sFrom e part) (upd stk 0 0, 0) (i - sFrom e part)) = _
              rw [hs, show sFrom e part + (i - sFrom e part) = i by omega]
              unfold sStep
              simp only
              grind
        · have c15 : ¬ 40 ≤ t := fun q => c15 ((nI_leI (a := 40) (b := t) (by omega) (by omega)).mpr q)
          refine ww_run 35 5 (pc' := 71) (lv' := [(5, .int (codes i)), (0, .ref 0), (1, .int (nI part)), (2, .ref 4), (3, .int (nI t)), (4, .int (nI i))]) (st' := [.int 10000, .int (codes i), .int (nI t), .ref 3]) (w' := wLaw nc codes ends sk names) (Ps := []) rfl trivial ?_
          refine ww_icmp_ge 40 rfl (tgt := 79) rfl (fun c28 => ?_) (fun c28 => ?_)
          · refine ww_run 43 8 (pc' := 200) (lv' := [(3, .int ((nI t) + 1)), (5, .int (codes i)), (0, .ref 0), (1, .int (nI part)), (2, .ref 4), (4, .int (nI i))]) (st' := []) (w' := wLaw nc codes ends (upd sk ((nI t).toNatClampNeg) (names ((codes i) - 10000).toNatClampNeg)) names) (Ps := [vp_in ((codes i) - 10000) 6, vp_in (nI t) 40]) rfl ⟨(by rw [vp_in_iff]; exact sub10 (by assumption) (by assumption)), (vp_in_nI (by omega) (by omega)), trivial⟩ ?_
            rw [nI_clamp (n := t) (by omega)]
            rw [nI_1 t]
            refine ww_run 114 2 (pc' := 27) (lv' := [(4, .int ((nI i) + 1)), (3, .int (nI (t + 1))), (5, .int (codes i)), (0, .ref 0), (1, .int (nI part)), (2, .ref 4)]) (st' := []) (w' := wLaw nc codes ends (upd sk (t) (names ((codes i) - 10000).toNatClampNeg)) names) (Ps := []) rfl trivial ?_
            rw [nI_1 i]
            refine ww_lv [3, 4, 5, 1, 0] (lv' := [(0, .ref 0), (1, .int (nI part)), (2, .ref 4), (3, .int (nI (t + 1))), (4, .int (nI (i + 1)))]) rfl ?_
            refine ih (i + 1) (upd sk (t) (names ((codes i) - 10000).toNatClampNeg)) (t + 1) (by omega) (by omega) (by omega) (by omega) ?_
            rw [show i + 1 - sFrom e part = (i - sFrom e part) + 1 by omega]
            show sStep names (codes (sFrom e part + (i - sFrom e part))) (sRun names codes (sFrom e part) (upd stk 0 0, 0) (i - sFrom e part)) = _
            rw [hs, show sFrom e part + (i - sFrom e part) = i by omega]
            unfold sStep
            simp only
            grind
          · refine ww_run 41 2 (pc' := 87) (lv' := [(5, .int (codes i)), (0, .ref 0), (1, .int (nI part)), (2, .ref 4), (3, .int (nI t)), (4, .int (nI i))]) (st' := [.int (codes i), .int (nI t), .ref 3]) (w' := wLaw nc codes ends sk names) (Ps := []) rfl trivial ?_
            refine ww_run 48 3 (pc' := 200) (lv' := [(3, .int ((nI t) + 1)), (5, .int (codes i)), (0, .ref 0), (1, .int (nI part)), (2, .ref 4), (4, .int (nI i))]) (st' := []) (w' := wLaw nc codes ends (upd sk ((nI t).toNatClampNeg) (codes i)) names) (Ps := [vp_in (nI t) 40]) rfl ⟨(vp_in_nI (by omega) (by omega)), trivial⟩ ?_
            rw [nI_clamp (n := t) (by omega)]
            rw [nI_1 t]
            refine ww_run 114 2 (pc' := 27) (lv' := [(4, .int ((nI i) + 1)), (3, .int (nI (t + 1))), (5, .int (codes i)), (0, .ref 0), (1, .int (nI part)), (2, .ref 4)]) (st' := []) (w' := wLaw nc codes ends (upd sk (t) (codes i)) names) (Ps := []) rfl trivial ?_
            rw [nI_1 i]
            refine ww_lv [3, 4, 5, 1, 0] (lv' := [(0, .ref 0), (1, .int (nI part)), (2, .ref 4), (3, .int (nI (t + 1))), (4, .int (nI (i + 1)))]) rfl ?_
            refine ih (i + 1) (upd sk (t) (codes i)) (t + 1) (by omega) (by omega) (by omega) (by omega) ?_
            rw [show i + 1 - sFrom e part = (i - sFrom e part) + 1 by omega]
            show sStep names (codes (sFrom e part + (i - sFrom e part))) (sRun names codes (sFrom e part) (upd stk 0 0, 0) (i - sFrom e part)) = _
            rw [hs, show sFrom e part + (i - sFrom e part) = i by omega]
            unfold sStep
            simp only
            grind
