/-! texts: number i is the reference 1000000 + i, its bytes the reference 2000000 + i -/
section
variable {M : XM} {d : Nat} {Q : Option Value → List va_E → Prop} {z : Nat × Nat × Nat × Nat} {pc : Nat} {lv : List (Nat × Value)} {st : List Value} {w : List va_E}
theorem ww_sval (a : Nat) {idx i : Nat} (hi : i < 13) (hlk : mb (.fieldLink M.2.2.2.2.2.1 idx "java/lang/String" "value" "[B") = true) (hq : M.2.2.2.2.1[a]? = some (pc, .getfield idx, 3)) (kk : WW M d Q z (pc + 3) lv (.ref (2000000 + i) :: st) w) : WW M d Q z pc lv (.ref (1000000 + i) :: st) w := by
  intro hM p l e s m args below meth c D cy A n0 ad0 C ad H locs ls X
  obtain ⟨hx, hb, hr2, hlk', hml, hown, hts, hK, hA, hnm, hmt⟩ := id C
  obtain ⟨-, -, h4, -⟩ := X.2.2.2.2.1.2
  exact vk_getf hx hb (h4.1 i hi).2.2.1 X.2.2.1 hown (hts _ (mb_in hlk)) (fun _ h => h) (xpc hM hq) (kk hM C X)
theorem ww_scod (a : Nat) {idx i : Nat} (hi : i < 13) (hlk : mb (.fieldLink M.2.2.2.2.2.1 idx "java/lang/String" "coder" "B") = true) (hq : M.2.2.2.2.1[a]? = some (pc, .getfield idx, 3)) (kk : WW M d Q z (pc + 3) lv (.int 0 :: st) w) : WW M d Q z pc lv (.ref (1000000 + i) :: st) w := by
  intro hM p l e s m args below meth c D cy A n0 ad0 C ad H locs ls X
  obtain ⟨hx, hb, hr2, hlk', hml, hown, hts, hK, hA, hnm, hmt⟩ := id C
  obtain ⟨-, -, h4, -⟩ := X.2.2.2.2.1.2
  exact vk_getf hx hb (h4.1 i hi).2.1 X.2.2.1 hown (hts _ (mb_in hlk)) (fun _ h => h) (xpc hM hq) (kk hM C X)
theorem ww_scom (a : Nat) {idx : Nat} (hlk : mb (.fieldLink M.2.2.2.2.2.1 idx "java/lang/String" "COMPACT_STRINGS" "Z") = true) (hq : M.2.2.2.2.1[a]? = some (pc, .getstatic idx, 3)) (kk : WW M d Q z (pc + 3) lv (.int 1 :: st) w) : WW M d Q z pc lv st w := by
  intro hM p l e s m args below meth c D cy A n0 ad0 C ad H locs ls X
  obtain ⟨hx, hb, hr2, hlk', hml, hown, hts, hK, hA, hnm, hmt⟩ := id C
  obtain ⟨-, -, -, -, h6, -⟩ := X.2.2.2.2.1.2
  exact va_gets hx hb h6 X.2.2.1 hown (hts _ (mb_in hlk)) (fun _ h => h) (xpc hM hq) (kk hM C X)
theorem ww_sfmt (a : Nat) {idx : Nat} (hlk : mb (.fieldLink M.2.2.2.2.2.1 idx "jdk/internal/util/Preconditions" "SIOOBE_FORMATTER" "Ljava/util/function/BiFunction;") = true) (hq : M.2.2.2.2.1[a]? = some (pc, .getstatic idx, 3)) (kk : ∀ v, v = .null ∨ v = .ref 3000000 → WW M d Q z (pc + 3) lv (v :: st) w) : WW M d Q z pc lv st w := by
  intro hM p l e s m args below meth c D cy A n0 ad0 C ad H locs ls X
  obtain ⟨hx, hb, hr2, hlk', hml, hown, hts, hK, hA, hnm, hmt⟩ := id C
  obtain ⟨-, -, -, -, -, h7⟩ := X.2.2.2.2.1.2
  rcases h7 with h7 | h7
  · exact va_gets hx hb h7 X.2.2.1 hown (hts _ (mb_in hlk)) (fun _ h => h) (xpc hM hq) (kk .null (Or.inl rfl) hM C X)
  · exact va_gets hx hb h7 X.2.2.1 hown (hts _ (mb_in hlk)) (fun _ h => h) (xpc hM hq) (kk (.ref 3000000) (Or.inr rfl) hM C X)
def slen (i : Nat) : Nat := (xsat i).2.2.2.length
def sbyt (i j : Nat) : Int32 := (xsat i).2.2.2.getD j 0
theorem slen_at {i : Nat} (hi : i < 13) : (xstr.map (fun q => q.2.2.2.length)).getD i 0 = slen i := by
  rcases (show i = 0 ∨ i = 1 ∨ i = 2 ∨ i = 3 ∨ i = 4 ∨ i = 5 ∨ i = 6 ∨ i = 7 ∨ i = 8 ∨ i = 9 ∨ i = 10 ∨ i = 11 ∨ i = 12 by omega) with rfl | rfl | rfl | rfl | rfl | rfl | rfl | rfl | rfl | rfl | rfl | rfl | rfl <;> rfl
theorem sbyt_at {i j : Nat} (hi : i < 13) : ((xstr.map (fun q => q.2.2.2)).getD i []).getD j 0 = sbyt i j := by
  rcases (show i = 0 ∨ i = 1 ∨ i = 2 ∨ i = 3 ∨ i = 4 ∨ i = 5 ∨ i = 6 ∨ i = 7 ∨ i = 8 ∨ i = 9 ∨ i = 10 ∨ i = 11 ∨ i = 12 by omega) with rfl | rfl | rfl | rfl | rfl | rfl | rfl | rfl | rfl | rfl | rfl | rfl | rfl <;> rfl
theorem ww_slen (a : Nat) {i : Nat} (hi : i < 13) (hq : M.2.2.2.2.1[a]? = some (pc, .arraylength, 1)) (kk : WW M d Q z (pc + 1) lv (.int (nI (slen i)) :: st) w) : WW M d Q z pc lv (.ref (2000000 + i) :: st) w := by
  intro hM p l e s m args below meth c D cy A n0 ad0 C ad H locs ls X
  obtain ⟨hx, hb, hr2, hlk', hml, hown, hts, hK, hA, hnm, hmt⟩ := id C
  obtain ⟨-, -, h4, -⟩ := X.2.2.2.2.1.2
  exact va_tlen hx hb (h4.1 i hi).2.2.2 X.2.2.1 (by rw [slen_at hi]; rfl) (xpc hM hq) (kk hM C X)
theorem ww_sbal (a : Nat) {i : Nat} {j : Int32} (hi : i < 13) (hj : vp_in j (slen i)) (hq : M.2.2.2.2.1[a]? = some (pc, .baload, 1)) (kk : WW M d Q z (pc + 1) lv (.int (sbyt i j.toNatClampNeg) :: st) w) : WW M d Q z pc lv (.int j :: .ref (2000000 + i) :: st) w := by
  intro hM p l e s m args below meth c D cy A n0 ad0 C ad H locs ls X
  obtain ⟨hx, hb, hr2, hlk', hml, hown, hts, hK, hA, hnm, hmt⟩ := id C
  obtain ⟨-, -, h4, -⟩ := X.2.2.2.2.1.2
  exact va_tb hx hb (h4.1 i hi).2.2.2 X.2.2.1 (by rw [slen_at hi]; exact hj) (by rw [sbyt_at hi]; rfl) (xpc hM hq) (kk hM C X)
end
section
variable {M M' : XM} {d d' mc ms : Nat} {Q Q' : Option Value → List va_E → Prop} {z : Nat × Nat × Nat × Nat} {pc : Nat} {lv : List (Nat × Value)} {rest av : List Value} {w w1 : List va_E}
/-- a call at a text -/
theorem ww_callVT (a : Nat) {i idx n : Nat} (hM' : okM M') (hc : Co M' d' mc ms (.ref (1000000 + i) :: av) w Q') (hok : okV M.2.2.2.2.2.1 idx M'.1 n = true) (hn : av.length = n) (hcl : z.2.2.1 + mc ≤ z.1) (hsl : z.2.2.2 + ms ≤ z.2.1) (hsc : mc = 0 ∨ (rest.all (xsc w.length) = true ∧ lv.all (fun q => xsc w.length q.2) = true))
    (hd : d' + 1 ≤ d) {st : List Value} (hst : st = av.reverse ++ .ref (1000000 + i) :: rest) (hrm : (rest.map fun v => v.category).sum ≤ 8) (hi : i < 13) (hcls : M'.1.cls = "java/lang/String") (hq : M.2.2.2.2.1[a]? = some (pc, .invokevirtual idx, 3))
    (kk : ∀ (r : Option Value) (w' : List va_E), Q' r w' → WW M d Q (z.1, z.2.1, z.2.2.1 + mc, z.2.2.2 + ms) (pc + 3) lv (r.toList ++ rest) w') : WW M d Q z pc lv st w := by
  subst hst
  intro hM p l e s m args below meth c D cy A n0 ad0 C ad H locs ls X
  obtain ⟨hx, hbb, hr2, hlk, hml, hown, hts, hK, hA, hnm, hmt⟩ := id C
  obtain ⟨-, -, h4, -⟩ := id X.2.2.2.2.1.2
  simp only [okV, Bool.and_eq_true, decide_eq_true_eq] at hok
  obtain ⟨o1, o2, o3, o4, o5, o6, o7⟩ := hok
  have hpre := xw_pre (av := .ref (1000000 + i) :: av) X.1 hK X.2.1 X.2.2.1 hA X.2.2.2.2.1.2
  refine ww_back hM C X hcl hsl hsc (ar := ((Value.ref (1000000 + i) :: av).map (xt ad)).toArray) ?_ kk
  refine va_runV (own := M.2.2.2.2.2.1) (C := M'.1.cls) (Ts := bigw) (As := av.map (xt ad)) (b := ad (1000000 + i)) (nL := M.2.2.1) (cc := M.2.1) ⟨hx, hbb, hml, hown, hts⟩ (hc l D cy ad H.size) (index := idx) (n := n) (bytes := M'.2.1) (maxL := M'.2.2.1) (ret := M'.2.2.2.1)
    ⟨callB_of (ws' := bigw) n hts (xws_good hM') rfl rfl rfl (hts _ (mb_in o4)) (hts _ (mb_in o1)) ⟨o5, o6, o7⟩ ⟨hd, ?_⟩, hts _ (mb_in o2), hts _ (mb_in o3)⟩
    ⟨hpre.1, ?_, hpre.2⟩ rfl (by rw [List.length_map]; exact hn) X.2.2.2.1.1 (by simp [xt]) (lv_room (by simpa [Function.comp_def, xt_cat] using hrm)) (xpc hM hq) ⟨hcl, hsl⟩
  · have := hM'.2.2.2.2.2
    show 8 + (M'.2.2.1 + 11) + 64 * d' ≤ 64 * d
    omega
  · rw [hcls]
    exact vk_recv (adK := fun i => ad (1000000 + i)) (i := i) h4 hi X.2.2.1
theorem ww_cVTi (a : Nat) {x : Int32} {i idx n : Nat} (hM' : okM M') (hi : i < 13) (hc : Co M' d' 0 0 (.ref (1000000 + i) :: av) w (Qi x w1)) (hok : okV M.2.2.2.2.2.1 idx M'.1 n = true) (hn : av.length = n) (hd : d' + 1 ≤ d) {st : List Value} (hst : st = av.reverse ++ .ref (1000000 + i) :: rest) (hrm : (rest.map fun v => v.category).sum ≤ 8) (hcls : M'.1.cls = "java/lang/String") (hq : M.2.2.2.2.1[a]? = some (pc, .invokevirtual idx, 3))
    (kk : WW M d Q xz (pc + 3) lv (.int x :: rest) w1) : WW M d Q xz pc lv st w :=
  ww_callVT a hM' hc hok hn (Nat.le_refl _) (Nat.le_refl _) (Or.inl rfl) hd hst hrm hi hcls hq (fun r w' h => by obtain ⟨rfl, rfl⟩ := h; exact kk)
end
/-- coder(), isLatin1(), length() -/
theorem x_scoder (i : Nat) (hi : i < 13) : Co M_J0_coder_7d493 0 0 0 [.ref (1000000 + i)] (wZero) (Qi 0 wZero) := by
  refine Co.of ok_J0_coder_7d493 rfl ?_
  refine ww_scom 0 (by decide +kernel) rfl ?_
  refine ww_if_eq 1 rfl (tgt := 13) rfl (fun c => absurd c (by decide)) (fun _ => ?_)
  refine ww_run 2 1 (pc' := 7) (lv' := [(0, .ref (1000000 + i))]) (st' := [.ref (1000000 + i)]) (w' := wZero) (Ps := []) rfl trivial ?_
  refine ww_scod 3 hi (by decide +kernel) rfl ?_
  refine ww_run 4 1 (pc' := 14) (lv' := [(0, .ref (1000000 + i))]) (st' := [.int 0]) (w' := wZero) (Ps := []) rfl trivial ?_
  refine ww_zret 6 rfl rfl rfl ?_
  exact ⟨rfl, rfl⟩
theorem x_slatin (i : Nat) (hi : i < 13) : Co M_J0_isLatin1_aae02 0 0 0 [.ref (1000000 + i)] (wZero) (Qi 1 wZero) := by
  refine Co.of ok_J0_isLatin1_aae02 rfl ?_
  refine ww_scom 0 (by decide +kernel) rfl ?_
  refine ww_if_eq 1 rfl (tgt := 17) rfl (fun c => absurd c (by decide)) (fun _ => ?_)
  refine ww_run 2 1 (pc' := 7) (lv' := [(0, .ref (1000000 + i))]) (st' := [.ref (1000000 + i)]) (w' := wZero) (Ps := []) rfl trivial ?_
  refine ww_scod 3 hi (by decide +kernel) rfl ?_
  refine ww_if_ne 4 rfl (tgt := 17) rfl (fun c => absurd rfl c) (fun _ => ?_)
  refine ww_run 5 2 (pc' := 18) (lv' := [(0, .ref (1000000 + i))]) (st' := [.int 1]) (w' := wZero) (Ps := []) rfl trivial ?_
  refine ww_zret 8 rfl rfl rfl ?_
  exact ⟨rfl, rfl⟩
