/-! texts: number i is the reference 1000000 + i, its bytes the reference 2000000 + i -/
section
variable {M : XM} {d : Nat} {Q : Option Value → List va_E → Prop} {z : Nat × Nat × Nat × Nat} {pc : Nat} {lv : List (Nat × Value)} {st : List Value} {w : List va_E}
theorem ww_sval (a : Nat) {idx i : Nat} (hi : i < 13) (hlk : mb (.fieldLink M.2.2.2.2.2.1 idx "java/lang/String" "value" "[B") = true) (hq : M.2.2.2.2.1[a]? = some (pc, .getfield idx, 3)) (kk : WW M d Q z (pc + 3) lv (.ref (2000000 + i) :: st) w) : WW M d Q z pc lv (.ref (1000000 + i) :: st) w := by
  intro hM p l e s m args below meth c D cy A n0 ad0 C ad H locs ls X
  obtain ⟨hx, hb, hr2, hlk', hml, hown, hts, hK, hA, hnm, hmt⟩ := id C
  obtain ⟨-, -, h4, -⟩ := X.2.2.2.2.1.2
  exact vk_getf hx hb (h4.1 i hi).2.2.1 X.2.2.1 hown (hts _ (mb_in hlk)) (fun _ h => h) (xpc hM hq) (kk hM C X)
theorem ww_scod (a : Nat) {idx i : Nat} (hi : i < 13) (hlk : mb (.fieldLink M.2.2.2.2.2.1 idx "java/lang/String" "coder" "B") = true) (hq : M.2.2.2.2.1[a]? = some (pc, .getfield idx, 3)) (kk : WW M d Q z (pc + 3) lv (.int 0 :: st) w) : WW M d Q z pc lv (.ref (1000000 + i) :: st) w := by
  intro hM p l e s m args below meth c D cy A n0 ad0 C ad H locs ls X
  obtain ⟨hx, hb, hr2, hlk', hml, hown, hts, hK, hA, hnm, hmt⟩ := id C
  obtain ⟨-, -, h4, -⟩ := X.2.2.2.2.1.2
  exact vk_getf hx hb (h4.1 i hi).2.1 X.2.2.1 hown (hts _ (mb_in hlk)) (fun _ h => h) (xpc hM hq) (kk hM C X)
theorem ww_scom (a : Nat) {idx : Nat} (hlk : mb (.fieldLink M.2.2.2.2.2.1 idx "java/lang/String" "COMPACT_STRINGS" "Z") = true) (hq : M.2.2.2.2.1[a]? = some (pc, .getstatic idx, 3)) (kk : WW M d Q z (pc + 3) lv (.int 1 :: st) w) : WW M d Q z pc lv st w := by
  intro hM p l e s m args below meth c D cy A n0 ad0 C ad H locs ls X
  obtain ⟨hx, hb, hr2, hlk', hml, hown, hts, hK, hA, hnm, hmt⟩ := id C
  obtain ⟨-, -, -, -, h6, -⟩ := X.2.2.2.2.1.2
  exact va_gets hx hb h6 X.2.2.1 hown (hts _ (mb_in hlk)) (fun _ h => h) (xpc hM hq) (kk hM C X)
theorem ww_sfmt (a : Nat) {idx : Nat} (hlk : mb (.fieldLink M.2.2.2.2.2.1 idx "jdk/internal/util/Preconditions" "SIOOBE_FORMATTER" "Ljava/util/function/BiFunction;") = true) (hq : M.2.2.2.2.1[a]? = some (pc, .getstatic idx, 3)) (kk : ∀ v, v = .null ∨ v = .ref 3000000 → WW M d Q z (pc + 3) lv (v :: st) w) : WW M d Q z pc lv st w := by
  intro hM p l e s m args below meth c D cy A n0 ad0 C ad H locs ls X
  obtain ⟨hx, hb, hr2, hlk', hml, hown, hts, hK, hA, hnm, hmt⟩ := id C
  obtain ⟨-, -, -, -, -, h7⟩ := X.2.2.2.2.1.2
  rcases h7 with h7 | h7
  · exact va_gets hx hb h7 X.2.2.1 hown (hts _ (mb_in hlk)) (fun _ h => h) (xpc hM hq) (kk .null (Or.inl rfl) hM C X)
  · exact va_gets hx hb h7 X.2.2.1 hown (hts _ (mb_in hlk)) (fun _ h => h) (xpc hM hq) (kk (.ref 3000000) (Or.inr rfl) hM C X)
def slen (i : Nat) : Nat := (xsat i).2.2.2.length
def sbyt (i j : Nat) : Int32 := (xsat i).2.2.2.getD j 0
theorem slen_at {i : Nat} (hi : i < 13) : (xstr.map (fun q => q.2.2.2.length)).getD i 0 = slen i := by
  rcases (show i = 0 ∨ i = 1 ∨ i = 2 ∨ i = 3 ∨ i = 4 ∨ i = 5 ∨ i = 6 ∨ i = 7 ∨ i = 8 ∨ i = 9 ∨ i = 10 ∨ i = 11 ∨ i = 12 by omega) with rfl | rfl | rfl | rfl | rfl | rfl | rfl | rfl | rfl | rfl | rfl | rfl | rfl <;> rfl
theorem sbyt_at {i j : Nat} (hi : i < 13) : ((xstr.map (fun q => q.2.2.2)).getD i []).getD j 0 = sbyt i j := by
  rcases (show i = 0 ∨ i = 1 ∨ i = 2 ∨ i = 3 ∨ i = 4 ∨ i = 5 ∨ i = 6 ∨ i = 7 ∨ i = 8 ∨ i = 9 ∨ i = 10 ∨ i = 11 ∨ i = 12 by omega) with rfl | rfl | rfl | rfl | rfl | rfl | rfl | rfl | rfl | rfl | rfl | rfl | rfl <;> rfl
theorem ww_slen (a : Nat) {i : Nat} (hi : i < 13) (hq : M.2.2.2.2.1[a]? = some (pc, .arraylength, 1)) (kk : WW M d Q z (pc + 1) lv (.int (nI (slen i)) :: st) w) : WW M d Q z pc lv (.ref (2000000 + i) :: st) w := by
  intro hM p l e s m args below meth c D cy A n0 ad0 C ad H locs ls X
  obtain ⟨hx, hb, hr2, hlk', hml, hown, hts, hK, hA, hnm, hmt⟩ := id C
  obtain ⟨-, -, h4, -⟩ := X.2.2.2.2.1.2
  exact va_tlen hx hb (h4.1 i hi).2.2.2 X.2.2.1 (by rw [slen_at hi]; rfl) (xpc hM hq) (kk hM C X)
theorem ww_sbal (a : Nat) {i : Nat} {j : Int32} (hi : i < 13) (hj : vp_in j (slen i)) (hq : M.2.2.2.2.1[a]? = some (pc, .baload, 1)) (kk : WW M d Q z (pc + 1) lv (.int (sbyt i j.toNatClampNeg) :: st) w) : WW M d Q z pc lv (.int j :: .ref (2000000 + i) :: st) w := by
  intro hM p l e s m args below meth c D cy A n0 ad0 C ad H locs ls X
  obtain ⟨hx, hb, hr2, hlk', hml, hown, hts, hK, hA, hnm, hmt⟩ := id C
  obtain ⟨-, -, h4, -⟩ := X.2.2.2.2.1.2
  exact va_tb hx hb (h4.1 i hi).2.2.2 X.2.2.1 (by rw [slen_at hi]; exact hj) (by rw [sbyt_at hi]; rfl) (xpc hM hq) (kk hM C X)
end
section
variable {M M' : XM} {d d' mc ms : Nat} {Q Q' : Option Value → List va_E → Prop} {z : Nat × Nat × Nat × Nat} {pc : Nat} {lv : List (Nat × Value)} {rest av : List Value} {w w1 : List va_E}
/-- a call at a text -/
theorem ww_callVT (a : Nat) {i idx n : Nat} (hM' : okM M') (hc : Co M' d' mc ms (.ref (1000000 + i) :: av) w Q') (hok : okV M.2.2.2.2.2.1 idx M'.1 n = true) (hn : av.length = n) (hcl : z.2.2.1 + mc ≤ z.1) (hsl : z.2.2.2 + ms ≤ z.2.1) (hsc : mc = 0 ∨ (rest.all (xsc w.length) = true ∧ lv.all (fun q => xsc w.length q.2) = true))
    (hd : d' + 1 ≤ d) {st : List Value} (hst : st = av.reverse ++ .ref (1000000 + i) :: rest) (hrm : (rest.map fun v => v.category).sum ≤ 8) (hi : i < 13) (hcls : M'.1.cls = "java/lang/String") (hq : M.2.2.2.2.1[a]? = some (pc, .invokevirtual idx, 3))
    (kk : ∀ (r : Option Value) (w' : List va_E), Q' r w' → WW M d Q (z.1, z.2.1, z.2.2.1 + mc, z.2.2.2 + ms) (pc + 3) lv (r.toList ++ rest) w') : WW M d Q z pc lv st w := by
  subst hst
  intro hM p l e s m args below meth c D cy A n0 ad0 C ad H locs ls X
  obtain ⟨hx, hbb, hr2, hlk, hml, hown, hts, hK, hA, hnm, hmt⟩ := id C
  obtain ⟨-, -, h4, -⟩ := id X.2.2.2.2.1.2
  simp only [okV, Bool.and_eq_true, decide_eq_true_eq] at hok
  obtain ⟨o1, o2, o3, o4, o5, o6, o7⟩ := hok
  have hpre := xw_pre (av := .ref (1000000 + i) :: av) X.1 hK X.2.1 X.2.2.1 hA X.2.2.2.2.1.2
  refine ww_back hM C X hcl hsl hsc (ar := ((Value.ref (1000000 + i) :: av).map (xt ad)).toArray) ?_ kk
  refine va_runV (own := M.2.2.2.2.2.1) (C := M'.1.cls) (Ts := bigw) (As := av.map (xt ad)) (b := ad (1000000 + i)) (nL := M.2.2.1) (cc := M.2.1) ⟨hx, hbb, hml, hown, hts⟩ (hc l D cy ad H.size) (index := idx) (n := n) (bytes := M'.2.1) (maxL := M'.2.2.1) (ret := M'.2.2.2.1)
    ⟨callB_of (ws' := bigw) n hts (xws_good hM') rfl rfl rfl (hts _ (mb_in o4)) (hts _ (mb_in o1)) ⟨o5, o6, o7⟩ ⟨hd, ?_⟩, hts _ (mb_in o2), hts _ (mb_in o3)⟩
    ⟨hpre.1, ?_, hpre.2⟩ rfl (by rw [List.length_map]; exact hn) X.2.2.2.1.1 (by simp [xt]) (lv_room (by simpa [Function.comp_def, xt_cat] using hrm)) (xpc hM hq) ⟨hcl, hsl⟩
  · have := hM'.2.2.2.2.2
    show 8 + (M'.2.2.1 + 11) + 64 * d' ≤ 64 * d
    omega
  · rw [hcls]
    exact vk_recv (adK := fun i => ad (1000000 + i)) (i := i) h4 hi X.2.2.1
theorem ww_cVTi (a : Nat) {x : Int32} {i idx n : Nat} (hM' : okM M') (hi : i < 13) (hc : Co M' d' 0 0 (.ref (1000000 + i) :: av) w (Qi x w1)) (hok : okV M.2.2.2.2.2.1 idx M'.1 n = true) (hn : av.length = n) (hd : d' + 1 ≤ d) {st : List Value} (hst : st = av.reverse ++ .ref (1000000 + i) :: rest) (hrm : (rest.map fun v => v.category).sum ≤ 8) (hcls : M'.1.cls = "java/lang/String") (hq : M.2.2.2.2.1[a]? = some (pc, .invokevirtual idx, 3))
    (kk : WW M d Q xz (pc + 3) lv (.int x :: rest) w1) : WW M d Q xz pc lv st w :=
  ww_callVT a hM' hc hok hn (Nat.le_refl _) (Nat.le_refl _) (Or.inl rfl) hd hst hrm hi hcls hq (fun r w' h => by obtain ⟨rfl, rfl⟩ := h; exact kk)
end
/-- coder(), isLatin1(), length() -/
theorem ww_i2c {M : XM} {d : Nat} {Q : Option Value → List va_E → Prop} {z : Nat × Nat × Nat × Nat} {pc : Nat} {lv : List (Nat × Value)} {st : List Value} {w : List va_E} (a : Nat) {x : Int32} (hq : M.2.2.2.2.1[a]? = some (pc, .i2c, 1)) (kk : WW M d Q z (pc + 1) lv (.int (x.toUInt32 % 65536).toInt32 :: st) w) : WW M d Q z pc lv (.int x :: st) w := by
  intro hM p l e s m args below meth c D cy A n0 ad0 C ad H locs ls X
  exact lv_i2c C.1 C.2.1 (xpc hM hq) rfl (kk hM C X)
section
variable {w : List va_E}
theorem x_scoder (i : Nat) (hi : i < 13) : Co M_J0_coder_7d493 0 0 0 [.ref (1000000 + i)] w (Qi 0 w) := by
  refine Co.of ok_J0_coder_7d493 rfl ?_
  refine ww_scom 0 (by decide +kernel) rfl ?_
  refine ww_if_eq 1 rfl (tgt := 13) rfl (fun c => absurd c (by decide)) (fun _ => ?_)
  refine ww_run 2 1 (pc' := 7) (lv' := [(0, .ref (1000000 + i))]) (st' := [.ref (1000000 + i)]) (w' := w) (Ps := []) rfl trivial ?_
  refine ww_scod 3 hi (by decide +kernel) rfl ?_
  refine ww_run 4 1 (pc' := 14) (lv' := [(0, .ref (1000000 + i))]) (st' := [.int 0]) (w' := w) (Ps := []) rfl trivial ?_
  refine ww_zret 6 rfl rfl rfl ?_
  exact ⟨rfl, rfl⟩
theorem x_slatin (i : Nat) (hi : i < 13) : Co M_J0_isLatin1_aae02 0 0 0 [.ref (1000000 + i)] w (Qi 1 w) := by
  refine Co.of ok_J0_isLatin1_aae02 rfl ?_
  refine ww_scom 0 (by decide +kernel) rfl ?_
  refine ww_if_eq 1 rfl (tgt := 17) rfl (fun c => absurd c (by decide)) (fun _ => ?_)
  refine ww_run 2 1 (pc' := 7) (lv' := [(0, .ref (1000000 + i))]) (st' := [.ref (1000000 + i)]) (w' := w) (Ps := []) rfl trivial ?_
  refine ww_scod 3 hi (by decide +kernel) rfl ?_
  refine ww_if_ne 4 rfl (tgt := 17) rfl (fun c => absurd rfl c) (fun _ => ?_)
  refine ww_run 5 2 (pc' := 18) (lv' := [(0, .ref (1000000 + i))]) (st' := [.int 1]) (w' := w) (Ps := []) rfl trivial ?_
  refine ww_zret 8 rfl rfl rfl ?_
  exact ⟨rfl, rfl⟩
theorem slen_le {i : Nat} (hi : i < 13) : slen i ≤ 50 := by
  rcases (show i = 0 ∨ i = 1 ∨ i = 2 ∨ i = 3 ∨ i = 4 ∨ i = 5 ∨ i = 6 ∨ i = 7 ∨ i = 8 ∨ i = 9 ∨ i = 10 ∨ i = 11 ∨ i = 12 by omega) with rfl | rfl | rfl | rfl | rfl | rfl | rfl | rfl | rfl | rfl | rfl | rfl | rfl <;> exact Nat.le_of_ble_eq_true rfl
theorem x_slength (i : Nat) (hi : i < 13) : Co M_J0_length_8abf5 1 0 0 [.ref (1000000 + i)] w (Qi (nI (slen i)) w) := by
  refine Co.of ok_J0_length_8abf5 rfl ?_
  refine ww_run 0 1 (pc' := 1) (lv' := [(0, .ref (1000000 + i))]) (st' := [.ref (1000000 + i)]) (w' := w) (Ps := []) rfl trivial ?_
  refine ww_sval 1 hi (by decide +kernel) rfl ?_
  refine ww_slen 2 hi rfl ?_
  refine ww_run 3 1 (pc' := 6) (lv' := [(0, .ref (1000000 + i))]) (st' := [.ref (1000000 + i), .int (nI (slen i))]) (w' := w) (Ps := []) rfl trivial ?_
  refine ww_cVTi 4 ok_J0_coder_7d493 hi (x_scoder i hi) lk_J0_335 rfl (by omega) (rest := [.int (nI (slen i))]) rfl (Nat.le_of_ble_eq_true rfl) rfl rfl ?_
  refine ww_run 5 1 (pc' := 10) (lv' := [(0, .ref (1000000 + i))]) (st' := [.int (nI (slen i) >>> ((0 : Int32) &&& 31))]) (w' := w) (Ps := []) rfl trivial ?_
  rw [show nI (slen i) >>> ((0 : Int32) &&& 31) = nI (slen i) by
    rcases (show i = 0 ∨ i = 1 ∨ i = 2 ∨ i = 3 ∨ i = 4 ∨ i = 5 ∨ i = 6 ∨ i = 7 ∨ i = 8 ∨ i = 9 ∨ i = 10 ∨ i = 11 ∨ i = 12 by omega) with rfl | rfl | rfl | rfl | rfl | rfl | rfl | rfl | rfl | rfl | rfl | rfl | rfl <;> decide +kernel]
  refine ww_iret 6 rfl rfl ?_
  exact ⟨rfl, rfl⟩
theorem x_ck3a (j n : Nat) (hn : n ≤ 1000000) (hj : j < n) : Co M_J3_checkIndex_8e157 0 0 0 [.int (nI j), .int (nI n), .null] w (Qi (nI j) w) := by
  refine Co.of ok_J3_checkIndex_8e157 rfl ?_
  refine ww_run 0 1 (pc' := 1) (lv' := [(0, .int (nI j)), (1, .int (nI n)), (2, .null)]) (st' := [.int (nI j)]) (w' := w) (Ps := []) rfl trivial ?_
  refine ww_if_lt 1 rfl (tgt := 9) rfl (fun c => absurd c (nI_pos (by omega))) (fun _ => ?_)
  refine ww_run 2 2 (pc' := 6) (lv' := [(0, .int (nI j)), (1, .int (nI n)), (2, .null)]) (st' := [.int (nI n), .int (nI j)]) (w' := w) (Ps := []) rfl trivial ?_
  refine ww_icmp_lt 4 rfl (tgt := 16) rfl (fun _ => ?_) (fun c => absurd ((nI_ltI (a := j) (b := n) (by omega) (by omega)).mpr hj) c)
  refine ww_run 10 1 (pc' := 17) (lv' := [(0, .int (nI j)), (1, .int (nI n)), (2, .null)]) (st' := [.int (nI j)]) (w' := w) (Ps := []) rfl trivial ?_
  refine ww_iret 11 rfl rfl ?_
  exact ⟨rfl, rfl⟩
theorem x_ck3b (j n : Nat) (hn : n ≤ 1000000) (hj : j < n) : Co M_J3_checkIndex_8e157 0 0 0 [.int (nI j), .int (nI n), .ref 3000000] w (Qi (nI j) w) := by
  refine Co.of ok_J3_checkIndex_8e157 rfl ?_
  refine ww_run 0 1 (pc' := 1) (lv' := [(0, .int (nI j)), (1, .int (nI n)), (2, .ref 3000000)]) (st' := [.int (nI j)]) (w' := w) (Ps := []) rfl trivial ?_
  refine ww_if_lt 1 rfl (tgt := 9) rfl (fun c => absurd c (nI_pos (by omega))) (fun _ => ?_)
  refine ww_run 2 2 (pc' := 6) (lv' := [(0, .int (nI j)), (1, .int (nI n)), (2, .ref 3000000)]) (st' := [.int (nI n), .int (nI j)]) (w' := w) (Ps := []) rfl trivial ?_
  refine ww_icmp_lt 4 rfl (tgt := 16) rfl (fun _ => ?_) (fun c => absurd ((nI_ltI (a := j) (b := n) (by omega) (by omega)).mpr hj) c)
  refine ww_run 10 1 (pc' := 17) (lv' := [(0, .int (nI j)), (1, .int (nI n)), (2, .ref 3000000)]) (st' := [.int (nI j)]) (w' := w) (Ps := []) rfl trivial ?_
  refine ww_iret 11 rfl rfl ?_
  exact ⟨rfl, rfl⟩
theorem x_ck3 (j n : Nat) (hn : n ≤ 1000000) (hj : j < n) (v : Value) (hv : v = .null ∨ v = .ref 3000000) : Co M_J3_checkIndex_8e157 0 0 0 [.int (nI j), .int (nI n), v] w (Qi (nI j) w) := by
  rcases hv with rfl | rfl
  · exact x_ck3a j n hn hj
  · exact x_ck3b j n hn hj
theorem x_ck0 (j n : Nat) (hn : n ≤ 1000000) (hj : j < n) : Co M_J0_checkIndex_df160 1 0 0 [.int (nI j), .int (nI n)] w (Qv w) := by
  refine Co.of ok_J0_checkIndex_df160 rfl ?_
  refine ww_run 0 2 (pc' := 2) (lv' := [(0, .int (nI j)), (1, .int (nI n))]) (st' := [.int (nI n), .int (nI j)]) (w' := w) (Ps := []) rfl trivial ?_
  refine ww_sfmt 2 (by decide +kernel) rfl (fun v hv => ?_)
  refine ww_cSi 3 ok_J3_checkIndex_8e157 (x_ck3 j n hn hj v hv) lk_J0_1059 rfl (by omega) (rest := []) rfl (Nat.le_of_ble_eq_true rfl) rfl ?_
  refine ww_run 4 1 (pc' := 9) (lv' := [(0, .int (nI j)), (1, .int (nI n))]) (st' := []) (w' := w) (Ps := []) rfl trivial ?_
  refine ww_vret 5 rfl rfl ?_
  exact ⟨rfl, rfl⟩
theorem sbyt_c : ∀ i, i < 13 → ∀ j, j < 50 → ((sbyt i j &&& 255).toUInt32 % 65536).toInt32 = sbyt i j := by decide +kernel
theorem sbyt_n {i j : Nat} (hi : i < 13) (hj : j < 50) : narrow .char (.int (sbyt i j)) = .int (sbyt i j) := by
  have h : ∀ i, i < 13 → ∀ j, j < 50 → ((sbyt i j).toUInt32.toUInt16.toUInt32.toInt32) = sbyt i j := by decide +kernel
  exact congrArg Value.int (h i hi j hj)
theorem x_char1 (i j : Nat) (hi : i < 13) (hj : j < slen i) : Co M_J1_charAt_3b067 2 0 0 [.ref (2000000 + i), .int (nI j)] w (Qi (sbyt i j) w) := by
  have hl := slen_le hi
  refine Co.of ok_J1_charAt_3b067 rfl ?_
  refine ww_run 0 2 (pc' := 2) (lv' := [(0, .ref (2000000 + i)), (1, .int (nI j))]) (st' := [.ref (2000000 + i), .int (nI j)]) (w' := w) (Ps := []) rfl trivial ?_
  refine ww_slen 2 hi rfl ?_
  refine ww_cSv 3 ok_J0_checkIndex_df160 (x_ck0 j (slen i) (by omega) hj) lk_J1_9 rfl (by omega) (rest := []) rfl (Nat.le_of_ble_eq_true rfl) rfl ?_
  refine ww_run 4 2 (pc' := 8) (lv' := [(0, .ref (2000000 + i)), (1, .int (nI j))]) (st' := [.int (nI j), .ref (2000000 + i)]) (w' := w) (Ps := []) rfl trivial ?_
  refine ww_sbal 6 hi (vp_in_nI (by omega) (by omega)) rfl ?_
  rw [nI_clamp (n := j) (by omega)]
  refine ww_run 7 2 (pc' := 13) (lv' := [(0, .ref (2000000 + i)), (1, .int (nI j))]) (st' := [.int (sbyt i j &&& 255)]) (w' := w) (Ps := []) rfl trivial ?_
  refine ww_i2c 9 rfl ?_
  rw [sbyt_c i hi j (by omega)]
  refine ww_zret 10 rfl rfl (sbyt_n hi (by omega)) ?_
  exact ⟨rfl, rfl⟩
theorem x_char0 (i j : Nat) (hi : i < 13) (hj : j < slen i) : Co M_J0_charAt_5068e 3 0 0 [.ref (1000000 + i), .int (nI j)] w (Qi (sbyt i j) w) := by
  have hl := slen_le hi
  refine Co.of ok_J0_charAt_5068e rfl ?_
  refine ww_run 0 1 (pc' := 1) (lv' := [(0, .ref (1000000 + i)), (1, .int (nI j))]) (st' := [.ref (1000000 + i)]) (w' := w) (Ps := []) rfl trivial ?_
  refine ww_cVTi 1 ok_J0_isLatin1_aae02 hi (x_slatin i hi) lk_J0_492 rfl (by omega) (rest := []) rfl (Nat.le_of_ble_eq_true rfl) rfl rfl ?_
  refine ww_if_eq 2 rfl (tgt := 16) rfl (fun c => absurd c (by decide)) (fun _ => ?_)
  refine ww_run 3 1 (pc' := 8) (lv' := [(0, .ref (1000000 + i)), (1, .int (nI j))]) (st' := [.ref (1000000 + i)]) (w' := w) (Ps := []) rfl trivial ?_
  refine ww_sval 4 hi (by decide +kernel) rfl ?_
  refine ww_run 5 1 (pc' := 12) (lv' := [(0, .ref (1000000 + i)), (1, .int (nI j))]) (st' := [.int (nI j), .ref (2000000 + i)]) (w' := w) (Ps := []) rfl trivial ?_
  refine ww_cSi 6 ok_J1_charAt_3b067 (x_char1 i j hi hj) lk_J0_495 rfl (by omega) (rest := []) rfl (Nat.le_of_ble_eq_true rfl) rfl ?_
  refine ww_zret 7 rfl rfl (sbyt_n hi (by omega)) ?_
  exact ⟨rfl, rfl⟩
end
