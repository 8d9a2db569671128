abbrev fsX6 : List Value := [.null, .null, .int 0, .null, .null, .int 0, .null, .null, .int 0, .int 0, .null, .null, .null, .null]
abbrev fsX7 : List Value := [.int 0, .null, .int 0, .null, .null, .null, .null, .int 0, .null, .null, .int 0, .int 0, .int 0, .int 0, .int 0, .int 0, .null, .null, .null, .null, .null, .null, .null, .int 0, .int 0, .int 0, .int 0, .null, .null, .int 0, .int 0, .int 0, .null, .null, .null, .null, .null, .null, .null, .null, .null, .null, .int 0, .null, .int 0, .int 0, .null]
theorem tyX6_b : ∀ j, j < 14 → defaultValue (tyX6 j) = vp_V fsX6 j := by
  intro k hk
  rcases (show k = 0 ∨ k = 1 ∨ k = 2 ∨ k = 3 ∨ k = 4 ∨ k = 5 ∨ k = 6 ∨ k = 7 ∨ k = 8 ∨ k = 9 ∨ k = 10 ∨ k = 11 ∨ k = 12 ∨ k = 13 by omega) with rfl | rfl | rfl | rfl | rfl | rfl | rfl | rfl | rfl | rfl | rfl | rfl | rfl | rfl <;> rfl
theorem dfX6 : ∀ v ∈ fsX6, ∀ ad, xt ad v = v := by
  intro v hv ad
  simp only [fsX6, List.mem_cons, List.not_mem_nil, or_false] at hv
  rcases hv with rfl | rfl | rfl | rfl | rfl | rfl | rfl | rfl | rfl | rfl | rfl | rfl | rfl | rfl <;> rfl
/-- both constructors, one behind the other -/
def START (INV : List va_E → Prop) : Prop := ∃ (d1 mc1 ms1 : Nat) (Q1 : Option Value → List va_E → Prop), d1 ≤ 1000 ∧ mc1 ≤ 51 ∧ ms1 ≤ 938 ∧ Co M_X6_init d1 mc1 ms1 [.ref 0] [.inr (5, fsX6)] Q1 ∧ ∀ r w', Q1 r w' → r = none ∧ w'.length = 52 ∧ (∀ e ∈ w', xeS 52 e) ∧
  ∃ (d2 mc2 ms2 : Nat) (Q2 : Option Value → List va_E → Prop), d2 ≤ 1000 ∧ mc2 ≤ 28 ∧ ms2 ≤ 2231 ∧ Co M_X7_init d2 mc2 ms2 [.ref 52] (w' ++ [.inr (6, fsX7)]) Q2 ∧ ∀ r2 w2, Q2 r2 w2 → r2 = none ∧ INV w2
theorem lI_6 : mb (.methodLink R_law 9 M_X6_init.1) = true ∧ mb (.instanceMethod M_X6_init.1) = true ∧ mb (.initialized M_X6_init.1.cls) = true ∧ M_X6_init.1.cls ≠ "java/lang/invoke/MethodHandle" ∧ M_X6_init.1.cls ≠ "java/lang/invoke/VarHandle" ∧ (parseMethodDescriptor M_X6_init.1.desc).map (fun d => d.parameters.length) = some 0 := ⟨by decide +kernel, by decide +kernel, by decide +kernel, by decide +kernel, by decide +kernel, by decide +kernel⟩
theorem lI_7 : mb (.methodLink R_law 12 M_X7_init.1) = true ∧ mb (.instanceMethod M_X7_init.1) = true ∧ mb (.initialized M_X7_init.1.cls) = true ∧ M_X7_init.1.cls ≠ "java/lang/invoke/MethodHandle" ∧ M_X7_init.1.cls ≠ "java/lang/invoke/VarHandle" ∧ (parseMethodDescriptor M_X7_init.1.desc).map (fun d => d.parameters.length) = some 0 := ⟨by decide +kernel, by decide +kernel, by decide +kernel, by decide +kernel, by decide +kernel, by decide +kernel⟩
set_option maxHeartbeats 8000000 in
set_option maxRecDepth 100000 in
theorem law_start {INV : List va_E → Prop} (hI : INVok INV) (SS : STEPS INV) (S0 : START INV) {p : Program} {e : Env} {s : State} {m : MethodId} {below : List Frame} {meth : Method} {c : Code} (l : Launch) {b L : Nat} {xs : Nat → Int32} (hL : L ≤ 448) (C0 : lw_At p s m meth c b L xs) : W p l e room_1 s m #[Value.ref b] below meth c s.heap [] 0 0 (lw_Z below #[Value.ref b] s) (entryFrame m ([Value.ref b] : List Value).toArray 4) := by
  obtain ⟨hx, hb, hr, hml, hown, hts, hX, hbl, hlocks, hgv⟩ := id C0
  obtain ⟨D, cy, hK⟩ := start_K hts
  obtain ⟨ad, hN⟩ := start_XN hts hgv
  have hC : LCx p s m meth c b L xs D cy := ⟨C0, fun w hw => hts w (bigw_l hw), hK⟩
  have X0 : LX s D cy ad [] s.heap [] := ⟨fun k q h => by simp [xw] at h, ⟨fun i j p q h => by simp [xw] at h, fun k q h => by simp [xw] at h⟩, va_S.rf, hN⟩
  have hl := lv_entry ([.ref b]) (n := 4) (Nat.le_of_ble_eq_true rfl)
  rw [lg_entry_eq]
  generalize (lg_sl ([.ref b]) ++ List.replicate (4 - (lg_sl ([.ref b])).length) Slot.unset).toArray = ls at hl ⊢
  have hl : lv_has ls 4 [(0, .ref b)] := hl
  obtain ⟨d1, mc1, ms1, Q1, hd1, hm1, hs1, hc1, hq1⟩ := S0
  refine law_new hC X0 (ci := 5) (r := (RX6, TX6, 14)) (fs := fsX6) rfl (by decide +kernel) (by decide +kernel) (by decide +kernel) (ty := tyX6) tyX6_ok tyX6_b dfX6 (Nat.le_of_ble_eq_true rfl) (Nat.le_of_ble_eq_true rfl) (Nat.le_of_ble_eq_true rfl) (fun e h => by cases h) d_law_0 (fun q0 H1 X1 => ?_)
  refine lv_dup hx hb d_law_3 rfl ?_
  have X1 : LX s D cy (fun i => if i = 0 then q0 else ad i) [.inr (5, fsX6)] H1 [] := X1
  refine law_callI hC X1 hl.1 ok_X6_init rfl rfl hc1 (Or.inr lI_6) (av := []) (b0 := 0) rfl (cells := 0 + 1) (slots := 0 + 14) (by omega) (by omega) hd1 (rest := [.ref q0]) rfl (by simp [Value.category]) d_law_4 (fun r w1 ad1 H2 locs2 hq G1 X2 hlen => ?_)
  obtain ⟨rfl, hw52, hxS, d2, mc2, ms2, Q2, hd2, hm2, hs2, hc2, hq2⟩ := hq1 r w1 hq
  have e0 : ad1 0 = q0 := (G1.2 0 (Or.inl (by decide))).trans (if_pos rfl)
  show W p l e room_1 s m #[Value.ref b] below meth c H2 locs2 (0 + 1 + mc1) (0 + 14 + ms1) (lw_Z below #[Value.ref b] s) (F0 m 7 ls [.ref q0])
  refine W.widen (k := 52) (n := 1000) (by omega) (by omega) ?_
  refine lv_astore_n (lv' := [(1, .ref q0), (0, .ref b)]) hx hb d_law_7 rfl hl (by decide) rfl (fun ls hl => ?_)
  refine law_new hC X2 (ci := 6) (r := (RX7, TX7, 47)) (fs := fsX7) rfl (by decide +kernel) (by decide +kernel) (by decide +kernel) (ty := ty_X7) ty_X7_a ty_X7_b df_X7 (Nat.le_of_ble_eq_true rfl) (Nat.le_of_ble_eq_true rfl) (by omega) (by rw [hw52]; exact hxS) d_law_8 (fun q52 H3 X3 => ?_)
  rw [hw52] at X3
  refine lv_dup hx hb d_law_11 rfl ?_
  have hl53 : (w1 ++ [(.inr (6, fsX7) : va_E)]).length = 53 := by rw [List.length_append, hw52]; rfl
  refine law_callI hC X3 hl.1 ok_X7_init rfl rfl hc2 (Or.inr lI_7) (av := []) (b0 := 52) rfl (cells := 52 + 1) (slots := 1000 + 47) (by omega) (by omega) hd2 (rest := [.ref q52]) rfl (by simp [Value.category]) d_law_12 (fun r2 w2 ad2 H4 locs4 hq' G2 X4 hlen2 => ?_)
  obtain ⟨rfl, hinv⟩ := hq2 r2 w2 hq'
  have e1 : ad2 0 = q0 := (G2.2 0 (Or.inl (by rw [hl53]; decide))).trans ((if_neg (by decide)).trans e0)
  have e52 : ad2 52 = q52 := (G2.2 52 (Or.inl (by rw [hl53]; decide))).trans (if_pos rfl)
  show W p l e room_1 s m #[Value.ref b] below meth c H4 locs4 (52 + 1 + mc2) (1000 + 47 + ms2) (lw_Z below #[Value.ref b] s) (F0 m 15 ls [.ref q52])
  refine W.widen (k := 200 + 4 * 0) (n := 10000 + 206 * 0) (by omega) (by omega) ?_
  refine lv_astore_n (lv' := [(2, .ref q52), (1, .ref q0), (0, .ref b)]) hx hb d_law_15 rfl hl (by decide) rfl (fun ls hl => ?_)
  refine lv_iconst (v := 0) hx hb d_law_16 (by decide +kernel) ?_
  refine lv_istore_n (lv' := [(3, .int 0), (2, .ref q52), (1, .ref q0), (0, .ref b)]) hx hb d_law_17 rfl hl (by decide) rfl (fun ls hl => ?_)
  exact law_loop hI SS hC hL 65 0 (by omega) (by omega) w2 ad2 H4 locs4 ls hinv X4 (by rw [e1, e52]; exact lv_sub hl [3, 2, 1, 0] rfl)
