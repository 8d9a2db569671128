/-! small facts that the calls of both sides want -/
theorem zsS {zs : List Int32} {n : Nat} (h : zs.length = n + 1) : ∃ a t, zs = a :: t ∧ t.length = n := by
  cases zs with
  | nil => simp at h
  | cons a t => exact ⟨a, t, rfl, by simpa using h⟩
theorem zs0 {zs : List Int32} (h : zs.length = 0) : zs = [] := List.eq_nil_of_length_eq_zero h
theorem zs1 {zs : List Int32} (h : zs.length = 1) : ∃ a, zs = [a] := by
  obtain ⟨a, t, rfl, h2⟩ := zsS h
  obtain rfl := zs0 h2
  exact ⟨a, rfl⟩
theorem zs2 {zs : List Int32} (h : zs.length = 2) : ∃ a b, zs = [a, b] := by
  obtain ⟨a, t, rfl, h2⟩ := zsS h
  obtain ⟨b, rfl⟩ := zs1 h2
  exact ⟨a, b, rfl⟩
theorem zs3 {zs : List Int32} (h : zs.length = 3) : ∃ a b c, zs = [a, b, c] := by
  obtain ⟨a, t, rfl, h2⟩ := zsS h
  obtain ⟨b, c, rfl⟩ := zs2 h2
  exact ⟨a, b, c, rfl⟩
theorem zs4 {zs : List Int32} (h : zs.length = 4) : ∃ a b c d, zs = [a, b, c, d] := by
  obtain ⟨a, t, rfl, h2⟩ := zsS h
  obtain ⟨b, c, d, rfl⟩ := zs3 h2
  exact ⟨a, b, c, d, rfl⟩
theorem zs5 {zs : List Int32} (h : zs.length = 5) : ∃ a b c d e, zs = [a, b, c, d, e] := by
  obtain ⟨a, t, rfl, h2⟩ := zsS h
  obtain ⟨b, c, d, e, rfl⟩ := zs4 h2
  exact ⟨a, b, c, d, e, rfl⟩
theorem zs6 {zs : List Int32} (h : zs.length = 6) : ∃ a b c d e f, zs = [a, b, c, d, e, f] := by
  obtain ⟨a, t, rfl, h2⟩ := zsS h
  obtain ⟨b, c, d, e, f, rfl⟩ := zs5 h2
  exact ⟨a, b, c, d, e, f, rfl⟩
theorem one1_5 {t : OS} (a b c : Int32) (h : t.2.2.2 ≤ 5) : (one1 t a b c).2.2.2 ≤ 5 := by
  unfold one1
  split
  · next h2 => show t.2.2.2 + 1 ≤ 5; omega
  · exact h
theorem obR_5 (cl : Nat → Int32) (size fm : Int32) : ∀ (n k : Nat) (t : OS) (came : Int32), t.2.2.2 ≤ 5 → (obR cl size fm n k t came).2.2.2.2 ≤ 5
  | 0, _, _, _, h => h
  | n + 1, k, t, came, h => by
    unfold obR
    split
    · exact obR_5 cl size fm n (k + 1) _ _ (one1_5 _ _ _ h)
    · exact h
theorem obR_cg {cl cl' : Nat → Int32} {size fm : Int32} (hz : sm 40 size) (hc : ∀ j, j < 40 → cl' j = cl j) : ∀ (n k : Nat) (t : OS) (came : Int32), obR cl' size fm n k t came = obR cl size fm n k t came
  | 0, _, _, _ => rfl
  | n + 1, k, t, came => by
    unfold obR
    by_cases h : shHas size (fm + nI (3 * k)) 3
    · rw [if_pos h, if_pos h]
      obtain ⟨q, hq, e⟩ := has3 hz h
      rw [e, nI_clamp (by omega), hc q (by omega), hc (q + 1) (by omega), hc (q + 2) (by omega)]
      exact obR_cg hz hc n (k + 1) _ _
    · rw [if_neg h, if_neg h]
theorem mIn_nat {x : Int32} {b : Nat} {B : Int32} (hB : B.toInt = b) (h : mIn x 0 B) : ∃ j : Nat, j ≤ b ∧ x = nI j := sm_of hB h.1 h.2
theorem mIn3 {x : Int32} (h : mIn x 0 3) : x.toNatClampNeg < 4 := by
  obtain ⟨j, hj, rfl⟩ := mIn_nat (b := 3) (by decide) h
  rw [nI_clamp (by omega)]
  omega
theorem swM_cg {so sz sz2 : Nat → Int32} {P : Nat} {ss nn : Int32} (h : ∀ s, s < 4 → ¬ so s = -1 → sz2 s = sz s) : swM so sz2 P ss nn = swM so sz P ss nn := by
  unfold swM
  by_cases h1 : mIn ss 0 3
  · rw [if_pos h1, if_pos h1]
    by_cases h2 : so ss.toNatClampNeg = -1
    · rw [if_pos h2, if_pos h2]
    · rw [if_neg h2, if_neg h2, h _ (mIn3 h1) h2]
  · rw [if_neg h1, if_neg h1]
theorem sw_two {so sz : Nat → Int32} {P : Nat} {ss nn : Int32} (h : swM so sz P ss nn = 0) : mIn ss 0 3 ∧ ¬ so ss.toNatClampNeg = -1 := by
  unfold swM at h
  by_cases h1 : mIn ss 0 3
  · rw [if_pos h1] at h
    refine ⟨h1, fun h2 => ?_⟩
    rw [if_pos h2] at h
    exact absurd h (by decide)
  · rw [if_neg h1] at h
    exact absurd h (by decide)
theorem fT_cg {so sz sz2 : Nat → Int32} {ce g : Nat → Nat → Int32} {P : Nat} {ss nn : Int32} (hS : SHR so sz sz2 ce g) (hP : P ≤ 5) (h : swM so sz P ss nn = 0) (f : Nat → Int32) : firstT (fun p => decide (¬ ceF g (40 * ss.toNatClampNeg + p) = f p)) P = firstT (fun p => decide (¬ ce ss.toNatClampNeg p = f p)) P := by
  obtain ⟨h1, h2⟩ := sw_two h
  refine firstT_congr (fun q hq => ?_)
  rw [ceF_at (by omega), (hS.2.2 _ (mIn3 h1) h2).2 q (by omega)]
theorem jd_I {so sz sz2 : Nat → Int32} {P : Nat} {ss nn A B : Int32} (h : ∀ s, s < 4 → ¬ so s = -1 → sz2 s = sz s) (hAB : swM so sz P ss nn = 0 → A = B) : (if swM so sz2 P ss nn = 0 then A else swM so sz2 P ss nn) = (if swM so sz P ss nn = 0 then B else swM so sz P ss nn) := by
  rw [swM_cg h]
  by_cases h1 : swM so sz P ss nn = 0
  · rw [if_pos h1, if_pos h1, hAB h1]
  · rw [if_neg h1, if_neg h1]
theorem jd_J {so sz sz2 : Nat → Int32} {P : Nat} {ss nn : Int32} {A B D : Int64} (h : ∀ s, s < 4 → ¬ so s = -1 → sz2 s = sz s) (hAB : swM so sz P ss nn = 0 → A = B) : (if swM so sz2 P ss nn = 0 then A else D) = (if swM so sz P ss nn = 0 then B else D) := by
  rw [swM_cg h]
  by_cases h1 : swM so sz P ss nn = 0
  · rw [if_pos h1, if_pos h1, hAB h1]
  · rw [if_neg h1, if_neg h1]
theorem alS_7 {sy : SY} {k P C : Nat} {fa ki : Nat → Int32} {s : ES} {m what : Int32} (h : ¬ mIn what 0 5) : alS sy k P C fa ki s m what = -7 := by
  unfold alS
  rw [if_neg (fun e => h (by rw [e]; decide)), if_neg (fun e => h (by rw [e]; decide)), if_neg (fun e => h (by rw [e]; decide)), if_neg (fun e => h (by rw [e]; decide)), if_neg (fun e => h (by rw [e]; decide)), if_neg (fun e => h (by rw [e]; decide))]
theorem all_eq {A B : Int32} {nn what : Int32} (h : ¬ mIn what 0 5 → B = -7) : (if ¬ mIn nn 0 30 then A else B) = (if ¬ mIn nn 0 30 then A else if ¬ mIn what 0 5 then -7 else B) := by
  by_cases h1 : mIn what 0 5
  · rw [if_neg (c := ¬ mIn what 0 5) (fun q => q h1)]
  · rw [if_pos (c := ¬ mIn what 0 5) h1, h h1]
theorem sm_upd {b n : Nat} {f : Nat → Int32} {k : Nat} {x : Int32} (h : ∀ c, c < n → sm b (f c)) (hx : sm b x) : ∀ c, c < n → sm b (upd f k x c) := by
  intro c hc
  by_cases e : c = k
  · rw [e, upd_s]; exact hx
  · rw [upd_n e]; exact h c hc
theorem mSo_5 {a b : Int32} (h : mSo a b) : sm 5 a := sm_of (by decide) h.1.1 h.1.2
theorem mSo_9 {a b : Int32} (h : mSo a b) : sm 9 b := sm_of (by decide) h.2.1 h.2.2
theorem HOK_so {ki mo : Nat → Int32} {wfor : Int32} {P C k K C' c : Nat} {a b : Int32} (h : HOK ki mo wfor P C k K) (hs : mSo a b) (hC : C' ≤ 6) : HOK (upd ki c a) (upd mo c b) wfor P C' k K :=
  ⟨h.1, hC, h.2.2.1, sm_upd h.2.2.2.1 (mSo_9 hs), h.2.2.2.2.1, sm_upd h.2.2.2.2.2 (mSo_5 hs)⟩
theorem HOK_P {ki mo : Nat → Int32} {wfor : Int32} {P C k K P' : Nat} (h : HOK ki mo wfor P C k K) (hP : P' ≤ 5) : HOK ki mo wfor P' C k K := ⟨hP, h.2⟩
theorem HOK_k {ki mo : Nat → Int32} {wfor : Int32} {P C k K k' : Nat} (h : HOK ki mo wfor P C k K) (hk : k' < K) : HOK ki mo wfor P C k' K := ⟨h.1, h.2.1, hk, h.2.2.2⟩
theorem HOK_K {ki mo : Nat → Int32} {wfor : Int32} {P C k K K' : Nat} (h : HOK ki mo wfor P C k K) (hK : K ≤ K') : HOK ki mo wfor P C k K' := ⟨h.1, h.2.1, Nat.lt_of_lt_of_le h.2.2.1 hK, h.2.2.2⟩
theorem HOK_h {ki mo : Nat → Int32} {wfor : Int32} {P C k K : Nat} {what v : Int32} (h : HOK ki mo wfor P C k K) (hv : hOK what v) : HOK ki mo (if what = 2 then v else wfor) P C k K := by
  refine ⟨h.1, h.2.1, h.2.2.1, h.2.2.2.1, ?_, h.2.2.2.2.2⟩
  by_cases e : what = 2
  · rw [if_pos e]
    rcases hv with ⟨e1, -⟩ | ⟨e1, -⟩ | ⟨-, hv⟩
    · exact absurd (e.symm.trans e1) (by decide)
    · exact absurd (e.symm.trans e1) (by decide)
    · exact sm_of (by decide) hv.1 hv.2
  · rw [if_neg e]
    exact h.2.2.2.2.1
theorem force_k {t : Int32} {K : Nat} (hK : 1 ≤ K) (hK6 : K ≤ 6) (h : mIn t 0 (nI K - 1)) : ∃ k', k' < K ∧ t = nI k' := by
  obtain ⟨K, rfl⟩ : ∃ q, K = q + 1 := ⟨K - 1, by omega⟩
  rw [nI_pred] at h
  obtain ⟨j, hj, rfl⟩ := nI_of (Int32.not_lt.mpr h.1)
  exact ⟨j, by have := (nI_leI hj (by omega)).mp h.2; omega, rfl⟩
theorem has1_iff {size x : Int32} (hz : sm 40 size) : shHas size x 1 ↔ mIn x 0 (size - 1) := by
  obtain ⟨z, hz, rfl⟩ := hz
  constructor
  · intro h
    obtain ⟨h0, -, h2, h3⟩ := h
    obtain ⟨q, hq, rfl⟩ := nI_of (Int32.not_lt.mpr h0)
    rw [nI_leI hq (by omega)] at h2
    rw [pk_sub h2, show (1 : Int32) = nI 1 from rfl, nI_leI (by omega) (by omega)] at h3
    refine ⟨h0, ?_⟩
    rw [show (1 : Int32) = nI 1 from rfl, pk_sub (by omega), nI_leI hq (by omega)]
    omega
  · intro h
    obtain ⟨q, hq, rfl⟩ := nI_of (Int32.not_lt.mpr h.1)
    by_cases h0 : z = 0
    · exfalso
      subst h0
      have h2 := h.2
      rw [show nI 0 - 1 = -1 by decide] at h2
      exact absurd (Int32.le_trans (nI_pos' hq) h2) (by decide)
    · have h2 := h.2
      rw [show (1 : Int32) = nI 1 from rfl, pk_sub (by omega), nI_leI hq (by omega)] at h2
      refine ⟨h.1, by decide, ?_, ?_⟩
      · rw [nI_leI hq (by omega)]; omega
      · rw [pk_sub (by omega), show (1 : Int32) = nI 1 from rfl, nI_leI (by omega) (by omega)]; omega
theorem cp_iff {a b i j n : Int32} : (shHas a i n ∧ shHas b j n) ↔ cpOK a b i j n := by
  unfold cpOK
  simp only [Int32.not_lt]
  constructor
  · rintro ⟨⟨h1, h2, h3, h4⟩, h5, -, h6, h7⟩
    exact ⟨h2, h1, h5, h3, h6, h4, h7⟩
  · rintro ⟨h2, h1, h5, h3, h6, h4, h7⟩
    exact ⟨⟨h1, h2, h3, h4⟩, h5, h2, h6, h7⟩
theorem has_bd {size i n : Int32} (hz : sm 40 size) (h : shHas size i n) : i.toNatClampNeg + n.toNatClampNeg ≤ 40 := by
  obtain ⟨z, hz, rfl⟩ := hz
  obtain ⟨h0, h1, h2, h3⟩ := h
  obtain ⟨q, hq, rfl⟩ := nI_of (Int32.not_lt.mpr h0)
  obtain ⟨p, hp, rfl⟩ := nI_of (Int32.not_lt.mpr h1)
  rw [nI_leI hq (by omega)] at h2
  rw [pk_sub h2, nI_leI hp (by omega)] at h3
  rw [nI_clamp hq, nI_clamp hp]
  omega
theorem va_up_s {α : Type} {f : Nat → α} {k : Nat} {v : α} : va_up f k v k = v := if_pos rfl
theorem va_up_n {α : Type} {f : Nat → α} {k j : Nat} {v : α} (h : ¬ j = k) : va_up f k v j = f j := if_neg h
/-- a sheet comes anew on both sides -/
theorem SHR_new {so sz sz2 : Nat → Int32} {ce g : Nat → Nat → Int32} (h : SHR so sz sz2 ce g) {s : Nat} {a b c : Int32} {f f' : Nat → Int32} (hb : sm 40 b) (hc : sm 40 c) (hf : ¬ a = -1 → c = b ∧ ∀ j, j < 40 → f' j = f j) : SHR (upd so s a) (upd sz s b) (upd sz2 s c) (va_up ce s f) (va_up g s f') := by
  refine ⟨sm_upd h.1 hb, sm_upd h.2.1 hc, fun t ht hn => ?_⟩
  by_cases e : t = s
  · subst e
    rw [upd_s] at hn
    rw [upd_s, upd_s, va_up_s, va_up_s]
    exact hf hn
  · rw [upd_n e] at hn
    rw [upd_n e, upd_n e, va_up_n e, va_up_n e]
    exact h.2.2 t ht hn
/-- a sheet goes: the component keeps its cells, nobody sees them -/
theorem SHR_gone {so sz sz2 : Nat → Int32} {ce g : Nat → Nat → Int32} (h : SHR so sz sz2 ce g) {s : Nat} {c : Int32} {f' : Nat → Int32} (hc : sm 40 c) : SHR (upd so s (-1)) sz (upd sz2 s c) ce (va_up g s f') := by
  refine ⟨h.1, sm_upd h.2.1 hc, fun t ht hn => ?_⟩
  by_cases e : t = s
  · subst e
    rw [upd_s] at hn
    exact absurd rfl hn
  · rw [upd_n e] at hn
    rw [upd_n e, va_up_n e]
    exact h.2.2 t ht hn
/-- cells of a sheet change on both sides -/
theorem SHR_cell {so sz sz2 : Nat → Int32} {ce g : Nat → Nat → Int32} (h : SHR so sz sz2 ce g) {s : Nat} {f f' : Nat → Int32} (hf : s < 4 → ¬ so s = -1 → ∀ j, j < 40 → f' j = f j) : SHR so sz sz2 (va_up ce s f) (va_up g s f') := by
  refine ⟨h.1, h.2.1, fun t ht hn => ?_⟩
  by_cases e : t = s
  · subst e
    rw [va_up_s, va_up_s]
    exact ⟨(h.2.2 t ht hn).1, hf ht hn⟩
  · rw [va_up_n e, va_up_n e]
    exact h.2.2 t ht hn
theorem SHR_film {so sz sz2 : Nat → Int32} {ce g : Nat → Nat → Int32} (h : SHR so sz sz2 ce g) {s P : Nat} (hP : P ≤ 5) {f : Nat → Int32} : SHR (upd so s 2) (upd sz s (nI P)) (upd sz2 s (nI P)) (va_up ce s (mixF (fun _ => 0) f P)) (va_up g s (mixF (g s) (shP s P f) 40)) :=
  SHR_new h ⟨P, by omega, rfl⟩ ⟨P, by omega, rfl⟩ (fun _ => ⟨rfl, fun j hj => by
    unfold mixF shP
    rw [if_pos hj]⟩)
theorem cpy_cg {f f' g g' : Nat → Int32} {a b n : Nat} (hf : ∀ j, j < 40 → f' j = f j) (hg : ∀ j, j < 40 → g' j = g j) (h : a + n ≤ 40) : ∀ j, j < 40 → va_cpy f' g' a b n j = va_cpy f g a b n j := by
  intro j hj
  unfold va_cpy
  by_cases e : b ≤ j ∧ j < b + n
  · rw [if_pos e, if_pos e, hf _ (by omega)]
  · rw [if_neg e, if_neg e, hg j hj]
theorem IMG_K {pfr plo pfa pki pmo : Nat → Int32} {ppe pch psty pwset pwfor plaw plent pict : Int32} {wi1 ho1 ki1 mo1 : Nat → Int32} {pe1 ch1 ru1 : Int32} {K K' : Nat} (h : IMG pfr plo pfa pki pmo ppe pch psty pwset pwfor plaw plent pict wi1 ho1 ki1 mo1 pe1 ch1 ru1 K) (hK : K ≤ K') : IMG pfr plo pfa pki pmo ppe pch psty pwset pwfor plaw plent pict wi1 ho1 ki1 mo1 pe1 ch1 ru1 K' := by
  rcases h with h | ⟨P1, C1, k1, h1, h2, h3, h4⟩
  · exact Or.inl h
  · exact Or.inr ⟨P1, C1, k1, h1, h2, h3, HOK_K h4 hK⟩
