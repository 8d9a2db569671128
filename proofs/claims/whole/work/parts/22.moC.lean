set_option maxHeartbeats 4000000 in
set_option maxRecDepth 100000 in
theorem c_X7_worth (wi ki mo ho cd sr stk names till sitter on was sat stood rose turn : Nat → Int32) (pe ch lent : Int32) (J : Nat → Int32) (K : Nat → Nat → Int32) (k part : Nat) (e : Nat → Nat) (hpart : part < 3) (hL : MLW cd sr k e) : Co M_X7_worth 1 0 0 [.ref 0, .int (nI part)] (wMv wi ki mo ho cd sr stk names till sitter on was sat stood rose turn pe ch (nI k) lent J K) (Qi ((sayM0 cd k e part stk names).1 0) (wMv wi ki mo ho cd sr ((sayM0 cd k e part stk names).1) names till sitter on was sat stood rose turn pe ch (nI k) lent J K)) := by
  have hk6 := hL.1
  refine Co.of ok_X7_worth rfl ?_
  refine ww_run 0 11 (pc' := 15) (lv' := [(2, .int 0), (0, .ref 0), (1, .int (nI part))]) (st' := [.int (sr ((4 * (nI k)) + (nI part)).toNatClampNeg)]) (w' := wMv wi ki mo ho cd sr stk names till sitter on was sat stood rose turn pe ch (nI k) lent J K) (Ps := [vp_in ((4 * (nI k)) + (nI part)) 24]) rfl ⟨(by rw [show (4 : Int32) * nI k = nI (4 * k) from pk_mul 4 k, nI_add (4 * k) part]; exact vp_in_nI (by omega) (by omega)), trivial⟩ ?_
  rw [show (4 : Int32) * nI k = nI (4 * k) from pk_mul 4 k]
  rw [nI_add (4 * k) part]
  rw [nI_clamp (n := (4 * k + part)) (by omega)]
  rw [show sr (4 * k + part) = nI (e part) from hL.2.1 part (by omega)]
  refine ww_run 11 1 (pc' := 16) (lv' := [(3, .int (nI (e part))), (2, .int 0), (0, .ref 0), (1, .int (nI part))]) (st' := []) (w' := wMv wi ki mo ho cd sr stk names till sitter on was sat stood rose turn pe ch (nI k) lent J K) (Ps := []) rfl trivial ?_
  refine ww_lv [2, 3, 1, 0] (lv' := [(0, .ref 0), (1, .int (nI part)), (2, .int 0), (3, .int (nI (e part)))]) rfl ?_
  refine l_X7_worth_16 (by omega) stk wi ki mo ho cd sr names till sitter on was sat stood rose turn pe ch lent J K k part e hpart hL (fun sk t hs => ?_) (e (part + 1) + 1) (e part) stk 0 (hL.2.2.1 part hpart).1 (by omega) (Nat.le_refl _) (by simp [mRun])
  refine ww_run 116 4 (pc' := 203) (lv' := [(0, .ref 0), (1, .int (nI part)), (2, .int (nI t)), (3, .int (nI (e (part + 1))))]) (st' := [.int (sk 0)]) (w' := wMv wi ki mo ho cd sr sk names till sitter on was sat stood rose turn pe ch (nI k) lent J K) (Ps := [vp_in 0 200]) rfl ⟨(vp_in_nI (n := 0) (by decide) (by decide)), trivial⟩ ?_
  refine ww_iret 120 rfl rfl ?_
  exact ⟨by rw [hs], by rw [hs]⟩
/-- a law of the reference's whose parts each leave something -/
def MLX (cd sr : Nat → Int32) (k : Nat) (e : Nat → Nat) : Prop := MLW cd sr k e ∧ ∀ j, j < 3 → 1 ≤ dRun (fun q => cd (200 * k + q)) (e j) (e (j + 1) - e j)
def sayM (cd : Nat → Int32) (k : Nat) (e : Nat → Nat) (part : Nat) (named : Nat → Int32) : Int32 := mWithin ((sayM0 cd k e part (fun _ => 0) named).1 0) 0 99
theorem mStep_any {nf ng : Nat → Int32} {code : Int32} {s t : (Nat → Int32) × Nat} (hn : ∀ k, k < 6 → nf k = ng k) (hok : dOK code s.2) (h2 : s.2 = t.2) (h : ∀ j, j < s.2 → s.1 j = t.1 j) : (mStep nf code s).2 = (mStep ng code t).2 ∧ ∀ j, j < (mStep nf code s).2 → (mStep nf code s).1 j = (mStep ng code t).1 j := by
  obtain ⟨f, n⟩ := s
  obtain ⟨g, n'⟩ := t
  simp only at h2 h hok
  subst h2
  have hnm : (if code < 11 then nf code.toNatClampNeg else code - 100000) = (if code < 11 then ng code.toNatClampNeg else code - 100000) := by
    split
    · next h0 =>
      have h1 := hok.2.1 h0
      have h3 := vp_6 ⟨h1.1, h1.2.1, trivial⟩
      apply hn
      unfold vp_in at h3
      omega
    · rfl
  unfold mStep
  simp only
  split
  · refine ⟨rfl, fun j hj => ?_⟩
    rw [hnm]
    simp only [upd]
    split
    · rfl
    · exact h j (by simp only at hj; omega)
  · next hc =>
    split
    · next h13 =>
      have := hok.2.2.1 (Or.inl h13)
      refine ⟨rfl, fun j hj => ?_⟩
      have hv := h (n - 1) (by omega)
      simp only [upd, hv]
      split
      · rfl
      · exact h j hj
    · next h13 =>
      split
      · next h19 =>
        have := hok.2.2.1 (Or.inr h19)
        refine ⟨rfl, fun j hj => ?_⟩
        have hv := h (n - 1) (by omega)
        simp only [upd, hv]
        split
        · rfl
        · exact h j hj
      · next h19 =>
        have := hok.2.2.2 (by grind) (by grind) h13 h19
        refine ⟨rfl, fun j hj => ?_⟩
        have hv := h (n - 1) (by omega)
        have hv2 := h (n - 2) (by omega)
        simp only [upd, hv, hv2]
        split
        · rfl
        · exact h j (by simp only at hj; omega)
theorem mRun_any {nf ng codes : Nat → Int32} {a : Nat} {f g : Nat → Int32} (hn : ∀ k, k < 6 → nf k = ng k) : ∀ n, (∀ i, i < n → dOK (codes (a + i)) (dRun codes a i)) → (mRun nf codes a (f, 0) n).2 = (mRun ng codes a (g, 0) n).2 ∧ ∀ j, j < (mRun nf codes a (f, 0) n).2 → (mRun nf codes a (f, 0) n).1 j = (mRun ng codes a (g, 0) n).1 j
  | 0, _ => ⟨rfl, fun j hj => absurd hj (Nat.not_lt_zero j)⟩
  | n + 1, hok => by
    have ih := mRun_any (nf := nf) (ng := ng) (f := f) (g := g) hn n (fun i hi => hok i (by omega))
    exact mStep_any hn (by rw [mRun_d]; exact hok n (by omega)) ih.1 ih.2
theorem sayM_eq {cd sr stk nf ng : Nat → Int32} {k part : Nat} {e : Nat → Nat} (hL : MLX cd sr k e) (hp : part < 3) (hn : ∀ k, k < 6 → nf k = ng k) : mWithin ((sayM0 cd k e part stk nf).1 0) 0 99 = sayM cd k e part ng := by
  have h := (mRun_any (nf := nf) (ng := ng) (codes := fun q => cd (200 * k + q)) (a := e part) (f := stk) (g := fun _ => 0) hn (e (part + 1) - e part) (fun i hi => by
    have := hL.1.2.2.2 part hp (e part + i) (by omega) (by omega)
    rw [show e part + i - e part = i by omega] at this
    exact this)).2 0 (by rw [mRun_d]; exact hL.2 part hp)
  unfold sayM sayM0
  rw [h]
theorem sayM_bd (cd : Nat → Int32) (k : Nat) (e : Nat → Nat) (part : Nat) (named : Nat → Int32) : 0 ≤ sayM cd k e part named ∧ sayM cd k e part named ≤ 99 := by
  unfold sayM mWithin
  grind
set_option maxHeartbeats 4000000 in
set_option maxRecDepth 100000 in
theorem c_X7_asksOf (wi ki mo ho cd sr stk names till sitter on was sat stood rose turn : Nat → Int32) (pe ch lent : Int32) (J : Nat → Int32) (K : Nat → Nat → Int32) (k part : Nat) (e : Nat → Nat) (hpart : part < 3) (hL : MLX cd sr k e) (fat more sat0 stood0 minute number : Int32) : Co M_X7_asksOf 2 0 0 [.ref 0, .int (nI part), .int fat, .int more, .int sat0, .int stood0, .int minute, .int number] (wMv wi ki mo ho cd sr stk names till sitter on was sat stood rose turn pe ch (nI k) lent J K) (fun r w' => r = some (.int (sayM cd k e part (nm6 fat more sat0 stood0 minute number))) ∧ ∃ names' stk', w' = wMv wi ki mo ho cd sr stk' names' till sitter on was sat stood rose turn pe ch (nI k) lent J K) := by
  refine Co.of ok_X7_asksOf rfl ?_
  refine ww_run 0 32 (pc' := 48) (lv' := [(0, .ref 0), (1, .int (nI part)), (2, .int fat), (3, .int more), (4, .int sat0), (5, .int stood0), (6, .int minute), (7, .int number)]) (st' := [.int (nI part), .ref 0]) (w' := wMv wi ki mo ho cd sr stk (upd (upd (upd (upd (upd (upd names 0 fat) 1 more) 2 sat0) 3 stood0) 4 minute) 5 number) till sitter on was sat stood rose turn pe ch (nI k) lent J K) (Ps := [vp_in 0 6, vp_in 1 6, vp_in 2 6, vp_in 3 6, vp_in 4 6, vp_in 5 6]) rfl ⟨(vp_in_nI (n := 0) (by decide) (by decide)), (vp_in_nI (n := 1) (by decide) (by decide)), (vp_in_nI (n := 2) (by decide) (by decide)), (vp_in_nI (n := 3) (by decide) (by decide)), (vp_in_nI (n := 4) (by decide) (by decide)), (vp_in_nI (n := 5) (by decide) (by decide)), trivial⟩ ?_
  refine ww_cVi 32 ok_X7_worth (c_X7_worth wi ki mo ho cd sr stk (upd (upd (upd (upd (upd (upd names 0 fat) 1 more) 2 sat0) 3 stood0) 4 minute) 5 number) till sitter on was sat stood rose turn pe ch lent J K k part e hpart hL.1) lk_X7_188 rfl (by omega) (rest := []) rfl (Nat.le_of_ble_eq_true rfl) rfl rfl rfl rfl ?_
  refine ww_run 33 2 (pc' := 54) (lv' := [(0, .ref 0), (1, .int (nI part)), (2, .int fat), (3, .int more), (4, .int sat0), (5, .int stood0), (6, .int minute), (7, .int number)]) (st' := [.int 99, .int 0, .int ((sayM0 cd k e part stk (upd (upd (upd (upd (upd (upd names 0 fat) 1 more) 2 sat0) 3 stood0) 4 minute) 5 number)).1 0)]) (w' := wMv wi ki mo ho cd sr ((sayM0 cd k e part stk (upd (upd (upd (upd (upd (upd names 0 fat) 1 more) 2 sat0) 3 stood0) 4 minute) 5 number)).1) (upd (upd (upd (upd (upd (upd names 0 fat) 1 more) 2 sat0) 3 stood0) 4 minute) 5 number) till sitter on was sat stood rose turn pe ch (nI k) lent J K) (Ps := []) rfl trivial ?_
  refine ww_cSi 35 ok_X7_within (Co.fr0 (c_X7_within ((sayM0 cd k e part stk (upd (upd (upd (upd (upd (upd names 0 fat) 1 more) 2 sat0) 3 stood0) 4 minute) 5 number)).1 0) 0 99) rfl) lk_X7_191 rfl (by omega) (rest := []) rfl (Nat.le_of_ble_eq_true rfl) rfl ?_
  rw [sayM_eq (ng := nm6 fat more sat0 stood0 minute number) hL hpart nm6_eq]
  refine ww_iret 36 rfl rfl ?_
  exact ⟨rfl, _, _, rfl⟩
set_option maxHeartbeats 4000000 in
set_option maxRecDepth 100000 in
theorem c_X7_keepsWarm (ki mo ho cd sr stk names till sitter on was sat stood rose turn : Nat → Int32) (pe ch lent : Int32) (J : Nat → Int32) (K : Nat → Nat → Int32) (fr lo fa : Nat → Int32) (k : Nat) (e : Nat → Nat) (hL : MLX cd sr k e) (p c : Nat) (m : Int32) (hp : p < 5) (hc : c < 6) : Co M_X7_keepsWarm 3 0 0 [.ref 0, .int (nI c), .int (nI p), .int m] (wMv (wiF fr lo fa) ki mo ho cd sr stk names till sitter on was sat stood rose turn pe ch (nI k) lent J K) (fun r w' => r = some (.int (eKeep ki mo fa sat stood (sayM cd k e) p c m)) ∧ ∃ names' stk', w' = wMv (wiF fr lo fa) ki mo ho cd sr stk' names' till sitter on was sat stood rose turn pe ch (nI k) lent J K) := by
  refine Co.of ok_X7_keepsWarm rfl ?_
  refine ww_run 0 24 (pc' := 32) (lv' := [(0, .ref 0), (1, .int (nI c)), (2, .int (nI p)), (3, .int m)]) (st' := [.int (nI c), .int m, .int (stood (nI p).toNatClampNeg), .int (sat (nI p).toNatClampNeg), .int (mo (nI c).toNatClampNeg), .int ((wiF fr lo fa) ((3 * (nI p)) + 2).toNatClampNeg), .int 0, .ref 0]) (w' := wMv (wiF fr lo fa) ki mo ho cd sr stk names till sitter on was sat stood rose turn pe ch (nI k) lent J K) (Ps := [vp_in ((3 * (nI p)) + 2) 15, vp_in (nI c) 6, vp_in (nI p) 5, vp_in (nI p) 5]) rfl ⟨(by rw [show (3 : Int32) * nI p = nI (3 * p) from pk_mul 3 p, show nI (3 * p) + (2 : Int32) = nI ((3 * p) + 2) from nI_add (3 * p) 2]; exact vp_in_nI (by omega) (by omega)), (vp_in_nI (by omega) (by omega)), (vp_in_nI (by omega) (by omega)), (vp_in_nI (by omega) (by omega)), trivial⟩ ?_
  rw [nI_clamp (n := p) (by omega)]
  rw [nI_clamp (n := c) (by omega)]
  rw [show (3 : Int32) * nI p = nI (3 * p) from pk_mul 3 p]
  rw [show nI (3 * p) + (2 : Int32) = nI ((3 * p) + 2) from nI_add (3 * p) 2]
  rw [nI_clamp (n := (3 * p + 2)) (by omega)]
  rw [wi2]
  refine ww_cV 24 (b := 0) (av := [.int 0, .int (fa p), .int (mo c), .int (sat p), .int (stood p), .int m, .int (nI c)]) ok_X7_asksOf (c_X7_asksOf (wiF fr lo fa) ki mo ho cd sr stk names till sitter on was sat stood rose turn pe ch lent J K k 0 e (by omega) hL (fa p) (mo c) (sat p) (stood p) m (nI c)) lk_X7_194 rfl (by omega) (rest := []) rfl (Nat.le_of_ble_eq_true rfl) rfl rfl rfl rfl (fun r w' hq => ?_)
  obtain ⟨rfl, names0, stk0, rfl⟩ := hq
  refine ww_run 25 8 (pc' := 48) (lv' := [(5, .int (ki (nI c).toNatClampNeg)), (4, .int (sayM cd k e 0 (nm6 (fa p) (mo c) (sat p) (stood p) m (nI c)))), (0, .ref 0), (1, .int (nI c)), (2, .int (nI p)), (3, .int m)]) (st' := [.int 4, .int (ki (nI c).toNatClampNeg)]) (w' := wMv (wiF fr lo fa) ki mo ho cd sr stk0 names0 till sitter on was sat stood rose turn pe ch (nI k) lent J K) (Ps := [vp_in (nI c) 6]) rfl ⟨(vp_in_nI (by omega) (by omega)), trivial⟩ ?_
  rw [nI_clamp (n := c) (by omega)]
  refine ww_icmp_ne 33 rfl (tgt := 77) rfl (fun c2 => ?_) (fun c2 => ?_)
  · refine ww_run 51 2 (pc' := 80) (lv' := [(5, .int (ki c)), (4, .int (sayM cd k e 0 (nm6 (fa p) (mo c) (sat p) (stood p) m (nI c)))), (0, .ref 0), (1, .int (nI c)), (2, .int (nI p)), (3, .int m)]) (st' := [.int 1, .int (ki c)]) (w' := wMv (wiF fr lo fa) ki mo ho cd sr stk0 names0 till sitter on was sat stood rose turn pe ch (nI k) lent J K) (Ps := []) rfl trivial ?_
    refine ww_icmp_eq 53 rfl (tgt := 89) rfl (fun c3 => ?_) (fun c3 => ?_)
    · refine ww_run 57 7 (pc' := 116) (lv' := [(5, .int (ki c)), (4, .int (sayM cd k e 0 (nm6 (fa p) (mo c) (sat p) (stood p) m (nI c)))), (0, .ref 0), (1, .int (nI c)), (2, .int (nI p)), (3, .int m)]) (st' := [.int ((sayM cd k e 0 (nm6 (fa p) (mo c) (sat p) (stood p) m (nI c))) + (mo (nI c).toNatClampNeg))]) (w' := wMv (wiF fr lo fa) ki mo ho cd sr stk0 names0 till sitter on was sat stood rose turn pe ch (nI k) lent J K) (Ps := [vp_in (nI c) 6]) rfl ⟨(vp_in_nI (by omega) (by omega)), trivial⟩ ?_
      rw [nI_clamp (n := c) (by omega)]
      refine ww_iret 72 rfl rfl ?_
      exact ⟨by unfold eKeep kKeeps; grind, _, _, rfl⟩
    · refine ww_run 54 2 (pc' := 86) (lv' := [(5, .int (ki c)), (4, .int (sayM cd k e 0 (nm6 (fa p) (mo c) (sat p) (stood p) m (nI c)))), (0, .ref 0), (1, .int (nI c)), (2, .int (nI p)), (3, .int m)]) (st' := [.int 3, .int (ki c)]) (w' := wMv (wiF fr lo fa) ki mo ho cd sr stk0 names0 till sitter on was sat stood rose turn pe ch (nI k) lent J K) (Ps := []) rfl trivial ?_
      refine ww_icmp_ne 56 rfl (tgt := 101) rfl (fun c4 => ?_) (fun c4 => ?_)
      · refine ww_run 64 2 (pc' := 104) (lv' := [(5, .int (ki c)), (4, .int (sayM cd k e 0 (nm6 (fa p) (mo c) (sat p) (stood p) m (nI c)))), (0, .ref 0), (1, .int (nI c)), (2, .int (nI p)), (3, .int m)]) (st' := [.int 2, .int (ki c)]) (w' := wMv (wiF fr lo fa) ki mo ho cd sr stk0 names0 till sitter on was sat stood rose turn pe ch (nI k) lent J K) (Ps := []) rfl trivial ?_
        refine ww_icmp_ne 66 rfl (tgt := 114) rfl (fun c5 => ?_) (fun c5 => ?_)
        · refine ww_run 71 1 (pc' := 116) (lv' := [(5, .int (ki c)), (4, .int (sayM cd k e 0 (nm6 (fa p) (mo c) (sat p) (stood p) m (nI c)))), (0, .ref 0), (1, .int (nI c)), (2, .int (nI p)), (3, .int m)]) (st' := [.int (sayM cd k e 0 (nm6 (fa p) (mo c) (sat p) (stood p) m (nI c)))]) (w' := wMv (wiF fr lo fa) ki mo ho cd sr stk0 names0 till sitter on was sat stood rose turn pe ch (nI k) lent J K) (Ps := []) rfl trivial ?_
          refine ww_iret 72 rfl rfl ?_
          exact ⟨by unfold eKeep kKeeps; grind, _, _, rfl⟩
        · refine ww_run 67 4 (pc' := 116) (lv' := [(5, .int (ki c)), (4, .int (sayM cd k e 0 (nm6 (fa p) (mo c) (sat p) (stood p) m (nI c)))), (0, .ref 0), (1, .int (nI c)), (2, .int (nI p)), (3, .int m)]) (st' := [.int ((sayM cd k e 0 (nm6 (fa p) (mo c) (sat p) (stood p) m (nI c))) / 2)]) (w' := wMv (wiF fr lo fa) ki mo ho cd sr stk0 names0 till sitter on was sat stood rose turn pe ch (nI k) lent J K) (Ps := [¬ 2 = 0]) rfl ⟨(by decide), trivial⟩ ?_
          refine ww_iret 72 rfl rfl ?_
          exact ⟨by unfold eKeep kKeeps; grind, _, _, rfl⟩
      · refine ww_run 57 7 (pc' := 116) (lv' := [(5, .int (ki c)), (4, .int (sayM cd k e 0 (nm6 (fa p) (mo c) (sat p) (stood p) m (nI c)))), (0, .ref 0), (1, .int (nI c)), (2, .int (nI p)), (3, .int m)]) (st' := [.int ((sayM cd k e 0 (nm6 (fa p) (mo c) (sat p) (stood p) m (nI c))) + (mo (nI c).toNatClampNeg))]) (w' := wMv (wiF fr lo fa) ki mo ho cd sr stk0 names0 till sitter on was sat stood rose turn pe ch (nI k) lent J K) (Ps := [vp_in (nI c) 6]) rfl ⟨(vp_in_nI (by omega) (by omega)), trivial⟩ ?_
        rw [nI_clamp (n := c) (by omega)]
        refine ww_iret 72 rfl rfl ?_
        exact ⟨by unfold eKeep kKeeps; grind, _, _, rfl⟩
  · refine ww_run 34 8 (pc' := 63) (lv' := [(5, .int (ki c)), (4, .int (sayM cd k e 0 (nm6 (fa p) (mo c) (sat p) (stood p) m (nI c)))), (0, .ref 0), (1, .int (nI c)), (2, .int (nI p)), (3, .int m)]) (st' := [.int (mo (nI c).toNatClampNeg), .int (sat (nI p).toNatClampNeg)]) (w' := wMv (wiF fr lo fa) ki mo ho cd sr stk0 names0 till sitter on was sat stood rose turn pe ch (nI k) lent J K) (Ps := [vp_in (nI p) 5, vp_in (nI c) 6]) rfl ⟨(vp_in_nI (by omega) (by omega)), (vp_in_nI (by omega) (by omega)), trivial⟩ ?_
    rw [nI_clamp (n := c) (by omega)]
    rw [nI_clamp (n := p) (by omega)]
    refine ww_icmp_ge 42 rfl (tgt := 70) rfl (fun c6 => ?_) (fun c6 => ?_)
    · refine ww_run 45 5 (pc' := 76) (lv' := [(5, .int (ki c)), (4, .int (sayM cd k e 0 (nm6 (fa p) (mo c) (sat p) (stood p) m (nI c)))), (0, .ref 0), (1, .int (nI c)), (2, .int (nI p)), (3, .int m)]) (st' := [.int (((sayM cd k e 0 (nm6 (fa p) (mo c) (sat p) (stood p) m (nI c))) / 2) * 2)]) (w' := wMv (wiF fr lo fa) ki mo ho cd sr stk0 names0 till sitter on was sat stood rose turn pe ch (nI k) lent J K) (Ps := [¬ 2 = 0]) rfl ⟨(by decide), trivial⟩ ?_
      refine ww_iret 50 rfl rfl ?_
      exact ⟨by unfold eKeep kKeeps; grind, _, _, rfl⟩
    · refine ww_run 43 2 (pc' := 76) (lv' := [(5, .int (ki c)), (4, .int (sayM cd k e 0 (nm6 (fa p) (mo c) (sat p) (stood p) m (nI c)))), (0, .ref 0), (1, .int (nI c)), (2, .int (nI p)), (3, .int m)]) (st' := [.int 0]) (w' := wMv (wiF fr lo fa) ki mo ho cd sr stk0 names0 till sitter on was sat stood rose turn pe ch (nI k) lent J K) (Ps := []) rfl trivial ?_
      refine ww_iret 50 rfl rfl ?_
      exact ⟨by unfold eKeep kKeeps; grind, _, _, rfl⟩
