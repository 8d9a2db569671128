theorem nar_b2i {P : Prop} [Decidable P] : vp_nar .boolean (b2i P) = b2i P := by unfold b2i; split <;> rfl
/-- a law's rows: its sizes -/
def LW (nc : Nat) (ends : Nat → Int32) (e : Nat → Nat) : Prop := nc < 1000 ∧ (∀ j, j < 3 → ends j = nI (e j)) ∧ e 0 ≤ e 1 ∧ e 1 ≤ e 2 ∧ e 2 ≤ nc
def sayV (codes : Nat → Int32) (e : Nat → Nat) (part : Nat) (named : Nat → Int32) : Int32 := clamp99 ((sayC codes e part (fun _ => 0) named).1 0)
theorem sStep_any {nf ng : Nat → Int32} {code : Int32} {s t : (Nat → Int32) × Nat} (hn : ∀ k, k < 6 → nf k = ng k) (h2 : s.2 = t.2) (h : ∀ j, j < s.2 ∨ j = 0 → s.1 j = t.1 j) : (sStep nf code s).2 = (sStep ng code t).2 ∧ ∀ j, j < (sStep nf code s).2 ∨ j = 0 → (sStep nf code s).1 j = (sStep ng code t).1 j := by
  obtain ⟨f, n⟩ := s
  obtain ⟨g, n'⟩ := t
  simp only at h2 h
  subst h2
  have hnm : code < 10006 → (if code < 10000 then code else nf (code - 10000).toNatClampNeg) = (if code < 10000 then code else ng (code - 10000).toNatClampNeg) := by
    intro h6
    split
    · rfl
    · next h0 =>
      have h1 := sub10 (x := code) (Int32.not_lt.mp h0) (Int32.not_le.mpr h6)
      apply hn
      have := (vp_in_iff (x := code - 10000) (n := 6)).mpr h1
      unfold vp_in at this
      omega
  unfold sStep
  simp only
  split
  · next hc =>
    refine ⟨rfl, fun j hj => ?_⟩
    rw [hnm hc.1]
    simp only [upd]
    split
    · rfl
    · exact h j (by simp only at hj; omega)
  · split
    · refine ⟨rfl, fun j hj => ?_⟩
      rw [h (n - 1) (by omega)]
      simp only [upd]
      split
      · rfl
      · exact h j hj
    · split
      · refine ⟨rfl, fun j hj => ?_⟩
        have hv := h (n - 1) (by omega)
        simp only [upd, hv]
        split
        · rfl
        · exact h j hj
      · split
        · next hc =>
          refine ⟨rfl, fun j hj => ?_⟩
          rw [h (n - 1) (by omega), h (n - 2) (by omega)]
          simp only [upd]
          split
          · rfl
          · exact h j (by simp only at hj; omega)
        · exact ⟨rfl, h⟩
theorem sRun_any {nf ng codes : Nat → Int32} {a : Nat} {s t : (Nat → Int32) × Nat} (hn : ∀ k, k < 6 → nf k = ng k) (h2 : s.2 = t.2) (h : ∀ j, j < s.2 ∨ j = 0 → s.1 j = t.1 j) : ∀ n, (sRun nf codes a s n).2 = (sRun ng codes a t n).2 ∧ ∀ j, j < (sRun nf codes a s n).2 ∨ j = 0 → (sRun nf codes a s n).1 j = (sRun ng codes a t n).1 j
  | 0 => ⟨h2, h⟩
  | n + 1 => sStep_any hn (sRun_any hn h2 h n).1 (sRun_any hn h2 h n).2
theorem sayV_eq {codes stk nf ng : Nat → Int32} {e : Nat → Nat} {part : Nat} (hn : ∀ k, k < 6 → nf k = ng k) : clamp99 ((sayC codes e part stk nf).1 0) = sayV codes e part ng := by
  have h := (sRun_any (nf := nf) (ng := ng) (codes := codes) (a := sFrom e part) (s := (upd stk 0 0, 0)) (t := (upd (fun _ => 0) 0 0, 0)) hn rfl (fun j hj => by
    have hj0 : j = 0 := by simp only at hj; omega
    subst hj0
    simp [upd]) (e part - sFrom e part)).2 0 (Or.inr rfl)
  unfold sayV sayC
  rw [h]
/-- the six names -/
def nm6 (a b c d e f : Int32) : Nat → Int32 := fun k => if k = 0 then a else if k = 1 then b else if k = 2 then c else if k = 3 then d else if k = 4 then e else f
theorem nm6_eq {names : Nat → Int32} {a b c d e f : Int32} : ∀ k, k < 6 → upd (upd (upd (upd (upd (upd names 0 a) 1 b) 2 c) 3 d) 4 e) 5 f k = nm6 a b c d e f k := by
  intro k hk
  simp only [upd, nm6]
  grind
theorem clamp_bd (x : Int32) : 0 ≤ clamp99 x ∧ clamp99 x ≤ 99 := by
  unfold clamp99
  grind
theorem sayV_bd (codes : Nat → Int32) (e : Nat → Nat) (part : Nat) (named : Nat → Int32) : 0 ≤ sayV codes e part named ∧ sayV codes e part named ≤ 99 := clamp_bd _
/-- for how long a chair is warm when one gets up -/
def eKeep (ki mo fa sat stood : Nat → Int32) (say : Nat → (Nat → Int32) → Int32) (p c : Nat) (m : Int32) : Int32 := kKeeps (ki c) (mo c) (say 0 (nm6 (fa p) (mo c) (sat p) (stood p) m (nI c))) (sat p)
def eFirst (fa sat stood : Nat → Int32) (say : Nat → (Nat → Int32) → Int32) (p : Nat) (m : Int32) : Int32 := say 1 (nm6 (fa p) 0 (sat p) (stood p) m (nI p))
set_option maxHeartbeats 4000000 in
set_option maxRecDepth 100000 in
theorem c_X0_rise (fr lo fa ki mo : Nat → Int32) (pe ch sty wset wfor law lent : Int32) (on was sat stood rose firsts waits till sitter names : Nat → Int32) (satOn risen : Int32) (nc : Nat) (codes ends stk : Nat → Int32) (e : Nat → Nat) (hL : LW nc ends e) (p c : Nat) (m : Int32) (hp : p < 5) (hc : c < 6) (honp : on p = nI c) : Co M_X0_rise 2 0 0 [.ref 0, .ref 17, .int (nI p), .int m] (wEv fr lo fa ki mo pe ch sty wset wfor law lent on was sat stood rose firsts waits till sitter names satOn risen nc codes ends stk) (fun r w' => r = none ∧ ∃ names' stk', w' = wEv fr lo fa ki mo pe ch sty wset wfor law lent (upd on p (-1)) was sat stood (upd rose p m) firsts waits (upd till c (m + (if (0 : Int32) < eKeep ki mo fa sat stood (sayV codes e) p c m then eKeep ki mo fa sat stood (sayV codes e) p c m else 0))) (upd sitter c (-1)) names' (satOn &&& (((1 : Int32) <<< ((nI c) &&& 31)) ^^^ (-1))) (risen + 1) nc codes ends stk') := by
  refine Co.of ok_X0_rise rfl ?_
  refine ww_run 0 4 (pc' := 6) (lv' := [(0, .ref 0), (1, .ref 17), (2, .int (nI p)), (3, .int m)]) (st' := [.int (on (nI p).toNatClampNeg)]) (w' := wEv fr lo fa ki mo pe ch sty wset wfor law lent on was sat stood rose firsts waits till sitter names satOn risen nc codes ends stk) (Ps := [vp_in (nI p) 5]) rfl ⟨(vp_in_nI (by omega) (by omega)), trivial⟩ ?_
  rw [nI_clamp (n := p) (by omega)]
  rw [honp]
  refine ww_run 4 12 (pc' := 27) (lv' := [(5, .int (mo (nI c).toNatClampNeg)), (4, .int (nI c)), (0, .ref 0), (1, .ref 17), (2, .int (nI p)), (3, .int m)]) (st' := [.int (nI c), .int m, .int (mo (nI c).toNatClampNeg), .int (nI p), .ref 0]) (w' := wEv fr lo fa ki mo pe ch sty wset wfor law lent on was sat stood rose firsts waits till sitter names satOn risen nc codes ends stk) (Ps := [vp_in (nI c) 6]) rfl ⟨(vp_in_nI (by omega) (by omega)), trivial⟩ ?_
  rw [nI_clamp (n := c) (by omega)]
  refine ww_cVv 16 ok_X0_nameFor (c_X0_nameFor fr lo fa ki mo pe ch sty wset wfor law lent on was sat stood rose firsts waits till sitter names satOn risen nc codes ends stk p (mo c) m (nI c) (by omega)) lk_X0_93 rfl (by omega) (rest := []) rfl (Nat.le_of_ble_eq_true rfl) rfl rfl rfl rfl ?_
  refine ww_run 17 10 (pc' := 48) (lv' := [(5, .int (mo c)), (4, .int (nI c)), (0, .ref 0), (1, .ref 17), (2, .int (nI p)), (3, .int m)]) (st' := [.ref 16, .int 0, .ref 17, .int (mo c), .int (ki (nI c).toNatClampNeg)]) (w' := wEv fr lo fa ki mo pe ch sty wset wfor law lent on was sat stood rose firsts waits till sitter (upd (upd (upd (upd (upd (upd names 0 (fa p)) 1 (mo c)) 2 (sat p)) 3 (stood p)) 4 m) 5 (nI c)) satOn risen nc codes ends stk) (Ps := [vp_in (nI c) 6]) rfl ⟨(vp_in_nI (by omega) (by omega)), trivial⟩ ?_
  rw [nI_clamp (n := c) (by omega)]
  refine ww_cVi 27 (b := 17) (av := [.int 0, .ref 16]) (w1 := wEv fr lo fa ki mo pe ch sty wset wfor law lent on was sat stood rose firsts waits till sitter (upd (upd (upd (upd (upd (upd names 0 (fa p)) 1 (mo c)) 2 (sat p)) 3 (stood p)) 4 m) 5 (nI c)) satOn risen nc codes ends ((sayC codes e 0 stk (upd (upd (upd (upd (upd (upd names 0 (fa p)) 1 (mo c)) 2 (sat p)) 3 (stood p)) 4 m) 5 (nI c))).1)) ok_X3_says (Co.fri [17, 18, 19, 20, 16] (c_X3_says nc codes ends stk (upd (upd (upd (upd (upd (upd names 0 (fa p)) 1 (mo c)) 2 (sat p)) 3 (stood p)) 4 m) 5 (nI c)) 0 e (by omega) hL.1 hL.2.1 hL.2.2.1 hL.2.2.2.1 hL.2.2.2.2) rfl rfl rfl) lk_X0_100 rfl (by omega) (rest := [.int (mo c), .int (ki c)]) rfl (Nat.le_of_ble_eq_true rfl) rfl rfl rfl rfl ?_
  rw [sayV_eq (ng := nm6 (fa p) (mo c) (sat p) (stood p) m (nI c)) nm6_eq]
  refine ww_run 28 4 (pc' := 57) (lv' := [(5, .int (mo c)), (4, .int (nI c)), (0, .ref 0), (1, .ref 17), (2, .int (nI p)), (3, .int m)]) (st' := [.int (sat (nI p).toNatClampNeg), .int (sayV codes e 0 (nm6 (fa p) (mo c) (sat p) (stood p) m (nI c))), .int (mo c), .int (ki c)]) (w' := wEv fr lo fa ki mo pe ch sty wset wfor law lent on was sat stood rose firsts waits till sitter (upd (upd (upd (upd (upd (upd names 0 (fa p)) 1 (mo c)) 2 (sat p)) 3 (stood p)) 4 m) 5 (nI c)) satOn risen nc codes ends ((sayC codes e 0 stk (upd (upd (upd (upd (upd (upd names 0 (fa p)) 1 (mo c)) 2 (sat p)) 3 (stood p)) 4 m) 5 (nI c))).1)) (Ps := [vp_in (nI p) 5]) rfl ⟨(vp_in_nI (by omega) (by omega)), trivial⟩ ?_
  rw [nI_clamp (n := p) (by omega)]
  refine ww_cSi 32 ok_X2_keepsWarm (Co.fr0 (c_X2_keepsWarm (ki c) (mo c) (sayV codes e 0 (nm6 (fa p) (mo c) (sat p) (stood p) m (nI c))) (sat p)) rfl) lk_X0_106 rfl (by omega) (rest := []) rfl (Nat.le_of_ble_eq_true rfl) rfl ?_
  refine ww_run 33 7 (pc' := 72) (lv' := [(6, .int (kKeeps (ki c) (mo c) (sayV codes e 0 (nm6 (fa p) (mo c) (sat p) (stood p) m (nI c))) (sat p))), (5, .int (mo c)), (4, .int (nI c)), (0, .ref 0), (1, .ref 17), (2, .int (nI p)), (3, .int m)]) (st' := [.int (kKeeps (ki c) (mo c) (sayV codes e 0 (nm6 (fa p) (mo c) (sat p) (stood p) m (nI c))) (sat p)), .int 0, .int m, .int (nI c), .ref 14]) (w' := wEv fr lo fa ki mo pe ch sty wset wfor law lent on was sat stood rose firsts waits till sitter (upd (upd (upd (upd (upd (upd names 0 (fa p)) 1 (mo c)) 2 (sat p)) 3 (stood p)) 4 m) 5 (nI c)) satOn risen nc codes ends ((sayC codes e 0 stk (upd (upd (upd (upd (upd (upd names 0 (fa p)) 1 (mo c)) 2 (sat p)) 3 (stood p)) 4 m) 5 (nI c))).1)) (Ps := []) rfl trivial ?_
  refine ww_mmax 40 (idx := 112) (by decide +kernel) (by omega) (Nat.le_of_ble_eq_true rfl) rfl ?_
  refine ww_run 41 33 (pc' := 124) (lv' := [(6, .int (kKeeps (ki c) (mo c) (sayV codes e 0 (nm6 (fa p) (mo c) (sat p) (stood p) m (nI c))) (sat p))), (5, .int (mo c)), (4, .int (nI c)), (0, .ref 0), (1, .ref 17), (2, .int (nI p)), (3, .int m)]) (st' := []) (w' := wEv fr lo fa ki mo pe ch sty wset wfor law lent (upd on ((nI p).toNatClampNeg) (-1)) was sat stood (upd rose ((nI p).toNatClampNeg) m) firsts waits (upd till ((nI c).toNatClampNeg) (m + (if 0 < (kKeeps (ki c) (mo c) (sayV codes e 0 (nm6 (fa p) (mo c) (sat p) (stood p) m (nI c))) (sat p)) then (kKeeps (ki c) (mo c) (sayV codes e 0 (nm6 (fa p) (mo c) (sat p) (stood p) m (nI c))) (sat p)) else 0))) (upd sitter ((nI c).toNatClampNeg) (-1)) (upd (upd (upd (upd (upd (upd names 0 (fa p)) 1 (mo c)) 2 (sat p)) 3 (stood p)) 4 m) 5 (nI c)) (satOn &&& ((1 <<< ((nI c) &&& 31)) ^^^ (-1))) (risen + 1) nc codes ends ((sayC codes e 0 stk (upd (upd (upd (upd (upd (upd names 0 (fa p)) 1 (mo c)) 2 (sat p)) 3 (stood p)) 4 m) 5 (nI c))).1)) (Ps := [vp_in (nI c) 6, vp_in (nI c) 6, vp_in (nI p) 5, vp_in (nI p) 5]) rfl ⟨(vp_in_nI (by omega) (by omega)), (vp_in_nI (by omega) (by omega)), (vp_in_nI (by omega) (by omega)), (vp_in_nI (by omega) (by omega)), trivial⟩ ?_
  rw [nI_clamp (n := p) (by omega)]
  rw [nI_clamp (n := c) (by omega)]
  refine ww_vret 74 rfl rfl ?_
  exact ⟨rfl, _, _, rfl⟩
