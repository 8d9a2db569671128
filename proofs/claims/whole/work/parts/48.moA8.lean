abbrev wMo (wi ki mo ho cd sr stk names till sitter on was sat stood rose turn kf : Nat → Int32) (pe ch ru lent brow bw : Int32) (J : Nat → Int32) (K : Nat → Nat → Int32) : List va_E :=
  [.inr (6, [.int pe, .ref 1, .int ch, .ref 2, .ref 3, .ref 4, .ref 5, .int (J 7), .ref 6, .ref 7, .int (J 10), .int ru, .int (J 12), .int (J 13), .int (J 14), .int (J 15), .ref 8, .ref 9, .ref 10, .ref 11, .ref 12, .ref 13, .ref 14, .int (J 23), .int (J 24), .int (J 25), .int (J 26), .ref 15, .ref 16, .int (J 29), .int (J 30), .int (J 31), .ref 17, .ref 18, .ref 19, .ref 20, .ref 21, .ref 22, .ref 23, .ref 24, .ref 25, .ref 26, .int lent, .ref 27, .int brow, .int bw, .ref 28]),
   iA 15 wi,
   iA 6 ki,
   iA 6 mo,
   iA 3 ho,
   iA 160 (K 6),
   iA 1200 cd,
   iA 24 sr,
   iA 15 (K 16),
   iA 3 (K 17),
   iA 12 (K 18),
   iA 4 (K 19),
   iA 4 (K 20),
   iA 160 (K 21),
   iA 50 (K 22),
   iA 96 (K 27),
   iA 200 (K 28),
   iA 200 stk,
   iA 6 names,
   iA 6 till,
   iA 6 sitter,
   iA 5 on,
   iA 5 was,
   iA 5 sat,
   iA 5 stood,
   iA 5 rose,
   iA 5 turn,
   iA 5 kf,
   iA 20 (K 46)]
theorem s6_bit : ∀ (b0 b1 b2 b3 b4 b5 : Bool) (c : Fin 6), decide (((s6 b0 b1 b2 b3 b4 b5 >>> ((nI c.val) &&& 31)) &&& 1) = 0) = !(nth6 b0 b1 b2 b3 b4 b5 c.val) := by decide +kernel
theorem setOf_bit (f : Nat → Bool) {c : Nat} (hc : c < 6) : ((setOf f 6 >>> ((nI c) &&& 31)) &&& 1) = 0 ↔ f c = false := by
  have h := s6_bit (f 0) (f 1) (f 2) (f 3) (f 4) (f 5) ⟨c, hc⟩
  rw [setOf6]
  have h2 : nth6 (f 0) (f 1) (f 2) (f 3) (f 4) (f 5) c = f c := by
    rcases (show c = 0 ∨ c = 1 ∨ c = 2 ∨ c = 3 ∨ c = 4 ∨ c = 5 by omega) with rfl | rfl | rfl | rfl | rfl | rfl <;> rfl
  simp only [h2] at h
  constructor
  · intro q
    rw [decide_eq_true q] at h
    simpa using h.symm
  · intro q
    rw [q] at h
    exact of_decide_eq_true h
/-- rows of numbers: as digits, as a set, as whose FROM each has -/
def digL (l : List Nat) : Int32 := l.foldl (fun d q => 10 * d + nI q) 0
def tkL (l : List Nat) : Int32 := setOf (fun q => decide (q ∈ l)) 6
def rowF (fr : Nat → Int32) (P : Nat) (l : List Nat) : Nat → Int32 := fun q => if q < P then fr (l.getD q 0) else fr q
/-- all ways, by rows, that go on from one -/
def ordL (P : Nat) : Nat → List Nat → List (List Nat)
  | 0, l => [l]
  | n + 1, l => ((List.range P).filter (fun q => !decide (q ∈ l))).flatMap (fun q => ordL P n (l ++ [q]))
def ordI (P n : Nat) (l : List Nat) (i : Nat) : List (List Nat) := ((List.range i).filter (fun q => !decide (q ∈ l))).flatMap (fun q => ordL P n (l ++ [q]))
abbrev BL : Type := List Nat × Int32 × Int32
def btl (P : Nat) (b : BL) (tag : List Nat) (s : ES) : BL := if riS s < b.2.1 ∨ (riS s = b.2.1 ∧ b.2.2 ≤ stS P s) then b else (tag, riS s, stS P s)
def b3L (b : BL) : B3 := (digL b.1, b.2)
theorem b3L_btl {P : Nat} {b : BL} {tag : List Nat} {s : ES} : b3L (btl P b tag s) = btr P (b3L b) (digL tag) s := by
  unfold btl btr b3L
  split <;> rfl
def ordF (ev : List Nat → ES) (P : Nat) (b : BL) (ls : List (List Nat)) : BL := ls.foldl (fun b l => btl P b l (ev l)) b
theorem ordF_app {ev : List Nat → ES} {P : Nat} {b : BL} {l1 l2 : List (List Nat)} : ordF ev P b (l1 ++ l2) = ordF ev P (ordF ev P b l1) l2 := List.foldl_append
theorem ordF_ok {ev : List Nat → ES} {P : Nat} (h : ∀ l, GS P (ev l)) : ∀ (ls : List (List Nat)) (b : BL), BOK (b3L b) → BOK (b3L (ordF ev P b ls))
  | [], b, hb => hb
  | l :: ls, b, hb => by
    show BOK (b3L (ordF ev P (btl P b l (ev l)) ls))
    exact ordF_ok h ls _ (by rw [b3L_btl]; exact btr_ok hb (h l))
theorem ordI_yes {P n : Nat} {l : List Nat} {i : Nat} (h : i ∉ l) : ordI P n l (i + 1) = ordI P n l i ++ ordL P n (l ++ [i]) := by
  unfold ordI
  rw [List.range_succ, List.filter_append, List.flatMap_append]
  simp [h]
theorem ordI_no {P n : Nat} {l : List Nat} {i : Nat} (h : i ∈ l) : ordI P n l (i + 1) = ordI P n l i := by
  unfold ordI
  rw [List.range_succ, List.filter_append, List.flatMap_append]
  simp [h]
theorem digL_app (l : List Nat) (q : Nat) : digL (l ++ [q]) = 10 * digL l + nI q := by
  unfold digL
  rw [List.foldl_append]
  rfl
theorem tkL_app {l : List Nat} {q : Nat} (hq : q < 6) : tkL l ||| ((1 : Int32) <<< ((nI q) &&& 31)) = tkL (l ++ [q]) := by
  unfold tkL
  rw [setOf_set _ hq]
  refine setOf_congr (fun j _ => ?_)
  by_cases h1 : j ∈ l <;> by_cases h2 : q = j <;> simp [h1, h2, eq_comm]
theorem tkL_bit {l : List Nat} {q : Nat} (hq : q < 6) : ((tkL l >>> ((nI q) &&& 31)) &&& 1) = 0 ↔ q ∉ l := by
  unfold tkL
  rw [setOf_bit _ hq]
  simp
/-- the FROMs while a row is being laid -/
def PF (P : Nat) (fr0 kf fr : Nat → Int32) (l : List Nat) : Prop := (∀ q, q < l.length → fr q = kf (l.getD q 0)) ∧ ∀ q, P ≤ q → fr q = fr0 q
theorem PF_row {P : Nat} {fr0 kf fr : Nat → Int32} {l : List Nat} (h : PF P fr0 kf fr l) (hl : l.length = P) (hk : ∀ q, q < P → kf q = fr0 q) (hm : ∀ q ∈ l, q < P) : fr = rowF fr0 P l := by
  funext q
  unfold rowF
  by_cases hq : q < P
  · rw [if_pos hq, h.1 q (by omega), hk]
    rw [List.getD_eq_getElem?_getD, List.getElem?_eq_getElem (by omega)]
    exact hm _ (List.getElem_mem _)
  · rw [if_neg hq]
    exact h.2 q (by omega)
theorem PF_add {P : Nat} {fr0 kf fr : Nat → Int32} {l : List Nat} {q : Nat} (h : PF P fr0 kf fr l) (hl : l.length < P) : PF P fr0 kf (upd fr l.length (kf q)) (l ++ [q]) := by
  refine ⟨fun j hj => ?_, fun j hj => ?_⟩
  · rw [List.length_append, List.length_singleton] at hj
    by_cases e : j = l.length
    · subst e
      rw [upd_s]
      simp [List.getD_eq_getElem?_getD]
    · rw [upd_n e, h.1 j (by omega)]
      simp [List.getD_eq_getElem?_getD, List.getElem?_append_left (show j < l.length by omega)]
  · rw [upd_n (by omega)]
    exact h.2 j hj
theorem PF_back {P : Nat} {fr0 kf fr : Nat → Int32} {l : List Nat} {q : Nat} (h : PF P fr0 kf fr (l ++ [q])) : PF P fr0 kf fr l := by
  refine ⟨fun j hj => ?_, h.2⟩
  rw [h.1 j (by rw [List.length_append]; omega)]
  simp [List.getD_eq_getElem?_getD, List.getElem?_append_left hj]
set_option maxHeartbeats 4000000 in
set_option maxRecDepth 100000 in
theorem m_orders0 (ki mo cd sr kf : Nat → Int32) (lent : Int32) (J : Nat → Int32) (K : Nat → Nat → Int32) (fr0 lo fa : Nat → Int32) (sty wset wfor : Int32) (sy : SY) (T P C k : Nat) (hP : P ≤ 5) (hC : C ≤ 6) (hk : k < T) (hL : ML cd sr T sy) (hmo : MO6 mo) (hwf : sm 30 wfor) (hkf : ∀ q, q < P → kf q = fr0 q) (l : List Nat) (b : BL) (fr : Nat → Int32) (x : MS) (z : Z3) (hl : l.length + 0 = P) (hlm : ∀ q ∈ l, q < P) (hb : BOK (b3L b)) (hpf : PF P fr0 kf fr l) : Co M_X7_orders 8 0 0 [.ref 0, .int (nI l.length), .int (tkL l), .int (digL l)] (wMo (wiF fr lo fa) ki mo (hoF sty wset wfor) cd sr z.2.1 z.1 x.2.2.2.2.2.1 x.2.2.2.2.2.2 x.1 x.2.1 x.2.2.1 x.2.2.2.1 x.2.2.2.2.1 z.2.2 kf (nI P) (nI C) (nI k) lent (digL b.1) (mostOf (b3L b)) J K) (fun r w' => r = none ∧ ∃ (fr : Nat → Int32) (x : MS) (z : Z3), PF P fr0 kf fr l ∧ w' = wMo (wiF fr lo fa) ki mo (hoF sty wset wfor) cd sr z.2.1 z.1 x.2.2.2.2.2.1 x.2.2.2.2.2.2 x.1 x.2.1 x.2.2.1 x.2.2.2.1 x.2.2.2.2.1 z.2.2 kf (nI P) (nI C) (nI k) lent (digL (ordF (fun l => (evS sy P C (rowF fr0 P l) lo fa ki mo k sty wset wfor lent 30)) P b (ordL P 0 l)).1) (mostOf (b3L (ordF (fun l => (evS sy P C (rowF fr0 P l) lo fa ki mo k sty wset wfor lent 30)) P b (ordL P 0 l)))) J K) := by
  refine Co.of ok_X7_orders rfl ?_
  refine ww_run 0 3 (pc' := 5) (lv' := [(0, .ref 0), (1, .int (nI l.length)), (2, .int (tkL l)), (3, .int (digL l))]) (st' := [.int (nI P), .int (nI l.length)]) (w' := wMo (wiF fr lo fa) ki mo (hoF sty wset wfor) cd sr z.2.1 z.1 x.2.2.2.2.2.1 x.2.2.2.2.2.2 x.1 x.2.1 x.2.2.1 x.2.2.2.1 x.2.2.2.2.1 z.2.2 kf (nI P) (nI C) (nI k) lent (digL b.1) (mostOf (b3L b)) J K) (Ps := []) rfl trivial ?_
  refine ww_icmp_ne 3 rfl (tgt := 58) rfl (fun c1 => ?_) (fun c1 => ?_)
  · have c1 : ¬ l.length = P := fun q => c1 ((nI_eq (a := l.length) (b := P) (by omega) (by omega)).mpr q)
    exact absurd (by rw [show l.length = P by omega]) c1
  · have c1 : l.length = P := (nI_eq (a := l.length) (b := P) (by omega) (by omega)).mp c1
    refine ww_run 4 1 (pc' := 9) (lv' := [(0, .ref 0), (1, .int (nI l.length)), (2, .int (tkL l)), (3, .int (digL l))]) (st' := [.ref 0]) (w' := wMo (wiF fr lo fa) ki mo (hoF sty wset wfor) cd sr z.2.1 z.1 x.2.2.2.2.2.1 x.2.2.2.2.2.2 x.1 x.2.1 x.2.2.1 x.2.2.2.1 x.2.2.2.2.1 z.2.2 kf (nI P) (nI C) (nI k) lent (digL b.1) (mostOf (b3L b)) J K) (Ps := []) rfl trivial ?_
    refine ww_cV 5 ok_X7_worthOfEvening (m_woe ki mo cd sr lent (fun q => if q = 44 then digL b.1 else if q = 45 then mostOf (b3L b) else J q) (fun q => if q = 43 then kf else K q) fr lo fa sty wset wfor x z sy T P C k hP hC hk hL hmo) lk_X7_269 rfl (by omega) (rest := []) rfl (Nat.le_of_ble_eq_true rfl) rfl rfl rfl rfl (fun r w' hq => ?_)
    obtain ⟨rfl, x1, z1, rfl⟩ := hq
    refine ww_run 6 5 (pc' := 21) (lv' := [(4, .int (woS P (evS sy P C fr lo fa ki mo k sty wset wfor lent 30))), (0, .ref 0), (1, .int (nI l.length)), (2, .int (tkL l)), (3, .int (digL l))]) (st' := [.int (mostOf (b3L b)), .int (woS P (evS sy P C fr lo fa ki mo k sty wset wfor lent 30)), .ref 0]) (w' := wMo (wiF fr lo fa) ki mo (hoF sty wset wfor) cd sr z1.2.1 z1.1 x1.2.2.2.2.2.1 x1.2.2.2.2.2.2 x1.1 x1.2.1 x1.2.2.1 x1.2.2.2.1 x1.2.2.2.2.1 z1.2.2 kf (nI P) (nI C) (nI k) lent (digL b.1) (mostOf (b3L b)) J K) (Ps := []) rfl trivial ?_
    refine ww_icmp_le 11 rfl (tgt := 28) rfl (fun c2 => ?_) (fun c2 => ?_)
    · refine ww_run 14 7 (pc' := 42) (lv' := [(4, .int (woS P (evS sy P C fr lo fa ki mo k sty wset wfor lent 30))), (0, .ref 0), (1, .int (nI l.length)), (2, .int (tkL l)), (3, .int (digL l))]) (st' := [.int (mostOf (b3L b)), .int (woS P (evS sy P C fr lo fa ki mo k sty wset wfor lent 30)), .ref 0]) (w' := wMo (wiF fr lo fa) ki mo (hoF sty wset wfor) cd sr z1.2.1 z1.1 x1.2.2.2.2.2.1 x1.2.2.2.2.2.2 x1.1 x1.2.1 x1.2.2.1 x1.2.2.2.1 x1.2.2.2.2.1 z1.2.2 kf (nI P) (nI C) (nI k) lent (digL b.1) (mostOf (b3L b)) J K) (Ps := []) rfl trivial ?_
      refine ww_icmp_le 21 rfl (tgt := 50) rfl (fun c3 => ?_) (fun c3 => ?_)
      · refine ww_run 24 3 (pc' := 57) (lv' := [(4, .int (woS P (evS sy P C fr lo fa ki mo k sty wset wfor lent 30))), (0, .ref 0), (1, .int (nI l.length)), (2, .int (tkL l)), (3, .int (digL l))]) (st' := []) (w' := wMo (wiF fr lo fa) ki mo (hoF sty wset wfor) cd sr z1.2.1 z1.1 x1.2.2.2.2.2.1 x1.2.2.2.2.2.2 x1.1 x1.2.1 x1.2.2.1 x1.2.2.2.1 x1.2.2.2.2.1 z1.2.2 kf (nI P) (nI C) (nI k) lent (digL b.1) (mostOf (b3L b)) J K) (Ps := []) rfl trivial ?_
        refine ww_vret 27 rfl rfl ?_
        have hG : GS P (evS sy P C fr lo fa ki mo k sty wset wfor lent 30) := GS_of hP (evS_inv hL.2.1 hP hC hmo (by omega)) (evS_num hL.2.1 hP hC hmo hwf (by omega))
        have hfr : fr = rowF fr0 P l := PF_row hpf (by omega) hkf hlm
        refine ⟨rfl, fr, x1, z1, hpf, ?_⟩
        show _ = wMo (wiF fr lo fa) ki mo (hoF sty wset wfor) cd sr z1.2.1 z1.1 x1.2.2.2.2.2.1 x1.2.2.2.2.2.2 x1.1 x1.2.1 x1.2.2.1 x1.2.2.2.1 x1.2.2.2.2.1 z1.2.2 kf (nI P) (nI C) (nI k) lent (digL (btl P b l (evS sy P C (rowF fr0 P l) lo fa ki mo k sty wset wfor lent 30)).1) (mostOf (b3L (btl P b l (evS sy P C (rowF fr0 P l) lo fa ki mo k sty wset wfor lent 30)))) J K
        rw [b3L_btl, ← hfr]
        have hy := btr_no (tag := digL l) hb hG c2
        have hy1 : digL (btl P b l (evS sy P C fr lo fa ki mo k sty wset wfor lent 30)).1 = digL b.1 := by
          have h3 := congrArg (fun q => q.1) (b3L_btl (P := P) (b := b) (tag := l) (s := (evS sy P C fr lo fa ki mo k sty wset wfor lent 30)))
          rw [hy] at h3
          exact h3
        rw [hy, hy1]
      · exact absurd c2 c3
    · refine ww_run 12 2 (pc' := 32) (lv' := [(4, .int (woS P (evS sy P C fr lo fa ki mo k sty wset wfor lent 30))), (0, .ref 0), (1, .int (nI l.length)), (2, .int (tkL l)), (3, .int (digL l))]) (st' := [.int (digL l), .ref 0]) (w' := wMo (wiF fr lo fa) ki mo (hoF sty wset wfor) cd sr z1.2.1 z1.1 x1.2.2.2.2.2.1 x1.2.2.2.2.2.2 x1.1 x1.2.1 x1.2.2.1 x1.2.2.2.1 x1.2.2.2.2.1 z1.2.2 kf (nI P) (nI C) (nI k) lent (digL b.1) (mostOf (b3L b)) J K) (Ps := []) rfl trivial ?_
      refine ww_run 16 5 (pc' := 42) (lv' := [(4, .int (woS P (evS sy P C fr lo fa ki mo k sty wset wfor lent 30))), (0, .ref 0), (1, .int (nI l.length)), (2, .int (tkL l)), (3, .int (digL l))]) (st' := [.int (mostOf (b3L b)), .int (woS P (evS sy P C fr lo fa ki mo k sty wset wfor lent 30)), .ref 0]) (w' := wMo (wiF fr lo fa) ki mo (hoF sty wset wfor) cd sr z1.2.1 z1.1 x1.2.2.2.2.2.1 x1.2.2.2.2.2.2 x1.1 x1.2.1 x1.2.2.1 x1.2.2.2.1 x1.2.2.2.2.1 z1.2.2 kf (nI P) (nI C) (nI k) lent (digL l) (mostOf (b3L b)) J K) (Ps := []) rfl trivial ?_
      refine ww_icmp_le 21 rfl (tgt := 50) rfl (fun c4 => ?_) (fun c4 => ?_)
      · exact absurd c4 c2
      · refine ww_run 22 2 (pc' := 54) (lv' := [(4, .int (woS P (evS sy P C fr lo fa ki mo k sty wset wfor lent 30))), (0, .ref 0), (1, .int (nI l.length)), (2, .int (tkL l)), (3, .int (digL l))]) (st' := [.int (woS P (evS sy P C fr lo fa ki mo k sty wset wfor lent 30)), .ref 0]) (w' := wMo (wiF fr lo fa) ki mo (hoF sty wset wfor) cd sr z1.2.1 z1.1 x1.2.2.2.2.2.1 x1.2.2.2.2.2.2 x1.1 x1.2.1 x1.2.2.1 x1.2.2.2.1 x1.2.2.2.2.1 z1.2.2 kf (nI P) (nI C) (nI k) lent (digL l) (mostOf (b3L b)) J K) (Ps := []) rfl trivial ?_
        refine ww_run 26 1 (pc' := 57) (lv' := [(4, .int (woS P (evS sy P C fr lo fa ki mo k sty wset wfor lent 30))), (0, .ref 0), (1, .int (nI l.length)), (2, .int (tkL l)), (3, .int (digL l))]) (st' := []) (w' := wMo (wiF fr lo fa) ki mo (hoF sty wset wfor) cd sr z1.2.1 z1.1 x1.2.2.2.2.2.1 x1.2.2.2.2.2.2 x1.1 x1.2.1 x1.2.2.1 x1.2.2.2.1 x1.2.2.2.2.1 z1.2.2 kf (nI P) (nI C) (nI k) lent (digL l) (woS P (evS sy P C fr lo fa ki mo k sty wset wfor lent 30)) J K) (Ps := []) rfl trivial ?_
        refine ww_vret 27 rfl rfl ?_
        have hG : GS P (evS sy P C fr lo fa ki mo k sty wset wfor lent 30) := GS_of hP (evS_inv hL.2.1 hP hC hmo (by omega)) (evS_num hL.2.1 hP hC hmo hwf (by omega))
        have hfr : fr = rowF fr0 P l := PF_row hpf (by omega) hkf hlm
        refine ⟨rfl, fr, x1, z1, hpf, ?_⟩
        show _ = wMo (wiF fr lo fa) ki mo (hoF sty wset wfor) cd sr z1.2.1 z1.1 x1.2.2.2.2.2.1 x1.2.2.2.2.2.2 x1.1 x1.2.1 x1.2.2.1 x1.2.2.2.1 x1.2.2.2.2.1 z1.2.2 kf (nI P) (nI C) (nI k) lent (digL (btl P b l (evS sy P C (rowF fr0 P l) lo fa ki mo k sty wset wfor lent 30)).1) (mostOf (b3L (btl P b l (evS sy P C (rowF fr0 P l) lo fa ki mo k sty wset wfor lent 30)))) J K
        rw [b3L_btl, ← hfr]
        have hy := btr_yes (tag := digL l) hb hG c2
        have hy1 : digL (btl P b l (evS sy P C fr lo fa ki mo k sty wset wfor lent 30)).1 = digL l := by
          have h3 := congrArg (fun q => q.1) (b3L_btl (P := P) (b := b) (tag := l) (s := (evS sy P C fr lo fa ki mo k sty wset wfor lent 30)))
          exact h3.trans hy.1
        rw [hy.2, hy1]
set_option maxHeartbeats 4000000 in
set_option maxRecDepth 100000 in
theorem l_X7_orders_61 {Q : Option Value → List va_E → Prop} {d : Nat} (hd : 0 ≤ d) (ki mo cd sr kf : Nat → Int32) (lent : Int32) (J : Nat → Int32) (K : Nat → Nat → Int32)  (fr0 lo fa : Nat → Int32) (sty wset wfor : Int32) (sy : SY) (T P C k : Nat) (hP : P ≤ 5) (hC : C ≤ 6) (hk : k < T) (hL : ML cd sr T sy) (hmo : MO6 mo) (hwf : sm 30 wfor) (hkf : ∀ q, q < P → kf q = fr0 q) (n0 : Nat) (hd9 : 9 + n0 ≤ d) (l : List Nat) (b : BL) (hl : l.length + (n0 + 1) = P) (hlm : ∀ q ∈ l, q < P) (hb : BOK (b3L b)) (hGa : ∀ l, GS P ((fun l => (evS sy P C (rowF fr0 P l) lo fa ki mo k sty wset wfor lent 30)) l)) (hrec : ∀ (l : List Nat) (b : BL) (fr : Nat → Int32) (x : MS) (z : Z3) (hl : l.length + n0 = P) (hlm : ∀ q ∈ l, q < P) (hb : BOK (b3L b)) (hpf : PF P fr0 kf fr l), Co M_X7_orders (8 + n0) 0 0 [.ref 0, .int (nI l.length), .int (tkL l), .int (digL l)] (wMo (wiF fr lo fa) ki mo (hoF sty wset wfor) cd sr z.2.1 z.1 x.2.2.2.2.2.1 x.2.2.2.2.2.2 x.1 x.2.1 x.2.2.1 x.2.2.2.1 x.2.2.2.2.1 z.2.2 kf (nI P) (nI C) (nI k) lent (digL b.1) (mostOf (b3L b)) J K) (fun r w' => r = none ∧ ∃ (fr : Nat → Int32) (x : MS) (z : Z3), PF P fr0 kf fr l ∧ w' = wMo (wiF fr lo fa) ki mo (hoF sty wset wfor) cd sr z.2.1 z.1 x.2.2.2.2.2.1 x.2.2.2.2.2.2 x.1 x.2.1 x.2.2.1 x.2.2.2.1 x.2.2.2.2.1 z.2.2 kf (nI P) (nI C) (nI k) lent (digL (ordF (fun l => (evS sy P C (rowF fr0 P l) lo fa ki mo k sty wset wfor lent 30)) P b (ordL P n0 l)).1) (mostOf (b3L (ordF (fun l => (evS sy P C (rowF fr0 P l) lo fa ki mo k sty wset wfor lent 30)) P b (ordL P n0 l)))) J K)) (KK : ∀ (fr : Nat → Int32) (x : MS) (z : Z3), PF P fr0 kf fr l → WW M_X7_orders d Q xz 120 [(0, .ref 0), (1, .int (nI l.length)), (2, .int (tkL l)), (3, .int (digL l)), (4, .int (nI P))] [] (wMo (wiF fr lo fa) ki mo (hoF sty wset wfor) cd sr z.2.1 z.1 x.2.2.2.2.2.1 x.2.2.2.2.2.2 x.1 x.2.1 x.2.2.1 x.2.2.2.1 x.2.2.2.2.1 z.2.2 kf (nI P) (nI C) (nI k) lent (digL (ordF (fun l => (evS sy P C (rowF fr0 P l) lo fa ki mo k sty wset wfor lent 30)) P b (ordI P n0 l P)).1) (mostOf (b3L (ordF (fun l => (evS sy P C (rowF fr0 P l) lo fa ki mo k sty wset wfor lent 30)) P b (ordI P n0 l P)))) J K)) :
    ∀ (n i : Nat) (fr : Nat → Int32) (x : MS) (z : Z3), i ≤ P → P + 1 ≤ i + n → PF P fr0 kf fr l → WW M_X7_orders d Q xz 61 [(0, .ref 0), (1, .int (nI l.length)), (2, .int (tkL l)), (3, .int (digL l)), (4, .int (nI i))] [] (wMo (wiF fr lo fa) ki mo (hoF sty wset wfor) cd sr z.2.1 z.1 x.2.2.2.2.2.1 x.2.2.2.2.2.2 x.1 x.2.1 x.2.2.1 x.2.2.2.1 x.2.2.2.2.1 z.2.2 kf (nI P) (nI C) (nI k) lent (digL (ordF (fun l => (evS sy P C (rowF fr0 P l) lo fa ki mo k sty wset wfor lent 30)) P b (ordI P n0 l i)).1) (mostOf (b3L (ordF (fun l => (evS sy P C (rowF fr0 P l) lo fa ki mo k sty wset wfor lent 30)) P b (ordI P n0 l i)))) J K) := by
  intro n
  induction n with
  | zero => intro i; intros; omega
  | succ n ih =>
    intro i fr x z hi hn hpf
    refine ww_run 30 3 (pc' := 67) (lv' := [(0, .ref 0), (1, .int (nI l.length)), (2, .int (tkL l)), (3, .int (digL l)), (4, .int (nI i))]) (st' := [.int (nI P), .int (nI i)]) (w' := wMo (wiF fr lo fa) ki mo (hoF sty wset wfor) cd sr z.2.1 z.1 x.2.2.2.2.2.1 x.2.2.2.2.2.2 x.1 x.2.1 x.2.2.1 x.2.2.2.1 x.2.2.2.2.1 z.2.2 kf (nI P) (nI C) (nI k) lent (digL (ordF (fun l => (evS sy P C (rowF fr0 P l) lo fa ki mo k sty wset wfor lent 30)) P b (ordI P n0 l i)).1) (mostOf (b3L (ordF (fun l => (evS sy P C (rowF fr0 P l) lo fa ki mo k sty wset wfor lent 30)) P b (ordI P n0 l i)))) J K) (Ps := []) rfl trivial ?_
    refine ww_icmp_ge 33 rfl (tgt := 120) rfl (fun c1 => ?_) (fun c1 => ?_)
    · have c1 : P ≤ i := (nI_leI (a := P) (b := i) (by omega) (by omega)).mp c1
      obtain rfl : i = P := by omega
      exact KK fr x z hpf
    · have c1 : ¬ P ≤ i := fun q => c1 ((nI_leI (a := P) (b := i) (by omega) (by omega)).mpr q)
      refine ww_run 34 5 (pc' := 76) (lv' := [(0, .ref 0), (1, .int (nI l.length)), (2, .int (tkL l)), (3, .int (digL l)), (4, .int (nI i))]) (st' := [.int (((tkL l) >>> ((nI i) &&& 31)) &&& 1)]) (w' := wMo (wiF fr lo fa) ki mo (hoF sty wset wfor) cd sr z.2.1 z.1 x.2.2.2.2.2.1 x.2.2.2.2.2.2 x.1 x.2.1 x.2.2.1 x.2.2.2.1 x.2.2.2.2.1 z.2.2 kf (nI P) (nI C) (nI k) lent (digL (ordF (fun l => (evS sy P C (rowF fr0 P l) lo fa ki mo k sty wset wfor lent 30)) P b (ordI P n0 l i)).1) (mostOf (b3L (ordF (fun l => (evS sy P C (rowF fr0 P l) lo fa ki mo k sty wset wfor lent 30)) P b (ordI P n0 l i)))) J K) (Ps := []) rfl trivial ?_
      refine ww_if_ne 39 rfl (tgt := 114) rfl (fun c2 => ?_) (fun c2 => ?_)
      · refine ww_run 65 2 (pc' := 61) (lv' := [(4, .int ((nI i) + 1)), (0, .ref 0), (1, .int (nI l.length)), (2, .int (tkL l)), (3, .int (digL l))]) (st' := []) (w' := wMo (wiF fr lo fa) ki mo (hoF sty wset wfor) cd sr z.2.1 z.1 x.2.2.2.2.2.1 x.2.2.2.2.2.2 x.1 x.2.1 x.2.2.1 x.2.2.2.1 x.2.2.2.2.1 z.2.2 kf (nI P) (nI C) (nI k) lent (digL (ordF (fun l => (evS sy P C (rowF fr0 P l) lo fa ki mo k sty wset wfor lent 30)) P b (ordI P n0 l i)).1) (mostOf (b3L (ordF (fun l => (evS sy P C (rowF fr0 P l) lo fa ki mo k sty wset wfor lent 30)) P b (ordI P n0 l i)))) J K) (Ps := []) rfl trivial ?_
        rw [nI_1 i]
        refine ww_lv [1, 2, 3, 4, 0] (lv' := [(0, .ref 0), (1, .int (nI l.length)), (2, .int (tkL l)), (3, .int (digL l)), (4, .int (nI (i + 1)))]) rfl ?_
        have hin : i ∈ l := by
          by_cases q : i ∈ l
          · exact q
          · exact absurd ((tkL_bit (by omega)).mpr q) c2
        have hh := ih (i + 1) fr x z (by omega) (by omega) hpf
        rw [ordI_no hin] at hh
        exact hh
      · refine ww_run 40 24 (pc' := 111) (lv' := [(0, .ref 0), (1, .int (nI l.length)), (2, .int (tkL l)), (3, .int (digL l)), (4, .int (nI i))]) (st' := [.int ((10 * (digL l)) + (nI i)), .int ((tkL l) ||| (1 <<< ((nI i) &&& 31))), .int ((nI l.length) + 1), .ref 0]) (w' := wMo (upd (wiF fr lo fa) ((3 * (nI l.length)).toNatClampNeg) (kf (nI i).toNatClampNeg)) ki mo (hoF sty wset wfor) cd sr z.2.1 z.1 x.2.2.2.2.2.1 x.2.2.2.2.2.2 x.1 x.2.1 x.2.2.1 x.2.2.2.1 x.2.2.2.2.1 z.2.2 kf (nI P) (nI C) (nI k) lent (digL (ordF (fun l => (evS sy P C (rowF fr0 P l) lo fa ki mo k sty wset wfor lent 30)) P b (ordI P n0 l i)).1) (mostOf (b3L (ordF (fun l => (evS sy P C (rowF fr0 P l) lo fa ki mo k sty wset wfor lent 30)) P b (ordI P n0 l i)))) J K) (Ps := [vp_in (nI i) 5, vp_in (3 * (nI l.length)) 15]) rfl ⟨(vp_in_nI (by omega) (by omega)), (by rw [show (3 : Int32) * nI l.length = nI (3 * l.length) from pk_mul 3 l.length]; exact vp_in_nI (by omega) (by omega)), trivial⟩ ?_
        rw [nI_clamp (n := i) (by omega)]
        rw [nI_1 l.length]
        rw [show (3 : Int32) * nI l.length = nI (3 * l.length) from pk_mul 3 l.length]
        rw [nI_clamp (n := (3 * l.length)) (by omega)]
        rw [wi_u0]
        rw [tkL_app (by omega)]
        rw [← digL_app]
        rw [show l.length + 1 = (l ++ [i]).length by simp]
        have hfl : ∀ q ∈ l ++ [i], q < P := by
          intro q hq
          rcases List.mem_append.mp hq with h | h
          · exact hlm q h
          · rw [List.mem_singleton.mp h]; omega
        refine ww_cV 64 ok_X7_orders (hrec (l ++ [i]) (ordF (fun l => (evS sy P C (rowF fr0 P l) lo fa ki mo k sty wset wfor lent 30)) P b (ordI P n0 l i)) (upd fr l.length (kf i)) x z (by simp; omega) hfl (ordF_ok hGa _ b hb) (PF_add hpf (by omega))) lk_X7_281 rfl (by omega) (rest := []) rfl (Nat.le_of_ble_eq_true rfl) rfl rfl rfl rfl (fun r w' hq => ?_)
        obtain ⟨rfl, fr1, x1, z1, hpf1, rfl⟩ := hq
        refine ww_run 65 2 (pc' := 61) (lv' := [(4, .int ((nI i) + 1)), (0, .ref 0), (1, .int (nI l.length)), (2, .int (tkL l)), (3, .int (digL l))]) (st' := []) (w' := wMo (wiF fr1 lo fa) ki mo (hoF sty wset wfor) cd sr z1.2.1 z1.1 x1.2.2.2.2.2.1 x1.2.2.2.2.2.2 x1.1 x1.2.1 x1.2.2.1 x1.2.2.2.1 x1.2.2.2.2.1 z1.2.2 kf (nI P) (nI C) (nI k) lent (digL (ordF (fun l => (evS sy P C (rowF fr0 P l) lo fa ki mo k sty wset wfor lent 30)) P (ordF (fun l => (evS sy P C (rowF fr0 P l) lo fa ki mo k sty wset wfor lent 30)) P b (ordI P n0 l i)) (ordL P n0 (l ++ [i]))).1) (mostOf (b3L (ordF (fun l => (evS sy P C (rowF fr0 P l) lo fa ki mo k sty wset wfor lent 30)) P (ordF (fun l => (evS sy P C (rowF fr0 P l) lo fa ki mo k sty wset wfor lent 30)) P b (ordI P n0 l i)) (ordL P n0 (l ++ [i]))))) J K) (Ps := []) rfl trivial ?_
        rw [nI_1 i]
        refine ww_lv [1, 2, 3, 4, 0] (lv' := [(0, .ref 0), (1, .int (nI l.length)), (2, .int (tkL l)), (3, .int (digL l)), (4, .int (nI (i + 1)))]) rfl ?_
        have hh := ih (i + 1) fr1 x1 z1 (by omega) (by omega) (PF_back hpf1)
        rw [ordI_yes ((tkL_bit (by omega)).mp c2), ordF_app] at hh
        exact hh
set_option maxHeartbeats 4000000 in
set_option maxRecDepth 100000 in
theorem m_orders (ki mo cd sr kf : Nat → Int32) (lent : Int32) (J : Nat → Int32) (K : Nat → Nat → Int32) (fr0 lo fa : Nat → Int32) (sty wset wfor : Int32) (sy : SY) (T P C k : Nat) (hP : P ≤ 5) (hC : C ≤ 6) (hk : k < T) (hL : ML cd sr T sy) (hmo : MO6 mo) (hwf : sm 30 wfor) (hkf : ∀ q, q < P → kf q = fr0 q) : ∀ (n0 : Nat) (l : List Nat) (b : BL) (fr : Nat → Int32) (x : MS) (z : Z3) (hl : l.length + n0 = P) (hlm : ∀ q ∈ l, q < P) (hb : BOK (b3L b)) (hpf : PF P fr0 kf fr l), Co M_X7_orders (8 + n0) 0 0 [.ref 0, .int (nI l.length), .int (tkL l), .int (digL l)] (wMo (wiF fr lo fa) ki mo (hoF sty wset wfor) cd sr z.2.1 z.1 x.2.2.2.2.2.1 x.2.2.2.2.2.2 x.1 x.2.1 x.2.2.1 x.2.2.2.1 x.2.2.2.2.1 z.2.2 kf (nI P) (nI C) (nI k) lent (digL b.1) (mostOf (b3L b)) J K) (fun r w' => r = none ∧ ∃ (fr : Nat → Int32) (x : MS) (z : Z3), PF P fr0 kf fr l ∧ w' = wMo (wiF fr lo fa) ki mo (hoF sty wset wfor) cd sr z.2.1 z.1 x.2.2.2.2.2.1 x.2.2.2.2.2.2 x.1 x.2.1 x.2.2.1 x.2.2.2.1 x.2.2.2.2.1 z.2.2 kf (nI P) (nI C) (nI k) lent (digL (ordF (fun l => (evS sy P C (rowF fr0 P l) lo fa ki mo k sty wset wfor lent 30)) P b (ordL P n0 l)).1) (mostOf (b3L (ordF (fun l => (evS sy P C (rowF fr0 P l) lo fa ki mo k sty wset wfor lent 30)) P b (ordL P n0 l)))) J K) := by
  have hGa : ∀ l, GS P ((fun l => (evS sy P C (rowF fr0 P l) lo fa ki mo k sty wset wfor lent 30)) l) := fun l => GS_of hP (evS_inv hL.2.1 hP hC hmo (by omega)) (evS_num hL.2.1 hP hC hmo hwf (by omega))
  intro n0
  induction n0 with
  | zero => intro l b fr x z hl hlm hb hpf; exact m_orders0 ki mo cd sr kf lent J K fr0 lo fa sty wset wfor sy T P C k hP hC hk hL hmo hwf hkf l b fr x z hl hlm hb hpf
  | succ n0 hrec =>
    intro l b fr x z hl hlm hb hpf
    refine Co.of ok_X7_orders rfl ?_
    refine ww_run 0 3 (pc' := 5) (lv' := [(0, .ref 0), (1, .int (nI l.length)), (2, .int (tkL l)), (3, .int (digL l))]) (st' := [.int (nI P), .int (nI l.length)]) (w' := wMo (wiF fr lo fa) ki mo (hoF sty wset wfor) cd sr z.2.1 z.1 x.2.2.2.2.2.1 x.2.2.2.2.2.2 x.1 x.2.1 x.2.2.1 x.2.2.2.1 x.2.2.2.2.1 z.2.2 kf (nI P) (nI C) (nI k) lent (digL b.1) (mostOf (b3L b)) J K) (Ps := []) rfl trivial ?_
    refine ww_icmp_ne 3 rfl (tgt := 58) rfl (fun c1 => ?_) (fun c1 => ?_)
    · have c1 : ¬ l.length = P := fun q => c1 ((nI_eq (a := l.length) (b := P) (by omega) (by omega)).mpr q)
      refine ww_run 28 2 (pc' := 61) (lv' := [(4, .int 0), (0, .ref 0), (1, .int (nI l.length)), (2, .int (tkL l)), (3, .int (digL l))]) (st' := []) (w' := wMo (wiF fr lo fa) ki mo (hoF sty wset wfor) cd sr z.2.1 z.1 x.2.2.2.2.2.1 x.2.2.2.2.2.2 x.1 x.2.1 x.2.2.1 x.2.2.2.1 x.2.2.2.2.1 z.2.2 kf (nI P) (nI C) (nI k) lent (digL b.1) (mostOf (b3L b)) J K) (Ps := []) rfl trivial ?_
      refine ww_lv [1, 2, 3, 4, 0] (lv' := [(0, .ref 0), (1, .int (nI l.length)), (2, .int (tkL l)), (3, .int (digL l)), (4, .int 0)]) rfl ?_
      refine l_X7_orders_61 (by omega) ki mo cd sr kf lent J K fr0 lo fa sty wset wfor sy T P C k hP hC hk hL hmo hwf hkf n0 (by omega) l b hl hlm hb hGa hrec (fun fr1 x1 z1 hpf1 => ?_) (P + 1) 0 fr x z (by omega) (by omega) hpf
      refine ww_vret 67 rfl rfl ?_
      exact ⟨rfl, fr1, x1, z1, hpf1, rfl⟩
    · have c1 : l.length = P := (nI_eq (a := l.length) (b := P) (by omega) (by omega)).mp c1
      exfalso
      omega
