abbrev wHo (fr lo fa ki mo : Nat → Int32) (pe ch sty wset wfor law lent : Int32) : List va_E :=
  [.inr (1, [.ref 1, .ref 2, .ref 3, .int pe, .ref 4, .ref 5, .int ch, .int sty, .int wset, .int wfor, .int law, .int lent]),
   iA 5 fr,
   iA 5 lo,
   iA 5 fa,
   iA 6 ki,
   iA 6 mo]
abbrev wHo2 (fr lo fa ki mo : Nat → Int32) (pe ch sty wset wfor law lent : Int32) (fr' lo' fa' ki' mo' : Nat → Int32) (pe' ch' sty' wset' wfor' law' lent' : Int32) : List va_E :=
  [.inr (1, [.ref 1, .ref 2, .ref 3, .int pe, .ref 4, .ref 5, .int ch, .int sty, .int wset, .int wfor, .int law, .int lent]),
   iA 5 fr,
   iA 5 lo,
   iA 5 fa,
   iA 6 ki,
   iA 6 mo,
   .inr (1, [.ref 7, .ref 8, .ref 9, .int pe', .ref 10, .ref 11, .int ch', .int sty', .int wset', .int wfor', .int law', .int lent']),
   iA 5 fr',
   iA 5 lo',
   iA 5 fa',
   iA 6 ki',
   iA 6 mo']
abbrev wSh (cells : Nat → Int32) (sort size : Int32) : List va_E :=
  [.inr (3, [.int sort, .int size, .ref 1]),
   iA 40 cells]
theorem cpy_all {f g : Nat → Int32} {n j : Nat} (h : j < n) : va_cpy f g 0 0 n j = f j := by
  simp [va_cpy, h]
set_option maxHeartbeats 4000000 in
set_option maxRecDepth 100000 in
theorem c_X1_become (fr lo fa ki mo : Nat → Int32) (pe ch sty wset wfor law lent : Int32) (fr' lo' fa' ki' mo' : Nat → Int32) (pe' ch' sty' wset' wfor' law' lent' : Int32)  : Co M_X1_become 1 0 0 [.ref 0, .ref 6] (wHo2 fr lo fa ki mo pe ch sty wset wfor law lent fr' lo' fa' ki' mo' pe' ch' sty' wset' wfor' law' lent') (Qv (wHo2 fr' lo' fa' ki' mo' pe' ch' sty' wset' wfor' law' lent' fr' lo' fa' ki' mo' pe' ch' sty' wset' wfor' law' lent')) := by
  refine Co.of ok_X1_become rfl ?_
  refine ww_run 0 7 (pc' := 11) (lv' := [(0, .ref 0), (1, .ref 6)]) (st' := [.int 5, .int 0, .ref 1, .int 0, .ref 7]) (w' := wHo2 fr lo fa ki mo pe ch sty wset wfor law lent fr' lo' fa' ki' mo' pe' ch' sty' wset' wfor' law' lent') (Ps := []) rfl trivial ?_
  refine ww_copy 7 (idx := 49) (by decide +kernel) (by omega) (Nat.le_of_ble_eq_true rfl) (n0 := 5) (n1 := 5) (f := fr') (g := fr) rfl rfl (by decide) (by decide) (by decide) (by decide) (by decide) rfl ?_
  refine ww_arr 1 fr' rfl (fun j hj => cpy_all hj) (w1 := wHo2 fr' lo fa ki mo pe ch sty wset wfor law lent fr' lo' fa' ki' mo' pe' ch' sty' wset' wfor' law' lent') rfl ?_
  refine ww_run 8 7 (pc' := 25) (lv' := [(0, .ref 0), (1, .ref 6)]) (st' := [.int 5, .int 0, .ref 2, .int 0, .ref 8]) (w' := wHo2 fr' lo fa ki mo pe ch sty wset wfor law lent fr' lo' fa' ki' mo' pe' ch' sty' wset' wfor' law' lent') (Ps := []) rfl trivial ?_
  refine ww_copy 15 (idx := 49) (by decide +kernel) (by omega) (Nat.le_of_ble_eq_true rfl) (n0 := 5) (n1 := 5) (f := lo') (g := lo) rfl rfl (by decide) (by decide) (by decide) (by decide) (by decide) rfl ?_
  refine ww_arr 2 lo' rfl (fun j hj => cpy_all hj) (w1 := wHo2 fr' lo' fa ki mo pe ch sty wset wfor law lent fr' lo' fa' ki' mo' pe' ch' sty' wset' wfor' law' lent') rfl ?_
  refine ww_run 16 7 (pc' := 39) (lv' := [(0, .ref 0), (1, .ref 6)]) (st' := [.int 5, .int 0, .ref 3, .int 0, .ref 9]) (w' := wHo2 fr' lo' fa ki mo pe ch sty wset wfor law lent fr' lo' fa' ki' mo' pe' ch' sty' wset' wfor' law' lent') (Ps := []) rfl trivial ?_
  refine ww_copy 23 (idx := 49) (by decide +kernel) (by omega) (Nat.le_of_ble_eq_true rfl) (n0 := 5) (n1 := 5) (f := fa') (g := fa) rfl rfl (by decide) (by decide) (by decide) (by decide) (by decide) rfl ?_
  refine ww_arr 3 fa' rfl (fun j hj => cpy_all hj) (w1 := wHo2 fr' lo' fa' ki mo pe ch sty wset wfor law lent fr' lo' fa' ki' mo' pe' ch' sty' wset' wfor' law' lent') rfl ?_
  refine ww_run 24 11 (pc' := 62) (lv' := [(0, .ref 0), (1, .ref 6)]) (st' := [.int 6, .int 0, .ref 4, .int 0, .ref 10]) (w' := wHo2 fr' lo' fa' ki mo pe' ch sty wset wfor law lent fr' lo' fa' ki' mo' pe' ch' sty' wset' wfor' law' lent') (Ps := []) rfl trivial ?_
  refine ww_copy 35 (idx := 49) (by decide +kernel) (by omega) (Nat.le_of_ble_eq_true rfl) (n0 := 6) (n1 := 6) (f := ki') (g := ki) rfl rfl (by decide) (by decide) (by decide) (by decide) (by decide) rfl ?_
  refine ww_arr 4 ki' rfl (fun j hj => cpy_all hj) (w1 := wHo2 fr' lo' fa' ki' mo pe' ch sty wset wfor law lent fr' lo' fa' ki' mo' pe' ch' sty' wset' wfor' law' lent') rfl ?_
  refine ww_run 36 7 (pc' := 77) (lv' := [(0, .ref 0), (1, .ref 6)]) (st' := [.int 6, .int 0, .ref 5, .int 0, .ref 11]) (w' := wHo2 fr' lo' fa' ki' mo pe' ch sty wset wfor law lent fr' lo' fa' ki' mo' pe' ch' sty' wset' wfor' law' lent') (Ps := []) rfl trivial ?_
  refine ww_copy 43 (idx := 49) (by decide +kernel) (by omega) (Nat.le_of_ble_eq_true rfl) (n0 := 6) (n1 := 6) (f := mo') (g := mo) rfl rfl (by decide) (by decide) (by decide) (by decide) (by decide) rfl ?_
  refine ww_arr 5 mo' rfl (fun j hj => cpy_all hj) (w1 := wHo2 fr' lo' fa' ki' mo' pe' ch sty wset wfor law lent fr' lo' fa' ki' mo' pe' ch' sty' wset' wfor' law' lent') rfl ?_
  refine ww_run 44 24 (pc' := 128) (lv' := [(0, .ref 0), (1, .ref 6)]) (st' := []) (w' := wHo2 fr' lo' fa' ki' mo' pe' ch' sty' wset' wfor' law' lent' fr' lo' fa' ki' mo' pe' ch' sty' wset' wfor' law' lent') (Ps := []) rfl trivial ?_
  refine ww_vret 68 rfl rfl ?_
  exact ⟨rfl, rfl⟩
set_option maxHeartbeats 4000000 in
set_option maxRecDepth 100000 in
theorem c_X1_setting (fr lo fa ki mo : Nat → Int32) (pe ch sty wset wfor law lent : Int32) (what : Int32) : Co M_X1_setting 0 0 0 [.ref 0, .int what] (wHo fr lo fa ki mo pe ch sty wset wfor law lent) (Qi (if what = 0 then sty else if what = 1 then wset else wfor) (wHo fr lo fa ki mo pe ch sty wset wfor law lent)) := by
  refine Co.of ok_X1_setting rfl ?_
  refine ww_run 0 1 (pc' := 1) (lv' := [(0, .ref 0), (1, .int what)]) (st' := [.int what]) (w' := wHo fr lo fa ki mo pe ch sty wset wfor law lent) (Ps := []) rfl trivial ?_
  refine ww_if_ne 1 rfl (tgt := 11) rfl (fun c1 => ?_) (fun c1 => ?_)
  · refine ww_run 5 2 (pc' := 13) (lv' := [(0, .ref 0), (1, .int what)]) (st' := [.int 1, .int what]) (w' := wHo fr lo fa ki mo pe ch sty wset wfor law lent) (Ps := []) rfl trivial ?_
    refine ww_icmp_ne 7 rfl (tgt := 23) rfl (fun c2 => ?_) (fun c2 => ?_)
    · refine ww_run 11 2 (pc' := 27) (lv' := [(0, .ref 0), (1, .int what)]) (st' := [.int wfor]) (w' := wHo fr lo fa ki mo pe ch sty wset wfor law lent) (Ps := []) rfl trivial ?_
      refine ww_iret 13 rfl rfl ?_
      exact ⟨by rw [if_neg c1, if_neg c2], rfl⟩
    · refine ww_run 8 3 (pc' := 27) (lv' := [(0, .ref 0), (1, .int what)]) (st' := [.int wset]) (w' := wHo fr lo fa ki mo pe ch sty wset wfor law lent) (Ps := []) rfl trivial ?_
      refine ww_iret 13 rfl rfl ?_
      exact ⟨by rw [if_neg c1, if_pos c2], rfl⟩
  · refine ww_run 2 3 (pc' := 27) (lv' := [(0, .ref 0), (1, .int what)]) (st' := [.int sty]) (w' := wHo fr lo fa ki mo pe ch sty wset wfor law lent) (Ps := []) rfl trivial ?_
    refine ww_iret 13 rfl rfl ?_
    exact ⟨by rw [if_pos c1], rfl⟩
set_option maxHeartbeats 4000000 in
set_option maxRecDepth 100000 in
theorem c_X1_set (fr lo fa ki mo : Nat → Int32) (pe ch sty wset wfor law lent : Int32) (what v : Int32) : Co M_X1_set 0 0 0 [.ref 0, .int what, .int v] (wHo fr lo fa ki mo pe ch sty wset wfor law lent) (fun r w' => r = none ∧ ((what = 0 ∧ w' = wHo fr lo fa ki mo pe ch v wset wfor law lent) ∨ (¬ what = 0 ∧ what = 1 ∧ w' = wHo fr lo fa ki mo pe ch sty v wfor law lent) ∨ (¬ what = 0 ∧ ¬ what = 1 ∧ w' = wHo fr lo fa ki mo pe ch sty wset v law lent))) := by
  refine Co.of ok_X1_set rfl ?_
  refine ww_run 0 1 (pc' := 1) (lv' := [(0, .ref 0), (1, .int what), (2, .int v)]) (st' := [.int what]) (w' := wHo fr lo fa ki mo pe ch sty wset wfor law lent) (Ps := []) rfl trivial ?_
  refine ww_if_ne 1 rfl (tgt := 12) rfl (fun c1 => ?_) (fun c1 => ?_)
  · refine ww_run 6 2 (pc' := 14) (lv' := [(0, .ref 0), (1, .int what), (2, .int v)]) (st' := [.int 1, .int what]) (w' := wHo fr lo fa ki mo pe ch sty wset wfor law lent) (Ps := []) rfl trivial ?_
    refine ww_icmp_ne 8 rfl (tgt := 25) rfl (fun c2 => ?_) (fun c2 => ?_)
    · refine ww_run 13 3 (pc' := 30) (lv' := [(0, .ref 0), (1, .int what), (2, .int v)]) (st' := []) (w' := wHo fr lo fa ki mo pe ch sty wset v law lent) (Ps := []) rfl trivial ?_
      refine ww_vret 16 rfl rfl ?_
      exact ⟨rfl, Or.inr (Or.inr ⟨c1, c2, rfl⟩)⟩
    · refine ww_run 9 4 (pc' := 30) (lv' := [(0, .ref 0), (1, .int what), (2, .int v)]) (st' := []) (w' := wHo fr lo fa ki mo pe ch sty v wfor law lent) (Ps := []) rfl trivial ?_
      refine ww_vret 16 rfl rfl ?_
      exact ⟨rfl, Or.inr (Or.inl ⟨c1, c2, rfl⟩)⟩
  · refine ww_run 2 4 (pc' := 30) (lv' := [(0, .ref 0), (1, .int what), (2, .int v)]) (st' := []) (w' := wHo fr lo fa ki mo pe ch v wset wfor law lent) (Ps := []) rfl trivial ?_
    refine ww_vret 16 rfl rfl ?_
    exact ⟨rfl, Or.inl ⟨c1, rfl⟩⟩
set_option maxHeartbeats 4000000 in
set_option maxRecDepth 100000 in
theorem c_X1_wishes (fr lo fa ki mo : Nat → Int32) (pe ch sty wset wfor law lent : Int32) (what : Int32) : Co M_X1_wishes 0 0 0 [.ref 0, .int what] (wHo fr lo fa ki mo pe ch sty wset wfor law lent) (fun r w' => r = some (.ref (if what = 0 then 1 else if what = 1 then 2 else 3)) ∧ w' = wHo fr lo fa ki mo pe ch sty wset wfor law lent) := by
  refine Co.of ok_X1_wishes rfl ?_
  refine ww_run 0 1 (pc' := 1) (lv' := [(0, .ref 0), (1, .int what)]) (st' := [.int what]) (w' := wHo fr lo fa ki mo pe ch sty wset wfor law lent) (Ps := []) rfl trivial ?_
  refine ww_if_ne 1 rfl (tgt := 11) rfl (fun c1 => ?_) (fun c1 => ?_)
  · refine ww_run 5 2 (pc' := 13) (lv' := [(0, .ref 0), (1, .int what)]) (st' := [.int 1, .int what]) (w' := wHo fr lo fa ki mo pe ch sty wset wfor law lent) (Ps := []) rfl trivial ?_
    refine ww_icmp_ne 7 rfl (tgt := 23) rfl (fun c2 => ?_) (fun c2 => ?_)
    · refine ww_run 11 2 (pc' := 27) (lv' := [(0, .ref 0), (1, .int what)]) (st' := [.ref 3]) (w' := wHo fr lo fa ki mo pe ch sty wset wfor law lent) (Ps := []) rfl trivial ?_
      refine ww_aret 13 rfl rfl (Or.inr ⟨_, rfl⟩) ?_
      exact ⟨by rw [if_neg c1, if_neg c2], rfl⟩
    · refine ww_run 8 3 (pc' := 27) (lv' := [(0, .ref 0), (1, .int what)]) (st' := [.ref 2]) (w' := wHo fr lo fa ki mo pe ch sty wset wfor law lent) (Ps := []) rfl trivial ?_
      refine ww_aret 13 rfl rfl (Or.inr ⟨_, rfl⟩) ?_
      exact ⟨by rw [if_neg c1, if_pos c2], rfl⟩
  · refine ww_run 2 3 (pc' := 27) (lv' := [(0, .ref 0), (1, .int what)]) (st' := [.ref 1]) (w' := wHo fr lo fa ki mo pe ch sty wset wfor law lent) (Ps := []) rfl trivial ?_
    refine ww_aret 13 rfl rfl (Or.inr ⟨_, rfl⟩) ?_
    exact ⟨by rw [if_pos c1], rfl⟩
theorem sh_in {size i : Int32} (hz : size ≤ 40) (h : 0 ≤ i ∧ (0 : Int32) ≤ 1 ∧ i ≤ size ∧ 1 ≤ size - i) : vp_in i 40 := by
  rw [vp_in_iff]
  obtain ⟨h0, -, h1, h2⟩ := h
  have a0 := Int32.le_iff_toInt_le.mp h0
  have a1 := Int32.le_iff_toInt_le.mp h1
  have a2 := Int32.le_iff_toInt_le.mp h2
  have a3 := Int32.le_iff_toInt_le.mp hz
  rw [Int32.toInt_sub, Int.bmod_def] at a2
  have e0 : (0 : Int32).toInt = 0 := rfl
  have e1 : (1 : Int32).toInt = 1 := rfl
  have e40 : (40 : Int32).toInt = 40 := rfl
  omega
abbrev shHas (size i n : Int32) : Prop := 0 ≤ i ∧ 0 ≤ n ∧ i ≤ size ∧ n ≤ size - i
def shCut (sort v : Int32) : Int32 := if sort = 0 then v.toInt8.toInt32 else if sort = 1 then v.toInt16.toInt32 else v
set_option maxHeartbeats 4000000 in
set_option maxRecDepth 100000 in
theorem c_X4_isMissing (cells : Nat → Int32) (sort size : Int32)  : Co M_X4_isMissing 0 0 0 [.ref 0] (wSh cells sort size) (Qi (b2i (sort = -1)) (wSh cells sort size)) := by
  refine Co.of ok_X4_isMissing rfl ?_
  refine ww_run 0 3 (pc' := 5) (lv' := [(0, .ref 0)]) (st' := [.int (-1), .int sort]) (w' := wSh cells sort size) (Ps := []) rfl trivial ?_
  refine ww_icmp_ne 3 rfl (tgt := 12) rfl (fun c1 => ?_) (fun c1 => ?_)
  · refine ww_run 6 1 (pc' := 13) (lv' := [(0, .ref 0)]) (st' := [.int 0]) (w' := wSh cells sort size) (Ps := []) rfl trivial ?_
    refine ww_zret 7 rfl rfl rfl ?_
    exact ⟨by rw [b2i_f (by grind)], rfl⟩
  · refine ww_run 4 2 (pc' := 13) (lv' := [(0, .ref 0)]) (st' := [.int 1]) (w' := wSh cells sort size) (Ps := []) rfl trivial ?_
    refine ww_zret 7 rfl rfl rfl ?_
    exact ⟨by rw [b2i_t (by grind)], rfl⟩
set_option maxHeartbeats 4000000 in
set_option maxRecDepth 100000 in
theorem c_X4_has (cells : Nat → Int32) (sort size : Int32) (i n : Int32) : Co M_X4_has 0 0 0 [.ref 0, .int i, .int n] (wSh cells sort size) (Qi (b2i (shHas size i n)) (wSh cells sort size)) := by
  refine Co.of ok_X4_has rfl ?_
  refine ww_run 0 1 (pc' := 1) (lv' := [(0, .ref 0), (1, .int i), (2, .int n)]) (st' := [.int i]) (w' := wSh cells sort size) (Ps := []) rfl trivial ?_
  refine ww_if_lt 1 rfl (tgt := 30) rfl (fun c1 => ?_) (fun c1 => ?_)
  · refine ww_run 16 1 (pc' := 31) (lv' := [(0, .ref 0), (1, .int i), (2, .int n)]) (st' := [.int 0]) (w' := wSh cells sort size) (Ps := []) rfl trivial ?_
    refine ww_zret 17 rfl rfl rfl ?_
    exact ⟨by rw [b2i_f (by grind)], rfl⟩
  · refine ww_run 2 1 (pc' := 5) (lv' := [(0, .ref 0), (1, .int i), (2, .int n)]) (st' := [.int n]) (w' := wSh cells sort size) (Ps := []) rfl trivial ?_
    refine ww_if_lt 3 rfl (tgt := 30) rfl (fun c2 => ?_) (fun c2 => ?_)
    · refine ww_run 16 1 (pc' := 31) (lv' := [(0, .ref 0), (1, .int i), (2, .int n)]) (st' := [.int 0]) (w' := wSh cells sort size) (Ps := []) rfl trivial ?_
      refine ww_zret 17 rfl rfl rfl ?_
      exact ⟨by rw [b2i_f (by grind)], rfl⟩
    · refine ww_run 4 3 (pc' := 13) (lv' := [(0, .ref 0), (1, .int i), (2, .int n)]) (st' := [.int size, .int i]) (w' := wSh cells sort size) (Ps := []) rfl trivial ?_
      refine ww_icmp_gt 7 rfl (tgt := 30) rfl (fun c3 => ?_) (fun c3 => ?_)
      · refine ww_run 16 1 (pc' := 31) (lv' := [(0, .ref 0), (1, .int i), (2, .int n)]) (st' := [.int 0]) (w' := wSh cells sort size) (Ps := []) rfl trivial ?_
        refine ww_zret 17 rfl rfl rfl ?_
        exact ⟨by rw [b2i_f (by grind)], rfl⟩
      · refine ww_run 8 5 (pc' := 23) (lv' := [(0, .ref 0), (1, .int i), (2, .int n)]) (st' := [.int (size - i), .int n]) (w' := wSh cells sort size) (Ps := []) rfl trivial ?_
        refine ww_icmp_gt 13 rfl (tgt := 30) rfl (fun c4 => ?_) (fun c4 => ?_)
        · refine ww_run 16 1 (pc' := 31) (lv' := [(0, .ref 0), (1, .int i), (2, .int n)]) (st' := [.int 0]) (w' := wSh cells sort size) (Ps := []) rfl trivial ?_
          refine ww_zret 17 rfl rfl rfl ?_
          exact ⟨by rw [b2i_f (by grind)], rfl⟩
        · refine ww_run 14 2 (pc' := 31) (lv' := [(0, .ref 0), (1, .int i), (2, .int n)]) (st' := [.int 1]) (w' := wSh cells sort size) (Ps := []) rfl trivial ?_
          refine ww_zret 17 rfl rfl rfl ?_
          exact ⟨by rw [b2i_t (by grind)], rfl⟩
set_option maxHeartbeats 4000000 in
set_option maxRecDepth 100000 in
theorem c_X4_become (cells : Nat → Int32) (sort size : Int32) (a b : Int32) : Co M_X4_become 1 0 0 [.ref 0, .int a, .int b] (wSh cells sort size) (Qv (wSh (fun _ => 0) a b)) := by
  refine Co.of ok_X4_become rfl ?_
  refine ww_run 0 9 (pc' := 15) (lv' := [(0, .ref 0), (1, .int a), (2, .int b)]) (st' := [.int 0, .ref 1]) (w' := wSh cells a b) (Ps := []) rfl trivial ?_
  refine ww_cSv 9 (av := [.ref 1, .int 0]) (w1 := wSh (fun _ => 0) a b) ok_J7_fill_53178 (Co.frv [1] (c_J7_fill_53178 40 cells 0 (by omega)) rfl rfl rfl) lk_X4_20 rfl (by omega) (rest := []) rfl (Nat.le_of_ble_eq_true rfl) rfl ?_
  refine ww_vret 10 rfl rfl ?_
  exact ⟨rfl, rfl⟩
set_option maxHeartbeats 4000000 in
set_option maxRecDepth 100000 in
theorem c_X4_put (cells : Nat → Int32) (sort size : Int32) (i v : Int32) (hz : size ≤ 40) : Co M_X4_put 1 0 0 [.ref 0, .int i, .int v] (wSh cells sort size) (fun r w' => r = none ∧ ((¬ shHas size i 1 ∧ w' = wSh cells sort size) ∨ (shHas size i 1 ∧ w' = wSh (upd cells i.toNatClampNeg (shCut sort v)) sort size))) := by
  refine Co.of ok_X4_put rfl ?_
  refine ww_run 0 3 (pc' := 3) (lv' := [(0, .ref 0), (1, .int i), (2, .int v)]) (st' := [.int 1, .int i, .ref 0]) (w' := wSh cells sort size) (Ps := []) rfl trivial ?_
  refine ww_cVi 3 ok_X4_has (c_X4_has cells sort size i 1) lk_X4_26 rfl (by omega) (rest := []) rfl (Nat.le_of_ble_eq_true rfl) rfl rfl rfl rfl ?_
  refine ww_if_ne 4 rfl (tgt := 10) rfl (fun c1 => ?_) (fun c1 => ?_)
  · rw [b2i_ne0] at c1
    refine ww_run 6 5 (pc' := 19) (lv' := [(0, .ref 0), (1, .int i), (2, .int v)]) (st' := [.int sort, .int i, .ref 1]) (w' := wSh cells sort size) (Ps := []) rfl trivial ?_
    refine ww_if_ne 11 rfl (tgt := 27) rfl (fun c2 => ?_) (fun c2 => ?_)
    · refine ww_run 15 3 (pc' := 32) (lv' := [(0, .ref 0), (1, .int i), (2, .int v)]) (st' := [.int 1, .int sort, .int i, .ref 1]) (w' := wSh cells sort size) (Ps := []) rfl trivial ?_
      refine ww_icmp_ne 18 rfl (tgt := 40) rfl (fun c3 => ?_) (fun c3 => ?_)
      · refine ww_run 22 2 (pc' := 42) (lv' := [(0, .ref 0), (1, .int i), (2, .int v)]) (st' := []) (w' := wSh (upd cells i.toNatClampNeg v) sort size) (Ps := [vp_in i 40]) rfl ⟨(sh_in hz (by assumption)), trivial⟩ ?_
        refine ww_vret 24 rfl rfl ?_
        exact ⟨rfl, Or.inr ⟨c1, by unfold shCut; rw [if_neg c2, if_neg c3]⟩⟩
      · refine ww_run 19 3 (pc' := 41) (lv' := [(0, .ref 0), (1, .int i), (2, .int v)]) (st' := [.int v.toInt16.toInt32, .int i, .ref 1]) (w' := wSh cells sort size) (Ps := []) rfl trivial ?_
        refine ww_run 23 1 (pc' := 42) (lv' := [(0, .ref 0), (1, .int i), (2, .int v)]) (st' := []) (w' := wSh (upd cells i.toNatClampNeg v.toInt16.toInt32) sort size) (Ps := [vp_in i 40]) rfl ⟨(sh_in hz (by assumption)), trivial⟩ ?_
        refine ww_vret 24 rfl rfl ?_
        exact ⟨rfl, Or.inr ⟨c1, by unfold shCut; rw [if_neg c2, if_pos c3]⟩⟩
    · refine ww_run 12 3 (pc' := 41) (lv' := [(0, .ref 0), (1, .int i), (2, .int v)]) (st' := [.int v.toInt8.toInt32, .int i, .ref 1]) (w' := wSh cells sort size) (Ps := []) rfl trivial ?_
      refine ww_run 23 1 (pc' := 42) (lv' := [(0, .ref 0), (1, .int i), (2, .int v)]) (st' := []) (w' := wSh (upd cells i.toNatClampNeg v.toInt8.toInt32) sort size) (Ps := [vp_in i 40]) rfl ⟨(sh_in hz (by assumption)), trivial⟩ ?_
      refine ww_vret 24 rfl rfl ?_
      exact ⟨rfl, Or.inr ⟨c1, by unfold shCut; rw [if_pos c2]⟩⟩
  · rw [b2i_eq0] at c1
    refine ww_vret 5 rfl rfl ?_
    exact ⟨rfl, Or.inl ⟨c1, rfl⟩⟩
