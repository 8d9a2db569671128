abbrev wEv (fr lo fa ki mo : Nat → Int32) (pe ch sty wset wfor law lent : Int32) (on was sat stood rose firsts waits till sitter names : Nat → Int32) (satOn risen : Int32) (nc : Nat) (codes ends stk : Nat → Int32) : List va_E :=
  [.inr (0, [.ref 1, .ref 7, .ref 8, .ref 9, .ref 10, .ref 11, .ref 12, .ref 13, .ref 14, .ref 15, .ref 16, .int satOn, .int risen]),
   .inr (1, [.ref 2, .ref 3, .ref 4, .int pe, .ref 5, .ref 6, .int ch, .int sty, .int wset, .int wfor, .int law, .int lent]),
   iA 5 fr,
   iA 5 lo,
   iA 5 fa,
   iA 6 ki,
   iA 6 mo,
   iA 5 on,
   iA 5 was,
   iA 5 sat,
   iA 5 stood,
   iA 5 rose,
   iA 5 firsts,
   zA 5 waits,
   iA 6 till,
   iA 6 sitter,
   iA 6 names,
   .inr (2, [.ref 18, .ref 19, .ref 20]),
   iA nc codes,
   iA 3 ends,
   iA 40 stk]
abbrev wZero : List va_E := []
abbrev wLaw (nc : Nat) (codes ends stk names : Nat → Int32) : List va_E :=
  [.inr (2, [.ref 1, .ref 2, .ref 3]),
   iA nc codes,
   iA 3 ends,
   iA 40 stk,
   iA 6 names]
def kKeeps (k more warm sat : Int32) : Int32 := if k = 1 ∨ k = 3 then warm + more else if k = 2 then warm / 2 else if k = 4 then (if sat < more then 0 else warm / 2 * 2) else warm
abbrev eLets (k more m : Int32) : Prop := ¬ k = 3 ∨ m < more
abbrev eBeside (satOn : Int32) (c : Nat) : Prop := ¬ ((((satOn <<< ((1 : Int32) &&& 31)) ||| (satOn >>> ((1 : Int32) &&& 31))) >>> ((nI c) &&& 31)) &&& 1) = 0
abbrev eWarm (ki till : Nat → Int32) (satOn : Int32) (c : Nat) (m : Int32) : Prop := m < till c ∨ ki c = 3 ∨ (ki c = 5 ∧ eBeside satOn c)
abbrev eFree (ki mo till sitter : Nat → Int32) (lent satOn : Int32) (c : Nat) (m : Int32) : Prop := ¬ nI c = lent ∧ sitter c < 0 ∧ eWarm ki till satOn c m ∧ eLets (ki c) (mo c) m
abbrev eAhead (sty : Int32) (till : Nat → Int32) (c b : Nat) : Prop := (sty = 1 ∧ till b < till c) ∨ (sty = 2 ∧ till c < till b)
abbrev eWants (fr on rose : Nat → Int32) (p : Nat) (m : Int32) : Prop := fr p ≤ m ∧ on p < 0 ∧ rose p < 0
/-- the best of the first n: the first that may, or a later one that is ahead of it -/
def bestOf (may : Nat → Bool) (ahead : Nat → Nat → Bool) : Nat → Option Nat
  | 0 => none
  | n + 1 => match bestOf may ahead n with
    | none => if may n then some n else none
    | some b => if may n && ahead n b then some n else some b
theorem bestOf_lt {may : Nat → Bool} {ahead : Nat → Nat → Bool} : ∀ {n b : Nat}, bestOf may ahead n = some b → b < n
  | 0, b, h => by cases h
  | n + 1, b, h => by
    unfold bestOf at h
    split at h
    · split at h
      · cases h; omega
      · cases h
    · next b' hb =>
      have := bestOf_lt hb
      split at h <;> cases h <;> omega
def o2i (o : Option Nat) : Int32 := match o with
  | none => -1
  | some c => nI c
set_option maxHeartbeats 4000000 in
set_option maxRecDepth 100000 in
theorem c_X2_keepsWarm  (k more warm sat : Int32) : Co M_X2_keepsWarm 0 0 0 [.int k, .int more, .int warm, .int sat] (wZero ) (Qi (kKeeps k more warm sat) wZero ) := by
  refine Co.of ok_X2_keepsWarm rfl ?_
  refine ww_run 0 1 (pc' := 1) (lv' := [(0, .int k), (1, .int more), (2, .int warm), (3, .int sat)]) (st' := [.int k]) (w' := wZero ) (Ps := []) rfl trivial ?_
  by_cases q1 : k = 1
  · refine ww_tabI 1 rfl (by rw [q1]; decide) (by rw [q1]; decide) (off := 31) (by rw [q1]; rfl) (tgt := 32) rfl ?_
    refine ww_run 2 3 (pc' := 35) (lv' := [(0, .int k), (1, .int more), (2, .int warm), (3, .int sat)]) (st' := [.int (warm + more)]) (w' := wZero ) (Ps := []) rfl trivial ?_
    refine ww_iret 5 rfl rfl ?_
    exact ⟨by unfold kKeeps; grind, rfl⟩
  by_cases q2 : k = 2
  · refine ww_tabI 1 rfl (by rw [q2]; decide) (by rw [q2]; decide) (off := 35) (by rw [q2]; rfl) (tgt := 36) rfl ?_
    refine ww_run 6 3 (pc' := 39) (lv' := [(0, .int k), (1, .int more), (2, .int warm), (3, .int sat)]) (st' := [.int (warm / 2)]) (w' := wZero ) (Ps := [¬ 2 = 0]) rfl ⟨(by decide), trivial⟩ ?_
    refine ww_iret 9 rfl rfl ?_
    exact ⟨by unfold kKeeps; grind, rfl⟩
  by_cases q3 : k = 3
  · refine ww_tabI 1 rfl (by rw [q3]; decide) (by rw [q3]; decide) (off := 31) (by rw [q3]; rfl) (tgt := 32) rfl ?_
    refine ww_run 2 3 (pc' := 35) (lv' := [(0, .int k), (1, .int more), (2, .int warm), (3, .int sat)]) (st' := [.int (warm + more)]) (w' := wZero ) (Ps := []) rfl trivial ?_
    refine ww_iret 5 rfl rfl ?_
    exact ⟨by unfold kKeeps; grind, rfl⟩
  by_cases q4 : k = 4
  · refine ww_tabI 1 rfl (by rw [q4]; decide) (by rw [q4]; decide) (off := 39) (by rw [q4]; rfl) (tgt := 40) rfl ?_
    refine ww_run 10 2 (pc' := 42) (lv' := [(0, .int k), (1, .int more), (2, .int warm), (3, .int sat)]) (st' := [.int more, .int sat]) (w' := wZero ) (Ps := []) rfl trivial ?_
    refine ww_icmp_ge 12 rfl (tgt := 49) rfl (fun c1 => ?_) (fun c1 => ?_)
    · refine ww_run 15 5 (pc' := 54) (lv' := [(0, .int k), (1, .int more), (2, .int warm), (3, .int sat)]) (st' := [.int ((warm / 2) * 2)]) (w' := wZero ) (Ps := [¬ 2 = 0]) rfl ⟨(by decide), trivial⟩ ?_
      refine ww_iret 20 rfl rfl ?_
      exact ⟨by unfold kKeeps; grind, rfl⟩
    · refine ww_run 13 2 (pc' := 54) (lv' := [(0, .int k), (1, .int more), (2, .int warm), (3, .int sat)]) (st' := [.int 0]) (w' := wZero ) (Ps := []) rfl trivial ?_
      refine ww_iret 20 rfl rfl ?_
      exact ⟨by unfold kKeeps; grind, rfl⟩
  refine ww_tabO 1 rfl (by have h1 := lv_neT q1 (a := 1) rfl; have h2 := lv_neT q2 (a := 2) rfl; have h3 := lv_neT q3 (a := 3) rfl; have h4 := lv_neT q4 (a := 4) rfl; omega) (tgt := 55) rfl ?_
  refine ww_run 21 1 (pc' := 56) (lv' := [(0, .int k), (1, .int more), (2, .int warm), (3, .int sat)]) (st' := [.int warm]) (w' := wZero ) (Ps := []) rfl trivial ?_
  refine ww_iret 22 rfl rfl ?_
  exact ⟨by unfold kKeeps; grind, rfl⟩
set_option maxHeartbeats 4000000 in
set_option maxRecDepth 100000 in
theorem c_X2_lets  (k more m : Int32) : Co M_X2_lets 0 0 0 [.int k, .int more, .int m] (wZero ) (Qi (b2i (eLets k more m)) wZero ) := by
  refine Co.of ok_X2_lets rfl ?_
  refine ww_run 0 2 (pc' := 2) (lv' := [(0, .int k), (1, .int more), (2, .int m)]) (st' := [.int 3, .int k]) (w' := wZero ) (Ps := []) rfl trivial ?_
  refine ww_icmp_ne 2 rfl (tgt := 10) rfl (fun c1 => ?_) (fun c1 => ?_)
  · refine ww_run 6 2 (pc' := 15) (lv' := [(0, .int k), (1, .int more), (2, .int m)]) (st' := [.int 1]) (w' := wZero ) (Ps := []) rfl trivial ?_
    refine ww_zret 9 rfl rfl rfl ?_
    exact ⟨by rw [b2i_t (by grind)], rfl⟩
  · refine ww_run 3 2 (pc' := 7) (lv' := [(0, .int k), (1, .int more), (2, .int m)]) (st' := [.int more, .int m]) (w' := wZero ) (Ps := []) rfl trivial ?_
    refine ww_icmp_ge 5 rfl (tgt := 14) rfl (fun c2 => ?_) (fun c2 => ?_)
    · refine ww_run 8 1 (pc' := 15) (lv' := [(0, .int k), (1, .int more), (2, .int m)]) (st' := [.int 0]) (w' := wZero ) (Ps := []) rfl trivial ?_
      refine ww_zret 9 rfl rfl rfl ?_
      exact ⟨by rw [b2i_f (by grind)], rfl⟩
    · refine ww_run 6 2 (pc' := 15) (lv' := [(0, .int k), (1, .int more), (2, .int m)]) (st' := [.int 1]) (w' := wZero ) (Ps := []) rfl trivial ?_
      refine ww_zret 9 rfl rfl rfl ?_
      exact ⟨by rw [b2i_t (by grind)], rfl⟩
set_option maxHeartbeats 4000000 in
set_option maxRecDepth 100000 in
theorem c_X0_wants (fr lo fa ki mo : Nat → Int32) (pe ch sty wset wfor law lent : Int32) (on was sat stood rose firsts waits till sitter names : Nat → Int32) (satOn risen : Int32) (nc : Nat) (codes ends stk : Nat → Int32) (p : Nat) (m : Int32) (hp : p < 5) : Co M_X0_wants 0 0 0 [.ref 0, .int (nI p), .int m] (wEv fr lo fa ki mo pe ch sty wset wfor law lent on was sat stood rose firsts waits till sitter names satOn risen nc codes ends stk) (Qi (b2i (eWants fr on rose p m)) (wEv fr lo fa ki mo pe ch sty wset wfor law lent on was sat stood rose firsts waits till sitter names satOn risen nc codes ends stk)) := by
  refine Co.of ok_X0_wants rfl ?_
  refine ww_run 0 6 (pc' := 10) (lv' := [(0, .ref 0), (1, .int (nI p)), (2, .int m)]) (st' := [.int (fr (nI p).toNatClampNeg), .int m]) (w' := wEv fr lo fa ki mo pe ch sty wset wfor law lent on was sat stood rose firsts waits till sitter names satOn risen nc codes ends stk) (Ps := [vp_in (nI p) 5]) rfl ⟨(vp_in_nI (by omega) (by omega)), trivial⟩ ?_
  rw [nI_clamp (n := p) (by omega)]
  refine ww_icmp_lt 6 rfl (tgt := 35) rfl (fun c1 => ?_) (fun c1 => ?_)
  · refine ww_run 19 1 (pc' := 36) (lv' := [(0, .ref 0), (1, .int (nI p)), (2, .int m)]) (st' := [.int 0]) (w' := wEv fr lo fa ki mo pe ch sty wset wfor law lent on was sat stood rose firsts waits till sitter names satOn risen nc codes ends stk) (Ps := []) rfl trivial ?_
    refine ww_zret 20 rfl rfl rfl ?_
    exact ⟨by rw [b2i_f (by grind)], rfl⟩
  · refine ww_run 7 4 (pc' := 19) (lv' := [(0, .ref 0), (1, .int (nI p)), (2, .int m)]) (st' := [.int (on (nI p).toNatClampNeg)]) (w' := wEv fr lo fa ki mo pe ch sty wset wfor law lent on was sat stood rose firsts waits till sitter names satOn risen nc codes ends stk) (Ps := [vp_in (nI p) 5]) rfl ⟨(vp_in_nI (by omega) (by omega)), trivial⟩ ?_
    rw [nI_clamp (n := p) (by omega)]
    refine ww_if_ge 11 rfl (tgt := 35) rfl (fun c2 => ?_) (fun c2 => ?_)
    · refine ww_run 19 1 (pc' := 36) (lv' := [(0, .ref 0), (1, .int (nI p)), (2, .int m)]) (st' := [.int 0]) (w' := wEv fr lo fa ki mo pe ch sty wset wfor law lent on was sat stood rose firsts waits till sitter names satOn risen nc codes ends stk) (Ps := []) rfl trivial ?_
      refine ww_zret 20 rfl rfl rfl ?_
      exact ⟨by rw [b2i_f (by grind)], rfl⟩
    · refine ww_run 12 4 (pc' := 28) (lv' := [(0, .ref 0), (1, .int (nI p)), (2, .int m)]) (st' := [.int (rose (nI p).toNatClampNeg)]) (w' := wEv fr lo fa ki mo pe ch sty wset wfor law lent on was sat stood rose firsts waits till sitter names satOn risen nc codes ends stk) (Ps := [vp_in (nI p) 5]) rfl ⟨(vp_in_nI (by omega) (by omega)), trivial⟩ ?_
      rw [nI_clamp (n := p) (by omega)]
      refine ww_if_ge 16 rfl (tgt := 35) rfl (fun c3 => ?_) (fun c3 => ?_)
      · refine ww_run 19 1 (pc' := 36) (lv' := [(0, .ref 0), (1, .int (nI p)), (2, .int m)]) (st' := [.int 0]) (w' := wEv fr lo fa ki mo pe ch sty wset wfor law lent on was sat stood rose firsts waits till sitter names satOn risen nc codes ends stk) (Ps := []) rfl trivial ?_
        refine ww_zret 20 rfl rfl rfl ?_
        exact ⟨by rw [b2i_f (by grind)], rfl⟩
      · refine ww_run 17 2 (pc' := 36) (lv' := [(0, .ref 0), (1, .int (nI p)), (2, .int m)]) (st' := [.int 1]) (w' := wEv fr lo fa ki mo pe ch sty wset wfor law lent on was sat stood rose firsts waits till sitter names satOn risen nc codes ends stk) (Ps := []) rfl trivial ?_
        refine ww_zret 20 rfl rfl rfl ?_
        exact ⟨by rw [b2i_t (by grind)], rfl⟩
set_option maxHeartbeats 4000000 in
set_option maxRecDepth 100000 in
theorem c_X0_nameFor (fr lo fa ki mo : Nat → Int32) (pe ch sty wset wfor law lent : Int32) (on was sat stood rose firsts waits till sitter names : Nat → Int32) (satOn risen : Int32) (nc : Nat) (codes ends stk : Nat → Int32) (p : Nat) (more minute number : Int32) (hp : p < 5) : Co M_X0_nameFor 0 0 0 [.ref 0, .int (nI p), .int more, .int minute, .int number] (wEv fr lo fa ki mo pe ch sty wset wfor law lent on was sat stood rose firsts waits till sitter names satOn risen nc codes ends stk) (Qv (wEv fr lo fa ki mo pe ch sty wset wfor law lent on was sat stood rose firsts waits till sitter (upd (upd (upd (upd (upd (upd names 0 (fa p)) 1 more) 2 (sat p)) 3 (stood p)) 4 minute) 5 number) satOn risen nc codes ends stk)) := by
  refine Co.of ok_X0_nameFor rfl ?_
  refine ww_run 0 40 (pc' := 61) (lv' := [(0, .ref 0), (1, .int (nI p)), (2, .int more), (3, .int minute), (4, .int number)]) (st' := []) (w' := wEv fr lo fa ki mo pe ch sty wset wfor law lent on was sat stood rose firsts waits till sitter (upd (upd (upd (upd (upd (upd names 0 (fa (nI p).toNatClampNeg)) 1 more) 2 (sat (nI p).toNatClampNeg)) 3 (stood (nI p).toNatClampNeg)) 4 minute) 5 number) satOn risen nc codes ends stk) (Ps := [vp_in (nI p) 5, vp_in 0 6, vp_in 1 6, vp_in (nI p) 5, vp_in 2 6, vp_in (nI p) 5, vp_in 3 6, vp_in 4 6, vp_in 5 6]) rfl ⟨(vp_in_nI (by omega) (by omega)), (vp_in_nI (n := 0) (by decide) (by decide)), (vp_in_nI (n := 1) (by decide) (by decide)), (vp_in_nI (by omega) (by omega)), (vp_in_nI (n := 2) (by decide) (by decide)), (vp_in_nI (by omega) (by omega)), (vp_in_nI (n := 3) (by decide) (by decide)), (vp_in_nI (n := 4) (by decide) (by decide)), (vp_in_nI (n := 5) (by decide) (by decide)), trivial⟩ ?_
  rw [nI_clamp (n := p) (by omega)]
  refine ww_vret 40 rfl rfl ?_
  exact ⟨rfl, rfl⟩
set_option maxHeartbeats 4000000 in
set_option maxRecDepth 100000 in
theorem c_X0_isWarm (fr lo fa ki mo : Nat → Int32) (pe ch sty wset wfor law lent : Int32) (on was sat stood rose firsts waits till sitter names : Nat → Int32) (satOn risen : Int32) (nc : Nat) (codes ends stk : Nat → Int32) (c : Nat) (m : Int32) (hc : c < 6) : Co M_X0_isWarm 0 0 0 [.ref 0, .int (nI c), .int m] (wEv fr lo fa ki mo pe ch sty wset wfor law lent on was sat stood rose firsts waits till sitter names satOn risen nc codes ends stk) (Qi (b2i (eWarm ki till satOn c m)) (wEv fr lo fa ki mo pe ch sty wset wfor law lent on was sat stood rose firsts waits till sitter names satOn risen nc codes ends stk)) := by
  refine Co.of ok_X0_isWarm rfl ?_
  refine ww_run 0 13 (pc' := 17) (lv' := [(0, .ref 0), (1, .int (nI c)), (2, .int m)]) (st' := [.int ((((satOn <<< (1 &&& 31)) ||| (satOn >>> (1 &&& 31))) >>> ((nI c) &&& 31)) &&& 1)]) (w' := wEv fr lo fa ki mo pe ch sty wset wfor law lent on was sat stood rose firsts waits till sitter names satOn risen nc codes ends stk) (Ps := []) rfl trivial ?_
  refine ww_if_eq 13 rfl (tgt := 24) rfl (fun c1 => ?_) (fun c1 => ?_)
  · refine ww_run 16 7 (pc' := 33) (lv' := [(3, .int 0), (0, .ref 0), (1, .int (nI c)), (2, .int m)]) (st' := [.int (till (nI c).toNatClampNeg), .int m]) (w' := wEv fr lo fa ki mo pe ch sty wset wfor law lent on was sat stood rose firsts waits till sitter names satOn risen nc codes ends stk) (Ps := [vp_in (nI c) 6]) rfl ⟨(vp_in_nI (by omega) (by omega)), trivial⟩ ?_
    rw [nI_clamp (n := c) (by omega)]
    refine ww_icmp_lt 23 rfl (tgt := 66) rfl (fun c2 => ?_) (fun c2 => ?_)
    · refine ww_run 40 2 (pc' := 71) (lv' := [(3, .int 0), (0, .ref 0), (1, .int (nI c)), (2, .int m)]) (st' := [.int 1]) (w' := wEv fr lo fa ki mo pe ch sty wset wfor law lent on was sat stood rose firsts waits till sitter names satOn risen nc codes ends stk) (Ps := []) rfl trivial ?_
      refine ww_zret 43 rfl rfl rfl ?_
      exact ⟨by rw [b2i_t (by grind)], rfl⟩
    · refine ww_run 24 6 (pc' := 46) (lv' := [(3, .int 0), (0, .ref 0), (1, .int (nI c)), (2, .int m)]) (st' := [.int 3, .int (ki (nI c).toNatClampNeg)]) (w' := wEv fr lo fa ki mo pe ch sty wset wfor law lent on was sat stood rose firsts waits till sitter names satOn risen nc codes ends stk) (Ps := [vp_in (nI c) 6]) rfl ⟨(vp_in_nI (by omega) (by omega)), trivial⟩ ?_
      rw [nI_clamp (n := c) (by omega)]
      refine ww_icmp_eq 30 rfl (tgt := 66) rfl (fun c3 => ?_) (fun c3 => ?_)
      · refine ww_run 40 2 (pc' := 71) (lv' := [(3, .int 0), (0, .ref 0), (1, .int (nI c)), (2, .int m)]) (st' := [.int 1]) (w' := wEv fr lo fa ki mo pe ch sty wset wfor law lent on was sat stood rose firsts waits till sitter names satOn risen nc codes ends stk) (Ps := []) rfl trivial ?_
        refine ww_zret 43 rfl rfl rfl ?_
        exact ⟨by rw [b2i_t (by grind)], rfl⟩
      · refine ww_run 31 6 (pc' := 59) (lv' := [(3, .int 0), (0, .ref 0), (1, .int (nI c)), (2, .int m)]) (st' := [.int 5, .int (ki (nI c).toNatClampNeg)]) (w' := wEv fr lo fa ki mo pe ch sty wset wfor law lent on was sat stood rose firsts waits till sitter names satOn risen nc codes ends stk) (Ps := [vp_in (nI c) 6]) rfl ⟨(vp_in_nI (by omega) (by omega)), trivial⟩ ?_
        rw [nI_clamp (n := c) (by omega)]
        refine ww_icmp_ne 37 rfl (tgt := 70) rfl (fun c4 => ?_) (fun c4 => ?_)
        · refine ww_run 42 1 (pc' := 71) (lv' := [(3, .int 0), (0, .ref 0), (1, .int (nI c)), (2, .int m)]) (st' := [.int 0]) (w' := wEv fr lo fa ki mo pe ch sty wset wfor law lent on was sat stood rose firsts waits till sitter names satOn risen nc codes ends stk) (Ps := []) rfl trivial ?_
          refine ww_zret 43 rfl rfl rfl ?_
          exact ⟨by rw [b2i_f (by grind)], rfl⟩
        · refine ww_run 38 1 (pc' := 63) (lv' := [(3, .int 0), (0, .ref 0), (1, .int (nI c)), (2, .int m)]) (st' := [.int 0]) (w' := wEv fr lo fa ki mo pe ch sty wset wfor law lent on was sat stood rose firsts waits till sitter names satOn risen nc codes ends stk) (Ps := []) rfl trivial ?_
          refine ww_if_eq 39 rfl (tgt := 70) rfl (fun c5 => ?_) (fun c5 => ?_)
          · refine ww_run 42 1 (pc' := 71) (lv' := [(3, .int 0), (0, .ref 0), (1, .int (nI c)), (2, .int m)]) (st' := [.int 0]) (w' := wEv fr lo fa ki mo pe ch sty wset wfor law lent on was sat stood rose firsts waits till sitter names satOn risen nc codes ends stk) (Ps := []) rfl trivial ?_
            refine ww_zret 43 rfl rfl rfl ?_
            exact ⟨by rw [b2i_f (by grind)], rfl⟩
          · exact absurd c5 (by decide)
  · refine ww_run 14 2 (pc' := 25) (lv' := [(0, .ref 0), (1, .int (nI c)), (2, .int m)]) (st' := [.int 1]) (w' := wEv fr lo fa ki mo pe ch sty wset wfor law lent on was sat stood rose firsts waits till sitter names satOn risen nc codes ends stk) (Ps := []) rfl trivial ?_
    refine ww_run 17 6 (pc' := 33) (lv' := [(3, .int 1), (0, .ref 0), (1, .int (nI c)), (2, .int m)]) (st' := [.int (till (nI c).toNatClampNeg), .int m]) (w' := wEv fr lo fa ki mo pe ch sty wset wfor law lent on was sat stood rose firsts waits till sitter names satOn risen nc codes ends stk) (Ps := [vp_in (nI c) 6]) rfl ⟨(vp_in_nI (by omega) (by omega)), trivial⟩ ?_
    rw [nI_clamp (n := c) (by omega)]
    refine ww_icmp_lt 23 rfl (tgt := 66) rfl (fun c6 => ?_) (fun c6 => ?_)
    · refine ww_run 40 2 (pc' := 71) (lv' := [(3, .int 1), (0, .ref 0), (1, .int (nI c)), (2, .int m)]) (st' := [.int 1]) (w' := wEv fr lo fa ki mo pe ch sty wset wfor law lent on was sat stood rose firsts waits till sitter names satOn risen nc codes ends stk) (Ps := []) rfl trivial ?_
      refine ww_zret 43 rfl rfl rfl ?_
      exact ⟨by rw [b2i_t (by grind)], rfl⟩
    · refine ww_run 24 6 (pc' := 46) (lv' := [(3, .int 1), (0, .ref 0), (1, .int (nI c)), (2, .int m)]) (st' := [.int 3, .int (ki (nI c).toNatClampNeg)]) (w' := wEv fr lo fa ki mo pe ch sty wset wfor law lent on was sat stood rose firsts waits till sitter names satOn risen nc codes ends stk) (Ps := [vp_in (nI c) 6]) rfl ⟨(vp_in_nI (by omega) (by omega)), trivial⟩ ?_
      rw [nI_clamp (n := c) (by omega)]
      refine ww_icmp_eq 30 rfl (tgt := 66) rfl (fun c7 => ?_) (fun c7 => ?_)
      · refine ww_run 40 2 (pc' := 71) (lv' := [(3, .int 1), (0, .ref 0), (1, .int (nI c)), (2, .int m)]) (st' := [.int 1]) (w' := wEv fr lo fa ki mo pe ch sty wset wfor law lent on was sat stood rose firsts waits till sitter names satOn risen nc codes ends stk) (Ps := []) rfl trivial ?_
        refine ww_zret 43 rfl rfl rfl ?_
        exact ⟨by rw [b2i_t (by grind)], rfl⟩
      · refine ww_run 31 6 (pc' := 59) (lv' := [(3, .int 1), (0, .ref 0), (1, .int (nI c)), (2, .int m)]) (st' := [.int 5, .int (ki (nI c).toNatClampNeg)]) (w' := wEv fr lo fa ki mo pe ch sty wset wfor law lent on was sat stood rose firsts waits till sitter names satOn risen nc codes ends stk) (Ps := [vp_in (nI c) 6]) rfl ⟨(vp_in_nI (by omega) (by omega)), trivial⟩ ?_
        rw [nI_clamp (n := c) (by omega)]
        refine ww_icmp_ne 37 rfl (tgt := 70) rfl (fun c8 => ?_) (fun c8 => ?_)
        · refine ww_run 42 1 (pc' := 71) (lv' := [(3, .int 1), (0, .ref 0), (1, .int (nI c)), (2, .int m)]) (st' := [.int 0]) (w' := wEv fr lo fa ki mo pe ch sty wset wfor law lent on was sat stood rose firsts waits till sitter names satOn risen nc codes ends stk) (Ps := []) rfl trivial ?_
          refine ww_zret 43 rfl rfl rfl ?_
          exact ⟨by rw [b2i_f (by grind)], rfl⟩
        · refine ww_run 38 1 (pc' := 63) (lv' := [(3, .int 1), (0, .ref 0), (1, .int (nI c)), (2, .int m)]) (st' := [.int 1]) (w' := wEv fr lo fa ki mo pe ch sty wset wfor law lent on was sat stood rose firsts waits till sitter names satOn risen nc codes ends stk) (Ps := []) rfl trivial ?_
          refine ww_if_eq 39 rfl (tgt := 70) rfl (fun c9 => ?_) (fun c9 => ?_)
          · exact absurd c9 (by decide)
          · refine ww_run 40 2 (pc' := 71) (lv' := [(3, .int 1), (0, .ref 0), (1, .int (nI c)), (2, .int m)]) (st' := [.int 1]) (w' := wEv fr lo fa ki mo pe ch sty wset wfor law lent on was sat stood rose firsts waits till sitter names satOn risen nc codes ends stk) (Ps := []) rfl trivial ?_
            refine ww_zret 43 rfl rfl rfl ?_
            exact ⟨by rw [b2i_t (by grind)], rfl⟩
set_option maxHeartbeats 4000000 in
set_option maxRecDepth 100000 in
theorem c_X0_isFree (fr lo fa ki mo : Nat → Int32) (pe ch sty wset wfor law lent : Int32) (on was sat stood rose firsts waits till sitter names : Nat → Int32) (satOn risen : Int32) (nc : Nat) (codes ends stk : Nat → Int32) (c : Nat) (m : Int32) (hc : c < 6) : Co M_X0_isFree 1 0 0 [.ref 0, .int (nI c), .int m] (wEv fr lo fa ki mo pe ch sty wset wfor law lent on was sat stood rose firsts waits till sitter names satOn risen nc codes ends stk) (Qi (b2i (eFree ki mo till sitter lent satOn c m)) (wEv fr lo fa ki mo pe ch sty wset wfor law lent on was sat stood rose firsts waits till sitter names satOn risen nc codes ends stk)) := by
  refine Co.of ok_X0_isFree rfl ?_
  refine ww_run 0 4 (pc' := 8) (lv' := [(0, .ref 0), (1, .int (nI c)), (2, .int m)]) (st' := [.int lent, .int (nI c)]) (w' := wEv fr lo fa ki mo pe ch sty wset wfor law lent on was sat stood rose firsts waits till sitter names satOn risen nc codes ends stk) (Ps := []) rfl trivial ?_
  refine ww_icmp_eq 4 rfl (tgt := 20) rfl (fun c1 => ?_) (fun c1 => ?_)
  · refine ww_run 10 1 (pc' := 21) (lv' := [(0, .ref 0), (1, .int (nI c)), (2, .int m)]) (st' := [.int 0]) (w' := wEv fr lo fa ki mo pe ch sty wset wfor law lent on was sat stood rose firsts waits till sitter names satOn risen nc codes ends stk) (Ps := []) rfl trivial ?_
    refine ww_zret 11 rfl rfl rfl ?_
    exact ⟨by rw [b2i_f (by grind)], rfl⟩
  · refine ww_run 5 4 (pc' := 17) (lv' := [(0, .ref 0), (1, .int (nI c)), (2, .int m)]) (st' := [.int (sitter (nI c).toNatClampNeg)]) (w' := wEv fr lo fa ki mo pe ch sty wset wfor law lent on was sat stood rose firsts waits till sitter names satOn risen nc codes ends stk) (Ps := [vp_in (nI c) 6]) rfl ⟨(vp_in_nI (by omega) (by omega)), trivial⟩ ?_
    rw [nI_clamp (n := c) (by omega)]
    refine ww_if_lt 9 rfl (tgt := 22) rfl (fun c2 => ?_) (fun c2 => ?_)
    · refine ww_run 12 3 (pc' := 25) (lv' := [(0, .ref 0), (1, .int (nI c)), (2, .int m)]) (st' := [.int m, .int (nI c), .ref 0]) (w' := wEv fr lo fa ki mo pe ch sty wset wfor law lent on was sat stood rose firsts waits till sitter names satOn risen nc codes ends stk) (Ps := []) rfl trivial ?_
      refine ww_cVi 15 ok_X0_isWarm (c_X0_isWarm fr lo fa ki mo pe ch sty wset wfor law lent on was sat stood rose firsts waits till sitter names satOn risen nc codes ends stk c m (by omega)) lk_X0_147 rfl (by omega) (rest := []) rfl (Nat.le_of_ble_eq_true rfl) rfl rfl rfl rfl ?_
      refine ww_if_eq 16 rfl (tgt := 60) rfl (fun c3 => ?_) (fun c3 => ?_)
      · rw [b2i_eq0] at c3
        refine ww_run 32 1 (pc' := 61) (lv' := [(0, .ref 0), (1, .int (nI c)), (2, .int m)]) (st' := [.int 0]) (w' := wEv fr lo fa ki mo pe ch sty wset wfor law lent on was sat stood rose firsts waits till sitter names satOn risen nc codes ends stk) (Ps := []) rfl trivial ?_
        refine ww_zret 33 rfl rfl rfl ?_
        exact ⟨by rw [b2i_f (by grind)], rfl⟩
      · rw [b2i_ne0] at c3
        refine ww_run 17 11 (pc' := 50) (lv' := [(0, .ref 0), (1, .int (nI c)), (2, .int m)]) (st' := [.int m, .int (mo (nI c).toNatClampNeg), .int (ki (nI c).toNatClampNeg)]) (w' := wEv fr lo fa ki mo pe ch sty wset wfor law lent on was sat stood rose firsts waits till sitter names satOn risen nc codes ends stk) (Ps := [vp_in (nI c) 6, vp_in (nI c) 6]) rfl ⟨(vp_in_nI (by omega) (by omega)), (vp_in_nI (by omega) (by omega)), trivial⟩ ?_
        rw [nI_clamp (n := c) (by omega)]
        refine ww_cSi 28 ok_X2_lets (Co.fr0 (c_X2_lets (ki c) (mo c) m) rfl) lk_X0_150 rfl (by omega) (rest := []) rfl (Nat.le_of_ble_eq_true rfl) rfl ?_
        refine ww_if_eq 29 rfl (tgt := 60) rfl (fun c4 => ?_) (fun c4 => ?_)
        · rw [b2i_eq0] at c4
          refine ww_run 32 1 (pc' := 61) (lv' := [(0, .ref 0), (1, .int (nI c)), (2, .int m)]) (st' := [.int 0]) (w' := wEv fr lo fa ki mo pe ch sty wset wfor law lent on was sat stood rose firsts waits till sitter names satOn risen nc codes ends stk) (Ps := []) rfl trivial ?_
          refine ww_zret 33 rfl rfl rfl ?_
          exact ⟨by rw [b2i_f (by grind)], rfl⟩
        · rw [b2i_ne0] at c4
          refine ww_run 30 2 (pc' := 61) (lv' := [(0, .ref 0), (1, .int (nI c)), (2, .int m)]) (st' := [.int 1]) (w' := wEv fr lo fa ki mo pe ch sty wset wfor law lent on was sat stood rose firsts waits till sitter names satOn risen nc codes ends stk) (Ps := []) rfl trivial ?_
          refine ww_zret 33 rfl rfl rfl ?_
          exact ⟨by rw [b2i_t (by grind)], rfl⟩
    · refine ww_run 10 1 (pc' := 21) (lv' := [(0, .ref 0), (1, .int (nI c)), (2, .int m)]) (st' := [.int 0]) (w' := wEv fr lo fa ki mo pe ch sty wset wfor law lent on was sat stood rose firsts waits till sitter names satOn risen nc codes ends stk) (Ps := []) rfl trivial ?_
      refine ww_zret 11 rfl rfl rfl ?_
      exact ⟨by rw [b2i_f (by grind)], rfl⟩
set_option maxHeartbeats 4000000 in
set_option maxRecDepth 100000 in
theorem c_X0_isTakenAhead (fr lo fa ki mo : Nat → Int32) (pe ch sty wset wfor law lent : Int32) (on was sat stood rose firsts waits till sitter names : Nat → Int32) (satOn risen : Int32) (nc : Nat) (codes ends stk : Nat → Int32) (c b : Nat) (hc : c < 6) (hb : b < 6) : Co M_X0_isTakenAhead 0 0 0 [.ref 0, .int (nI c), .int (nI b)] (wEv fr lo fa ki mo pe ch sty wset wfor law lent on was sat stood rose firsts waits till sitter names satOn risen nc codes ends stk) (Qi (b2i (eAhead sty till c b)) (wEv fr lo fa ki mo pe ch sty wset wfor law lent on was sat stood rose firsts waits till sitter names satOn risen nc codes ends stk)) := by
  refine Co.of ok_X0_isTakenAhead rfl ?_
  refine ww_run 0 4 (pc' := 8) (lv' := [(0, .ref 0), (1, .int (nI c)), (2, .int (nI b))]) (st' := [.int 1, .int sty]) (w' := wEv fr lo fa ki mo pe ch sty wset wfor law lent on was sat stood rose firsts waits till sitter names satOn risen nc codes ends stk) (Ps := []) rfl trivial ?_
  refine ww_icmp_ne 4 rfl (tgt := 32) rfl (fun c1 => ?_) (fun c1 => ?_)
  · refine ww_run 18 4 (pc' := 40) (lv' := [(0, .ref 0), (1, .int (nI c)), (2, .int (nI b))]) (st' := [.int 2, .int sty]) (w' := wEv fr lo fa ki mo pe ch sty wset wfor law lent on was sat stood rose firsts waits till sitter names satOn risen nc codes ends stk) (Ps := []) rfl trivial ?_
    refine ww_icmp_ne 22 rfl (tgt := 62) rfl (fun c2 => ?_) (fun c2 => ?_)
    · refine ww_run 34 1 (pc' := 63) (lv' := [(0, .ref 0), (1, .int (nI c)), (2, .int (nI b))]) (st' := [.int 0]) (w' := wEv fr lo fa ki mo pe ch sty wset wfor law lent on was sat stood rose firsts waits till sitter names satOn risen nc codes ends stk) (Ps := []) rfl trivial ?_
      refine ww_zret 35 rfl rfl rfl ?_
      exact ⟨by rw [b2i_f (by grind)], rfl⟩
    · refine ww_run 23 8 (pc' := 55) (lv' := [(0, .ref 0), (1, .int (nI c)), (2, .int (nI b))]) (st' := [.int (till (nI b).toNatClampNeg), .int (till (nI c).toNatClampNeg)]) (w' := wEv fr lo fa ki mo pe ch sty wset wfor law lent on was sat stood rose firsts waits till sitter names satOn risen nc codes ends stk) (Ps := [vp_in (nI c) 6, vp_in (nI b) 6]) rfl ⟨(vp_in_nI (by omega) (by omega)), (vp_in_nI (by omega) (by omega)), trivial⟩ ?_
      rw [nI_clamp (n := b) (by omega)]
      rw [nI_clamp (n := c) (by omega)]
      refine ww_icmp_ge 31 rfl (tgt := 62) rfl (fun c3 => ?_) (fun c3 => ?_)
      · refine ww_run 34 1 (pc' := 63) (lv' := [(0, .ref 0), (1, .int (nI c)), (2, .int (nI b))]) (st' := [.int 0]) (w' := wEv fr lo fa ki mo pe ch sty wset wfor law lent on was sat stood rose firsts waits till sitter names satOn risen nc codes ends stk) (Ps := []) rfl trivial ?_
        refine ww_zret 35 rfl rfl rfl ?_
        exact ⟨by rw [b2i_f (by grind)], rfl⟩
      · refine ww_run 32 2 (pc' := 63) (lv' := [(0, .ref 0), (1, .int (nI c)), (2, .int (nI b))]) (st' := [.int 1]) (w' := wEv fr lo fa ki mo pe ch sty wset wfor law lent on was sat stood rose firsts waits till sitter names satOn risen nc codes ends stk) (Ps := []) rfl trivial ?_
        refine ww_zret 35 rfl rfl rfl ?_
        exact ⟨by rw [b2i_t (by grind)], rfl⟩
  · refine ww_run 5 8 (pc' := 23) (lv' := [(0, .ref 0), (1, .int (nI c)), (2, .int (nI b))]) (st' := [.int (till (nI b).toNatClampNeg), .int (till (nI c).toNatClampNeg)]) (w' := wEv fr lo fa ki mo pe ch sty wset wfor law lent on was sat stood rose firsts waits till sitter names satOn risen nc codes ends stk) (Ps := [vp_in (nI c) 6, vp_in (nI b) 6]) rfl ⟨(vp_in_nI (by omega) (by omega)), (vp_in_nI (by omega) (by omega)), trivial⟩ ?_
    rw [nI_clamp (n := b) (by omega)]
    rw [nI_clamp (n := c) (by omega)]
    refine ww_icmp_le 13 rfl (tgt := 30) rfl (fun c4 => ?_) (fun c4 => ?_)
    · refine ww_run 16 1 (pc' := 31) (lv' := [(0, .ref 0), (1, .int (nI c)), (2, .int (nI b))]) (st' := [.int 0]) (w' := wEv fr lo fa ki mo pe ch sty wset wfor law lent on was sat stood rose firsts waits till sitter names satOn risen nc codes ends stk) (Ps := []) rfl trivial ?_
      refine ww_zret 17 rfl rfl rfl ?_
      exact ⟨by rw [b2i_f (by grind)], rfl⟩
    · refine ww_run 14 2 (pc' := 31) (lv' := [(0, .ref 0), (1, .int (nI c)), (2, .int (nI b))]) (st' := [.int 1]) (w' := wEv fr lo fa ki mo pe ch sty wset wfor law lent on was sat stood rose firsts waits till sitter names satOn risen nc codes ends stk) (Ps := []) rfl trivial ?_
      refine ww_zret 17 rfl rfl rfl ?_
      exact ⟨by rw [b2i_t (by grind)], rfl⟩
set_option maxHeartbeats 4000000 in
set_option maxRecDepth 100000 in
theorem c_X0_told (fr lo fa ki mo : Nat → Int32) (pe ch sty wset wfor law lent : Int32) (on was sat stood rose firsts waits till sitter names : Nat → Int32) (satOn risen : Int32) (nc : Nat) (codes ends stk : Nat → Int32) (p : Nat) (m : Int32) (hp : p < 5) : Co M_X0_told 0 0 0 [.ref 0, .int (nI p), .int m] (wEv fr lo fa ki mo pe ch sty wset wfor law lent on was sat stood rose firsts waits till sitter names satOn risen nc codes ends stk) (Qi (if 0 ≤ rose p then 3 else if 0 ≤ on p then 2 else if fr p < m then 1 else 0) (wEv fr lo fa ki mo pe ch sty wset wfor law lent on was sat stood rose firsts waits till sitter names satOn risen nc codes ends stk)) := by
  refine Co.of ok_X0_told rfl ?_
  refine ww_run 0 4 (pc' := 6) (lv' := [(0, .ref 0), (1, .int (nI p)), (2, .int m)]) (st' := [.int (rose (nI p).toNatClampNeg)]) (w' := wEv fr lo fa ki mo pe ch sty wset wfor law lent on was sat stood rose firsts waits till sitter names satOn risen nc codes ends stk) (Ps := [vp_in (nI p) 5]) rfl ⟨(vp_in_nI (by omega) (by omega)), trivial⟩ ?_
  rw [nI_clamp (n := p) (by omega)]
  refine ww_if_lt 4 rfl (tgt := 11) rfl (fun c1 => ?_) (fun c1 => ?_)
  · refine ww_run 7 4 (pc' := 17) (lv' := [(0, .ref 0), (1, .int (nI p)), (2, .int m)]) (st' := [.int (on (nI p).toNatClampNeg)]) (w' := wEv fr lo fa ki mo pe ch sty wset wfor law lent on was sat stood rose firsts waits till sitter names satOn risen nc codes ends stk) (Ps := [vp_in (nI p) 5]) rfl ⟨(vp_in_nI (by omega) (by omega)), trivial⟩ ?_
    rw [nI_clamp (n := p) (by omega)]
    refine ww_if_lt 11 rfl (tgt := 22) rfl (fun c2 => ?_) (fun c2 => ?_)
    · refine ww_run 14 6 (pc' := 32) (lv' := [(0, .ref 0), (1, .int (nI p)), (2, .int m)]) (st' := [.int m, .int (fr (nI p).toNatClampNeg)]) (w' := wEv fr lo fa ki mo pe ch sty wset wfor law lent on was sat stood rose firsts waits till sitter names satOn risen nc codes ends stk) (Ps := [vp_in (nI p) 5]) rfl ⟨(vp_in_nI (by omega) (by omega)), trivial⟩ ?_
      rw [nI_clamp (n := p) (by omega)]
      refine ww_icmp_ge 20 rfl (tgt := 39) rfl (fun c3 => ?_) (fun c3 => ?_)
      · refine ww_run 23 1 (pc' := 40) (lv' := [(0, .ref 0), (1, .int (nI p)), (2, .int m)]) (st' := [.int 0]) (w' := wEv fr lo fa ki mo pe ch sty wset wfor law lent on was sat stood rose firsts waits till sitter names satOn risen nc codes ends stk) (Ps := []) rfl trivial ?_
        refine ww_iret 24 rfl rfl ?_
        exact ⟨by grind, rfl⟩
      · refine ww_run 21 2 (pc' := 40) (lv' := [(0, .ref 0), (1, .int (nI p)), (2, .int m)]) (st' := [.int 1]) (w' := wEv fr lo fa ki mo pe ch sty wset wfor law lent on was sat stood rose firsts waits till sitter names satOn risen nc codes ends stk) (Ps := []) rfl trivial ?_
        refine ww_iret 24 rfl rfl ?_
        exact ⟨by grind, rfl⟩
    · refine ww_run 12 1 (pc' := 21) (lv' := [(0, .ref 0), (1, .int (nI p)), (2, .int m)]) (st' := [.int 2]) (w' := wEv fr lo fa ki mo pe ch sty wset wfor law lent on was sat stood rose firsts waits till sitter names satOn risen nc codes ends stk) (Ps := []) rfl trivial ?_
      refine ww_iret 13 rfl rfl ?_
      exact ⟨by grind, rfl⟩
  · refine ww_run 5 1 (pc' := 10) (lv' := [(0, .ref 0), (1, .int (nI p)), (2, .int m)]) (st' := [.int 3]) (w' := wEv fr lo fa ki mo pe ch sty wset wfor law lent on was sat stood rose firsts waits till sitter names satOn risen nc codes ends stk) (Ps := []) rfl trivial ?_
    refine ww_iret 6 rfl rfl ?_
    exact ⟨by grind, rfl⟩
