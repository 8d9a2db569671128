abbrev iA (n : Nat) (f : Nat → Int32) : va_E := .inl (0, n, .inl f)
abbrev zA (n : Nat) (f : Nat → Int32) : va_E := .inl (1, n, .inl f)
/-- an evening, its house, a law -/
abbrev wEv (fr lo fa ki mo : Nat → Int32) (pe ch sty wset wfor law lent : Int32) (on was sat stood rose firsts waits till sitter names : Nat → Int32) (satOn risen : Int32) (nc : Nat) (codes ends stk : Nat → Int32) : List va_E :=
  [.inr (0, [.ref 1, .ref 7, .ref 8, .ref 9, .ref 10, .ref 11, .ref 12, .ref 13, .ref 14, .ref 15, .ref 16, .int satOn, .int risen]),
   .inr (1, [.ref 2, .ref 3, .ref 4, .int pe, .ref 5, .ref 6, .int ch, .int sty, .int wset, .int wfor, .int law, .int lent]),
   iA 5 fr, iA 5 lo, iA 5 fa, iA 6 ki, iA 6 mo, iA 5 on, iA 5 was, iA 5 sat, iA 5 stood, iA 5 rose, iA 5 firsts, zA 5 waits, iA 6 till, iA 6 sitter, iA 6 names,
   .inr (2, [.ref 18, .ref 19, .ref 20]), iA nc codes, iA 3 ends, iA 40 stk]
def b2i (P : Prop) [Decidable P] : Int32 := if P then 1 else 0
theorem c_X0_wants (fr lo fa ki mo : Nat → Int32) (pe ch sty wset wfor law lent : Int32) (on was sat stood rose firsts waits till sitter names : Nat → Int32) (satOn risen : Int32) (nc : Nat) (codes ends stk : Nat → Int32) (p m : Int32) (hp : vp_in p 5) :
    Co M_X0_wants 0 0 0 [.ref 0, .int p, .int m] (wEv fr lo fa ki mo pe ch sty wset wfor law lent on was sat stood rose firsts waits till sitter names satOn risen nc codes ends stk)
      (fun r w' => r = some (.int (b2i (fr p.toNatClampNeg ≤ m ∧ on p.toNatClampNeg < 0 ∧ rose p.toNatClampNeg < 0))) ∧ w' = wEv fr lo fa ki mo pe ch sty wset wfor law lent on was sat stood rose firsts waits till sitter names satOn risen nc codes ends stk) := by
  refine Co.of ok_X0_wants rfl ?_
  refine ww_run 0 6 (pc' := 10) (lv' := [(0, .ref 0), (1, .int p), (2, .int m)]) (st' := [.int (fr p.toNatClampNeg), .int m]) (w' := wEv fr lo fa ki mo pe ch sty wset wfor law lent on was sat stood rose firsts waits till sitter names satOn risen nc codes ends stk) (Ps := [vp_in p 5]) rfl ⟨hp, trivial⟩ ?_
  refine ww_icmp_lt 6 rfl (tgt := 35) rfl (fun c1 => ?_) (fun c1 => ?_)
  · refine ww_run 19 1 (pc' := 36) (lv' := [(0, .ref 0), (1, .int p), (2, .int m)]) (st' := [.int 0]) (w' := wEv fr lo fa ki mo pe ch sty wset wfor law lent on was sat stood rose firsts waits till sitter names satOn risen nc codes ends stk) (Ps := []) rfl trivial ?_
    refine ww_zret 20 rfl rfl rfl ⟨?_, rfl⟩
    sorry
  · refine ww_run 7 4 (pc' := 19) (lv' := [(0, .ref 0), (1, .int p), (2, .int m)]) (st' := [.int (on p.toNatClampNeg)]) (w' := wEv fr lo fa ki mo pe ch sty wset wfor law lent on was sat stood rose firsts waits till sitter names satOn risen nc codes ends stk) (Ps := [vp_in p 5]) rfl ⟨hp, trivial⟩ ?_
    refine ww_if_ge 11 rfl (tgt := 35) rfl (fun c2 => ?_) (fun c2 => ?_)
    · sorry
    · sorry
