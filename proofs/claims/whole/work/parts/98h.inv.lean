/-! both sides' states, held together -/
def JJ (pe ch tn tx ru him pe1 ch1 ru1 : Int32) (J : Nat → Int32) : Nat → Int32 := fun i0 => if i0 = 0 then pe else if i0 = 2 then ch else if i0 = 7 then tn else if i0 = 10 then tx else if i0 = 11 then ru else if i0 = 12 then him else if i0 = 13 then pe1 else if i0 = 14 then ch1 else if i0 = 15 then ru1 else if i0 = 42 then -1 else J i0
def KK (wi ki mo ho tp cd sr wi1 ho1 km1 so sz ce : Nat → Int32) (K : Nat → Nat → Int32) : Nat → Nat → Int32 := fun i0 => if i0 = 1 then wi else if i0 = 3 then ki else if i0 = 4 then mo else if i0 = 5 then ho else if i0 = 6 then tp else if i0 = 8 then cd else if i0 = 9 then sr else if i0 = 16 then wi1 else if i0 = 17 then ho1 else if i0 = 18 then km1 else if i0 = 19 then so else if i0 = 20 then sz else if i0 = 21 then ce else K i0
abbrev JR (P C k N K : Nat) (him pe1 ch1 ru1 : Int32) (J : Nat → Int32) : Nat → Int32 := JJ (nI P) (nI C) (nI N) (nI K) (nI k) him pe1 ch1 ru1 J
abbrev KR (fr lo fa ki mo : Nat → Int32) (sty wset wfor : Int32) (tp cd sr wi1 ho1 ki1 mo1 so sz : Nat → Int32) (g : Nat → Nat → Int32) (KF : Nat → Nat → Int32) : Nat → Nat → Int32 := KK (wiF fr lo fa) ki mo (hoF sty wset wfor) tp cd sr wi1 ho1 (kmF ki1 mo1) so sz (ceF g) KF
abbrev wRf (fr lo fa ki mo : Nat → Int32) (P C k : Nat) (sty wset wfor : Int32) (tp cd sr wi1 ho1 ki1 mo1 so sz : Nat → Int32) (g : Nat → Nat → Int32) (N K : Nat) (him pe1 ch1 ru1 : Int32) (J : Nat → Int32) (KF : Nat → Nat → Int32) : List va_E := wM (JR P C k N K him pe1 ch1 ru1 J) (KR fr lo fa ki mo sty wset wfor tp cd sr wi1 ho1 ki1 mo1 so sz g KF)
def HOK (ki mo : Nat → Int32) (wfor : Int32) (P C k K : Nat) : Prop := P ≤ 5 ∧ C ≤ 6 ∧ k < K ∧ MO6 mo ∧ sm 30 wfor ∧ ∀ c, c < 6 → sm 5 (ki c)
def IMG (pfr plo pfa pki pmo : Nat → Int32) (ppe pch psty pwset pwfor plaw plent pict : Int32) (wi1 ho1 ki1 mo1 : Nat → Int32) (pe1 ch1 ru1 : Int32) (K : Nat) : Prop := pict = 0 ∨ ∃ P1 C1 k1 : Nat, (ppe = nI P1 ∧ pch = nI C1 ∧ plaw = nI k1 ∧ plent = -1) ∧ (pe1 = nI P1 ∧ ch1 = nI C1 ∧ ru1 = nI k1) ∧ (wi1 = wiF pfr plo pfa ∧ ho1 = hoF psty pwset pwfor ∧ pki = ki1 ∧ pmo = mo1) ∧ HOK pki pmo pwfor P1 C1 k1 K
def SHR (so sz sz2 : Nat → Int32) (ce g : Nat → Nat → Int32) : Prop := (∀ s, s < 4 → sm 40 (sz s)) ∧ (∀ s, s < 4 → sm 40 (sz2 s)) ∧ ∀ s, s < 4 → ¬ so s = -1 → sz2 s = sz s ∧ ∀ j, j < 40 → g s j = ce s j
def TXO (tx : Nat → Option Nat) (K : Nat) (T : List va_E) : Prop := (∀ t, t < K → tx t = some (lb t + 48)) ∧ ∀ j n, 48 + T.length ≤ n → tx j ≠ some n
def INB (w : List va_E) : Prop := ∀ M : List va_E → Prop, (∀ (fr lo fa ki mo : Nat → Int32) (P C k : Nat) (sty wset wfor : Int32) (pfr plo pfa pki pmo : Nat → Int32) (ppe pch psty pwset pwfor plaw plent : Int32) (bytes tcodes tends : Nat → Int32) (N ta0 : Nat) (tcn tpl tok : Int32) (efr elo efa eki emo : Nat → Int32) (epe ech esty ewset ewfor elaw elent : Int32) (on was sat stood rose firsts waits till sitter names : Nat → Int32) (satOn risen pict brs bst : Int32) (row brow kept asked so sz : Nat → Int32) (ce : Nat → Nat → Int32) (tx : Nat → Option Nat) (T : List va_E) (K : Nat) (sy : SY) (cd sr wi1 ho1 ki1 mo1 sz2 : Nat → Int32) (pe1 ch1 ru1 : Int32) (g : Nat → Nat → Int32) (J : Nat → Int32) (KF : Nat → Nat → Int32),
  HOK ki mo wfor P C k K → N ≤ 160 → IMG pfr plo pfa pki pmo ppe pch psty pwset pwfor plaw plent pict wi1 ho1 ki1 mo1 pe1 ch1 ru1 K → SHR so sz sz2 ce g → TXO tx K T → ML cd sr K sy → TI T K sy (mdOf (wRf fr lo fa ki mo P C k sty wset wfor bytes cd sr wi1 ho1 ki1 mo1 so sz2 g N K pict pe1 ch1 ru1 J KF)) → (∀ j, j < 96 → KF 27 j = woT j) → M (wC fr lo fa ki mo (nI P) (nI C) sty wset wfor (nI k) (-1) pfr plo pfa pki pmo ppe pch psty pwset pwfor plaw plent bytes tcodes tends (nI N) (nI ta0) tcn tpl tok efr elo efa eki emo epe ech esty ewset ewfor elaw elent on was sat stood rose firsts waits till sitter names satOn risen pict (nI K) brs bst row brow kept asked so sz ce tx T)) → M w
theorem xeD_ok {n ci : Nat} {fs : List Value} (h : xeB n fs = true) : xeD n (.inr (ci, fs)) := by
  intro v hv i e
  have h1 := List.all_eq_true.mp h v hv
  rw [e] at h1
  exact Nat.le_of_ble_eq_true h1
set_option maxRecDepth 100000 in
theorem wM_D (J : Nat → Int32) (K : Nat → Nat → Int32) : ∀ e ∈ wM J K, xeD 29 e :=
  List.forall_mem_cons.mpr ⟨xeD_ok rfl, List.forall_mem_cons.mpr ⟨trivial, List.forall_mem_cons.mpr ⟨trivial, List.forall_mem_cons.mpr ⟨trivial, List.forall_mem_cons.mpr ⟨trivial, List.forall_mem_cons.mpr ⟨trivial, List.forall_mem_cons.mpr ⟨trivial, List.forall_mem_cons.mpr ⟨trivial, List.forall_mem_cons.mpr ⟨trivial, List.forall_mem_cons.mpr ⟨trivial, List.forall_mem_cons.mpr ⟨trivial, List.forall_mem_cons.mpr ⟨trivial, List.forall_mem_cons.mpr ⟨trivial, List.forall_mem_cons.mpr ⟨trivial, List.forall_mem_cons.mpr ⟨trivial, List.forall_mem_cons.mpr ⟨trivial, List.forall_mem_cons.mpr ⟨trivial, List.forall_mem_cons.mpr ⟨trivial, List.forall_mem_cons.mpr ⟨trivial, List.forall_mem_cons.mpr ⟨trivial, List.forall_mem_cons.mpr ⟨trivial, List.forall_mem_cons.mpr ⟨trivial, List.forall_mem_cons.mpr ⟨trivial, List.forall_mem_cons.mpr ⟨trivial, List.forall_mem_cons.mpr ⟨trivial, List.forall_mem_cons.mpr ⟨trivial, List.forall_mem_cons.mpr ⟨trivial, List.forall_mem_cons.mpr ⟨trivial, List.forall_mem_cons.mpr ⟨trivial, List.forall_mem_nil _⟩⟩⟩⟩⟩⟩⟩⟩⟩⟩⟩⟩⟩⟩⟩⟩⟩⟩⟩⟩⟩⟩⟩⟩⟩⟩⟩⟩⟩
set_option maxHeartbeats 8000000 in
set_option maxRecDepth 100000 in
theorem INB_mk {fr lo fa ki mo : Nat → Int32} {P C k : Nat} {sty wset wfor : Int32} {pfr plo pfa pki pmo : Nat → Int32} {ppe pch psty pwset pwfor plaw plent : Int32} {bytes tcodes tends : Nat → Int32} {N ta0 : Nat} {tcn tpl tok : Int32} {efr elo efa eki emo : Nat → Int32} {epe ech esty ewset ewfor elaw elent : Int32} {on was sat stood rose firsts waits till sitter names : Nat → Int32} {satOn risen pict brs bst : Int32} {row brow kept asked so sz : Nat → Int32} {ce : Nat → Nat → Int32} {tx : Nat → Option Nat} {T : List va_E} {K : Nat} {sy : SY} {cd sr wi1 ho1 ki1 mo1 sz2 : Nat → Int32} {pe1 ch1 ru1 : Int32} {g : Nat → Nat → Int32} {J : Nat → Int32} {KF : Nat → Nat → Int32} {md : Nat → Option va_E} {w0 : List va_E} (hH : HOK ki mo wfor P C k K) (hN : N ≤ 160) (hI : IMG pfr plo pfa pki pmo ppe pch psty pwset pwfor plaw plent pict wi1 ho1 ki1 mo1 pe1 ch1 ru1 K) (hS : SHR so sz sz2 ce g) (hX : TXO tx K T) (hL : ML cd sr K sy) (hT : TI T K sy md) (hw : w0 = wRf fr lo fa ki mo P C k sty wset wfor bytes cd sr wi1 ho1 ki1 mo1 so sz2 g N K pict pe1 ch1 ru1 J KF) (ho : ∀ j, j < 96 → KF 27 j = woT j) : INB (wC fr lo fa ki mo (nI P) (nI C) sty wset wfor (nI k) (-1) pfr plo pfa pki pmo ppe pch psty pwset pwfor plaw plent bytes tcodes tends (nI N) (nI ta0) tcn tpl tok efr elo efa eki emo epe ech esty ewset ewfor elaw elent on was sat stood rose firsts waits till sitter names satOn risen pict (nI K) brs bst row brow kept asked so sz ce tx (ovT T w0)) := by
  subst hw
  have hK : 1 ≤ K := by have := hH.2.2.1; omega
  intro M hM
  exact hM fr lo fa ki mo P C k sty wset wfor pfr plo pfa pki pmo ppe pch psty pwset pwfor plaw plent bytes tcodes tends N ta0 tcn tpl tok efr elo efa eki emo epe ech esty ewset ewfor elaw elent on was sat stood rose firsts waits till sitter names satOn risen pict brs bst row brow kept asked so sz ce tx (ovT T (wRf fr lo fa ki mo P C k sty wset wfor bytes cd sr wi1 ho1 ki1 mo1 so sz2 g N K pict pe1 ch1 ru1 J KF)) K sy cd sr wi1 ho1 ki1 mo1 sz2 pe1 ch1 ru1 g J KF hH hN hI hS ⟨hX.1, fun j n hn => hX.2 j n (by rw [ov_len] at hn; exact hn)⟩ hL (TI_ov hK hT rfl (wM_D _ _)) ho
set_option maxRecDepth 100000 in
theorem wC_52 (fr lo fa ki mo : Nat → Int32) (pe ch sty wset wfor law lent : Int32) (pfr plo pfa pki pmo : Nat → Int32) (ppe pch psty pwset pwfor plaw plent : Int32) (bytes tcodes tends : Nat → Int32) (tsize tat tcn tpl tok : Int32) (efr elo efa eki emo : Nat → Int32) (epe ech esty ewset ewfor elaw elent : Int32) (on was sat stood rose firsts waits till sitter names : Nat → Int32) (satOn risen pict tn brs bst : Int32) (row brow kept asked so sz : Nat → Int32) (ce : Nat → Nat → Int32) (tx : Nat → Option Nat) (T : List va_E) {e : va_E} (h : T[4]? = some e) : (wC fr lo fa ki mo pe ch sty wset wfor law lent pfr plo pfa pki pmo ppe pch psty pwset pwfor plaw plent bytes tcodes tends tsize tat tcn tpl tok efr elo efa eki emo epe ech esty ewset ewfor elaw elent on was sat stood rose firsts waits till sitter names satOn risen pict tn brs bst row brow kept asked so sz ce tx T)[52]? = some e := h
set_option maxHeartbeats 8000000 in
set_option maxRecDepth 100000 in
/-- the reference's turn, behind the component's -/
theorem step_end {α : Type} {mk : α → Value} {x : α} (hmk : ∀ f, xt f (mk x) = mk x) {MY : XM} {dY : Nat} {zs : List Int32} {Q : Option Value → List va_E → Prop} {fr lo fa ki mo : Nat → Int32} {pe ch sty wset wfor law lent : Int32} {pfr plo pfa pki pmo : Nat → Int32} {ppe pch psty pwset pwfor plaw plent : Int32} {bytes tcodes tends : Nat → Int32} {tsize tat tcn tpl tok : Int32} {efr elo efa eki emo : Nat → Int32} {epe ech esty ewset ewfor elaw elent : Int32} {on was sat stood rose firsts waits till sitter names : Nat → Int32} {satOn risen pict tn brs bst : Int32} {row brow kept asked so sz : Nat → Int32} {ce : Nat → Nat → Int32} {tx : Nat → Option Nat} {T : List va_E} {w' : List va_E} {K : Nat} {sy : SY} {J0 : Nat → Int32} {K0 : Nat → Nat → Int32} (hw : w' = wC fr lo fa ki mo pe ch sty wset wfor law lent pfr plo pfa pki pmo ppe pch psty pwset pwfor plaw plent bytes tcodes tends tsize tat tcn tpl tok efr elo efa eki emo epe ech esty ewset ewfor elaw elent on was sat stood rose firsts waits till sitter names satOn risen pict tn brs bst row brow kept asked so sz ce tx T) (hT : TI T K sy (mdOf (wM J0 K0))) (h : Co MY dY 0 0 (.ref 0 :: zs.map Value.int) (wM J0 K0) Q) (hQ : ∀ r0 w0, Q r0 w0 → r0 = some (mk x) ∧ INB (wC fr lo fa ki mo pe ch sty wset wfor law lent pfr plo pfa pki pmo ppe pch psty pwset pwfor plaw plent bytes tcodes tends tsize tat tcn tpl tok efr elo efa eki emo epe ech esty ewset ewfor elaw elent on was sat stood rose firsts waits till sitter names satOn risen pict tn brs bst row brow kept asked so sz ce tx (ovT T w0))) :
    (∃ fs, w'[52]? = some (.inr (6, fs))) ∧ ∃ QY : Option Value → List va_E → Prop, Co MY dY 0 0 (.ref 52 :: zs.map Value.int) w' QY ∧ ∀ r2 w2, QY r2 w2 → r2 = some (mk x) ∧ INB w2 := by
  subst hw
  have h2 := Co.frM fr lo fa ki mo pe ch sty wset wfor law lent pfr plo pfa pki pmo ppe pch psty pwset pwfor plaw plent bytes tcodes tends tsize tat tcn tpl tok efr elo efa eki emo epe ech esty ewset ewfor elaw elent on was sat stood rose firsts waits till sitter names satOn risen pict tn brs bst row brow kept asked so sz ce tx T hT (fun _ _ => rfl) rfl h
  rw [show (Value.ref 0 :: zs.map Value.int).map (xt (xr rhM)) = .ref 52 :: zs.map Value.int by rw [List.map_cons, xt_ints]; rfl] at h2
  refine ⟨⟨_, wC_52 fr lo fa ki mo pe ch sty wset wfor law lent pfr plo pfa pki pmo ppe pch psty pwset pwfor plaw plent bytes tcodes tends tsize tat tcn tpl tok efr elo efa eki emo epe ech esty ewset ewfor elaw elent on was sat stood rose firsts waits till sitter names satOn risen pict tn brs bst row brow kept asked so sz ce tx T (hT.2.2.1 0 (by decide))⟩, _, h2, fun r2 w2 hq => ?_⟩
  obtain ⟨r0, w0, q1, q2, q3⟩ := hq
  obtain ⟨g1, g2⟩ := hQ r0 w0 q1
  refine ⟨?_, by rw [q3]; exact g2⟩
  rw [q2, g1]
  show some (xt _ (mk x)) = _
  rw [hmk]
set_option maxRecDepth 100000 in
theorem R_v {fr0 lo0 fa0 ki0 mo0 fr lo fa ki mo : Nat → Int32} {P0 C0 k0 P C k : Nat} {sty0 wset0 wfor0 sty wset wfor : Int32} {tp cd0 sr0 cd sr wi1 ho1 ki1 mo1 so sz : Nat → Int32} {g : Nat → Nat → Int32} {N K : Nat} {him pe1 ch1 ru1 : Int32} {J : Nat → Int32} {KF : Nat → Nat → Int32} {stk names till sitter on was sat stood rose turn : Nat → Int32} : wMv (wiF fr lo fa) ki mo (hoF sty wset wfor) cd sr stk names till sitter on was sat stood rose turn (nI P) (nI C) (nI k) (-1) (JR P0 C0 k0 N K him pe1 ch1 ru1 J) (KR fr0 lo0 fa0 ki0 mo0 sty0 wset0 wfor0 tp cd0 sr0 wi1 ho1 ki1 mo1 so sz g KF) = wRf fr lo fa ki mo P C k sty wset wfor tp cd sr wi1 ho1 ki1 mo1 so sz g N K him pe1 ch1 ru1 J (fun i0 => if i0 = 32 then stk else if i0 = 33 then names else if i0 = 34 then till else if i0 = 35 then sitter else if i0 = 36 then on else if i0 = 37 then was else if i0 = 38 then sat else if i0 = 39 then stood else if i0 = 40 then rose else if i0 = 41 then turn else KF i0) := rfl
set_option maxRecDepth 100000 in
theorem R_o {fr0 lo0 fa0 ki0 mo0 fr lo fa ki mo : Nat → Int32} {P0 C0 k0 P C k : Nat} {sty0 wset0 wfor0 sty wset wfor : Int32} {tp cd0 sr0 cd sr wi1 ho1 ki1 mo1 so sz : Nat → Int32} {g : Nat → Nat → Int32} {N K : Nat} {him pe1 ch1 ru1 : Int32} {J : Nat → Int32} {KF : Nat → Nat → Int32} {stk names till sitter on was sat stood rose turn kf : Nat → Int32} {bw1 bw : Int32} : wMo (wiF fr lo fa) ki mo (hoF sty wset wfor) cd sr stk names till sitter on was sat stood rose turn kf (nI P) (nI C) (nI k) (-1) bw1 bw (JR P0 C0 k0 N K him pe1 ch1 ru1 J) (KR fr0 lo0 fa0 ki0 mo0 sty0 wset0 wfor0 tp cd0 sr0 wi1 ho1 ki1 mo1 so sz g KF) = wRf fr lo fa ki mo P C k sty wset wfor tp cd sr wi1 ho1 ki1 mo1 so sz g N K him pe1 ch1 ru1 (fun i0 => if i0 = 44 then bw1 else if i0 = 45 then bw else J i0) (fun i0 => if i0 = 32 then stk else if i0 = 33 then names else if i0 = 34 then till else if i0 = 35 then sitter else if i0 = 36 then on else if i0 = 37 then was else if i0 = 38 then sat else if i0 = 39 then stood else if i0 = 40 then rose else if i0 = 41 then turn else if i0 = 43 then kf else KF i0) := rfl
set_option maxRecDepth 100000 in
theorem R_k {fr0 lo0 fa0 ki0 mo0 : Nat → Int32} {P0 C0 k0 : Nat} {sty0 wset0 wfor0 : Int32} {tp cd0 sr0 wi1 ho1 ki1 mo1 so sz : Nat → Int32} {g : Nat → Nat → Int32} {N K : Nat} {him pe1 ch1 ru1 : Int32} {J : Nat → Int32} {KF : Nat → Nat → Int32} {kp : Nat → Int32} : wMk kp (JR P0 C0 k0 N K him pe1 ch1 ru1 J) (KR fr0 lo0 fa0 ki0 mo0 sty0 wset0 wfor0 tp cd0 sr0 wi1 ho1 ki1 mo1 so sz g KF) = wRf fr0 lo0 fa0 ki0 mo0 P0 C0 k0 sty0 wset0 wfor0 tp cd0 sr0 wi1 ho1 ki1 mo1 so sz g N K him pe1 ch1 ru1 J (fun i0 => if i0 = 46 then kp else KF i0) := rfl
set_option maxRecDepth 100000 in
theorem R_t {fr0 lo0 fa0 ki0 mo0 : Nat → Int32} {P0 C0 k0 : Nat} {sty0 wset0 wfor0 : Int32} {tp cd0 sr0 wi1 ho1 ki1 mo1 so sz : Nat → Int32} {g : Nat → Nat → Int32} {N K : Nat} {him pe1 ch1 ru1 : Int32} {J : Nat → Int32} {KF : Nat → Nat → Int32} {tp' : Nat → Int32} {N' : Nat} : wMt tp' (nI N') (JR P0 C0 k0 N K him pe1 ch1 ru1 J) (KR fr0 lo0 fa0 ki0 mo0 sty0 wset0 wfor0 tp cd0 sr0 wi1 ho1 ki1 mo1 so sz g KF) = wRf fr0 lo0 fa0 ki0 mo0 P0 C0 k0 sty0 wset0 wfor0 tp' cd0 sr0 wi1 ho1 ki1 mo1 so sz g N' K him pe1 ch1 ru1 J KF := rfl
set_option maxRecDepth 100000 in
theorem R_f {fr0 lo0 fa0 ki0 mo0 fr lo fa ki mo : Nat → Int32} {P0 C0 k0 P C k : Nat} {sty0 wset0 wfor0 sty wset wfor : Int32} {tp cd0 sr0 cd sr wi1 ho1 ki1 mo1 so0 sz0 so sz : Nat → Int32} {g0 g : Nat → Nat → Int32} {N K : Nat} {him pe1 ch1 ru1 : Int32} {J : Nat → Int32} {KF : Nat → Nat → Int32} {stk names till sitter on was sat stood rose turn : Nat → Int32} : wMf (wiF fr lo fa) ki mo (hoF sty wset wfor) cd sr so sz (ceF g) stk names till sitter on was sat stood rose turn (nI P) (nI C) (nI k) (-1) (JR P0 C0 k0 N K him pe1 ch1 ru1 J) (KR fr0 lo0 fa0 ki0 mo0 sty0 wset0 wfor0 tp cd0 sr0 wi1 ho1 ki1 mo1 so0 sz0 g0 KF) = wRf fr lo fa ki mo P C k sty wset wfor tp cd sr wi1 ho1 ki1 mo1 so sz g N K him pe1 ch1 ru1 J (fun i0 => if i0 = 32 then stk else if i0 = 33 then names else if i0 = 34 then till else if i0 = 35 then sitter else if i0 = 36 then on else if i0 = 37 then was else if i0 = 38 then sat else if i0 = 39 then stood else if i0 = 40 then rose else if i0 = 41 then turn else KF i0) := rfl
set_option maxRecDepth 100000 in
theorem R_s {fr0 lo0 fa0 ki0 mo0 : Nat → Int32} {P0 C0 k0 : Nat} {sty0 wset0 wfor0 : Int32} {tp cd0 sr0 wi1 ho1 ki1 mo1 so0 sz0 so sz : Nat → Int32} {g0 g : Nat → Nat → Int32} {N K : Nat} {him pe1 ch1 ru1 : Int32} {J : Nat → Int32} {KF : Nat → Nat → Int32} : wMs so sz (ceF g) (JR P0 C0 k0 N K him pe1 ch1 ru1 J) (KR fr0 lo0 fa0 ki0 mo0 sty0 wset0 wfor0 tp cd0 sr0 wi1 ho1 ki1 mo1 so0 sz0 g0 KF) = wRf fr0 lo0 fa0 ki0 mo0 P0 C0 k0 sty0 wset0 wfor0 tp cd0 sr0 wi1 ho1 ki1 mo1 so sz g N K him pe1 ch1 ru1 J KF := rfl
set_option maxRecDepth 100000 in
theorem R_i {fr0 lo0 fa0 ki0 mo0 fr lo fa ki mo : Nat → Int32} {P0 C0 k0 P C k : Nat} {sty0 wset0 wfor0 sty wset wfor : Int32} {tp cd sr wi1 ho1 ki1 mo1 so sz : Nat → Int32} {g : Nat → Nat → Int32} {N K : Nat} {him0 pe10 ch10 ru10 him pe1 ch1 ru1 : Int32} {J : Nat → Int32} {KF : Nat → Nat → Int32} {wi10 ho10 ki10 mo10 : Nat → Int32} : wMi (wiF fr lo fa) ki mo (hoF sty wset wfor) wi1 ho1 (kmF ki1 mo1) (nI P) (nI C) (nI k) him pe1 ch1 ru1 (JR P0 C0 k0 N K him0 pe10 ch10 ru10 J) (KR fr0 lo0 fa0 ki0 mo0 sty0 wset0 wfor0 tp cd sr wi10 ho10 ki10 mo10 so sz g KF) = wRf fr lo fa ki mo P C k sty wset wfor tp cd sr wi1 ho1 ki1 mo1 so sz g N K him pe1 ch1 ru1 J KF := rfl
set_option maxRecDepth 100000 in
theorem R_r {fr0 lo0 fa0 ki0 mo0 : Nat → Int32} {P0 C0 k0 : Nat} {sty0 wset0 wfor0 : Int32} {tp cd0 sr0 cd sr wi1 ho1 ki1 mo1 so sz : Nat → Int32} {g : Nat → Nat → Int32} {N K : Nat} {him pe1 ch1 ru1 : Int32} {J : Nat → Int32} {KF : Nat → Nat → Int32} {tp' wo he : Nat → Int32} {N' K' : Nat} {pt bg tk vl hm op ou : Int32} : wMr tp' cd sr wo he (nI N') (nI K') pt bg tk vl hm op ou (JR P0 C0 k0 N K him pe1 ch1 ru1 J) (KR fr0 lo0 fa0 ki0 mo0 sty0 wset0 wfor0 tp cd0 sr0 wi1 ho1 ki1 mo1 so sz g KF) = wRf fr0 lo0 fa0 ki0 mo0 P0 C0 k0 sty0 wset0 wfor0 tp' cd sr wi1 ho1 ki1 mo1 so sz g N' K' him pe1 ch1 ru1 (fun i0 => if i0 = 23 then pt else if i0 = 24 then bg else if i0 = 25 then tk else if i0 = 26 then vl else if i0 = 29 then hm else if i0 = 30 then op else if i0 = 31 then ou else J i0) (fun i0 => if i0 = 27 then wo else if i0 = 28 then he else KF i0) := rfl
set_option maxRecDepth 100000 in
theorem V_v {fr lo fa ki mo : Nat → Int32} {P C k : Nat} {sty wset wfor : Int32} {tp cd sr wi1 ho1 ki1 mo1 so sz : Nat → Int32} {g : Nat → Nat → Int32} {N K : Nat} {him pe1 ch1 ru1 : Int32} {J : Nat → Int32} {KF : Nat → Nat → Int32} : wMv (wiF fr lo fa) ki mo (hoF sty wset wfor) cd sr (KF 32) (KF 33) (KF 34) (KF 35) (KF 36) (KF 37) (KF 38) (KF 39) (KF 40) (KF 41) (nI P) (nI C) (nI k) (-1) (JR P C k N K him pe1 ch1 ru1 J) (KR fr lo fa ki mo sty wset wfor tp cd sr wi1 ho1 ki1 mo1 so sz g KF) = wRf fr lo fa ki mo P C k sty wset wfor tp cd sr wi1 ho1 ki1 mo1 so sz g N K him pe1 ch1 ru1 J KF := rfl
set_option maxRecDepth 100000 in
theorem V_o {fr lo fa ki mo : Nat → Int32} {P C k : Nat} {sty wset wfor : Int32} {tp cd sr wi1 ho1 ki1 mo1 so sz : Nat → Int32} {g : Nat → Nat → Int32} {N K : Nat} {him pe1 ch1 ru1 : Int32} {J : Nat → Int32} {KF : Nat → Nat → Int32} : wMo (wiF fr lo fa) ki mo (hoF sty wset wfor) cd sr (KF 32) (KF 33) (KF 34) (KF 35) (KF 36) (KF 37) (KF 38) (KF 39) (KF 40) (KF 41) (KF 43) (nI P) (nI C) (nI k) (-1) (J 44) (J 45) (JR P C k N K him pe1 ch1 ru1 J) (KR fr lo fa ki mo sty wset wfor tp cd sr wi1 ho1 ki1 mo1 so sz g KF) = wRf fr lo fa ki mo P C k sty wset wfor tp cd sr wi1 ho1 ki1 mo1 so sz g N K him pe1 ch1 ru1 J KF := rfl
set_option maxRecDepth 100000 in
theorem V_k {fr lo fa ki mo : Nat → Int32} {P C k : Nat} {sty wset wfor : Int32} {tp cd sr wi1 ho1 ki1 mo1 so sz : Nat → Int32} {g : Nat → Nat → Int32} {N K : Nat} {him pe1 ch1 ru1 : Int32} {J : Nat → Int32} {KF : Nat → Nat → Int32} : wMk (KF 46) (JR P C k N K him pe1 ch1 ru1 J) (KR fr lo fa ki mo sty wset wfor tp cd sr wi1 ho1 ki1 mo1 so sz g KF) = wRf fr lo fa ki mo P C k sty wset wfor tp cd sr wi1 ho1 ki1 mo1 so sz g N K him pe1 ch1 ru1 J KF := rfl
set_option maxRecDepth 100000 in
theorem V_t {fr lo fa ki mo : Nat → Int32} {P C k : Nat} {sty wset wfor : Int32} {tp cd sr wi1 ho1 ki1 mo1 so sz : Nat → Int32} {g : Nat → Nat → Int32} {N K : Nat} {him pe1 ch1 ru1 : Int32} {J : Nat → Int32} {KF : Nat → Nat → Int32} : wMt tp (nI N) (JR P C k N K him pe1 ch1 ru1 J) (KR fr lo fa ki mo sty wset wfor tp cd sr wi1 ho1 ki1 mo1 so sz g KF) = wRf fr lo fa ki mo P C k sty wset wfor tp cd sr wi1 ho1 ki1 mo1 so sz g N K him pe1 ch1 ru1 J KF := rfl
set_option maxRecDepth 100000 in
theorem V_f {fr lo fa ki mo : Nat → Int32} {P C k : Nat} {sty wset wfor : Int32} {tp cd sr wi1 ho1 ki1 mo1 so sz : Nat → Int32} {g : Nat → Nat → Int32} {N K : Nat} {him pe1 ch1 ru1 : Int32} {J : Nat → Int32} {KF : Nat → Nat → Int32} : wMf (wiF fr lo fa) ki mo (hoF sty wset wfor) cd sr so sz (ceF g) (KF 32) (KF 33) (KF 34) (KF 35) (KF 36) (KF 37) (KF 38) (KF 39) (KF 40) (KF 41) (nI P) (nI C) (nI k) (-1) (JR P C k N K him pe1 ch1 ru1 J) (KR fr lo fa ki mo sty wset wfor tp cd sr wi1 ho1 ki1 mo1 so sz g KF) = wRf fr lo fa ki mo P C k sty wset wfor tp cd sr wi1 ho1 ki1 mo1 so sz g N K him pe1 ch1 ru1 J KF := rfl
set_option maxRecDepth 100000 in
theorem V_s {fr lo fa ki mo : Nat → Int32} {P C k : Nat} {sty wset wfor : Int32} {tp cd sr wi1 ho1 ki1 mo1 so sz : Nat → Int32} {g : Nat → Nat → Int32} {N K : Nat} {him pe1 ch1 ru1 : Int32} {J : Nat → Int32} {KF : Nat → Nat → Int32} : wMs so sz (ceF g) (JR P C k N K him pe1 ch1 ru1 J) (KR fr lo fa ki mo sty wset wfor tp cd sr wi1 ho1 ki1 mo1 so sz g KF) = wRf fr lo fa ki mo P C k sty wset wfor tp cd sr wi1 ho1 ki1 mo1 so sz g N K him pe1 ch1 ru1 J KF := rfl
set_option maxRecDepth 100000 in
theorem V_i {fr lo fa ki mo : Nat → Int32} {P C k : Nat} {sty wset wfor : Int32} {tp cd sr wi1 ho1 ki1 mo1 so sz : Nat → Int32} {g : Nat → Nat → Int32} {N K : Nat} {him pe1 ch1 ru1 : Int32} {J : Nat → Int32} {KF : Nat → Nat → Int32} : wMi (wiF fr lo fa) ki mo (hoF sty wset wfor) wi1 ho1 (kmF ki1 mo1) (nI P) (nI C) (nI k) him pe1 ch1 ru1 (JR P C k N K him pe1 ch1 ru1 J) (KR fr lo fa ki mo sty wset wfor tp cd sr wi1 ho1 ki1 mo1 so sz g KF) = wRf fr lo fa ki mo P C k sty wset wfor tp cd sr wi1 ho1 ki1 mo1 so sz g N K him pe1 ch1 ru1 J KF := rfl
set_option maxRecDepth 100000 in
theorem V_r {fr lo fa ki mo : Nat → Int32} {P C k : Nat} {sty wset wfor : Int32} {tp cd sr wi1 ho1 ki1 mo1 so sz : Nat → Int32} {g : Nat → Nat → Int32} {N K : Nat} {him pe1 ch1 ru1 : Int32} {J : Nat → Int32} {KF : Nat → Nat → Int32} : wMr tp cd sr (KF 27) (KF 28) (nI N) (nI K) (J 23) (J 24) (J 25) (J 26) (J 29) (J 30) (J 31) (JR P C k N K him pe1 ch1 ru1 J) (KR fr lo fa ki mo sty wset wfor tp cd sr wi1 ho1 ki1 mo1 so sz g KF) = wRf fr lo fa ki mo P C k sty wset wfor tp cd sr wi1 ho1 ki1 mo1 so sz g N K him pe1 ch1 ru1 J KF := rfl
theorem Co.wd {M : XM} {d mc ms : Nat} {av : List Value} {w w2 : List va_E} {Q : Option Value → List va_E → Prop} (h : Co M d mc ms av w Q) (e : w = w2) : Co M d mc ms av w2 Q := e ▸ h
theorem xr_range (n : Nat) : xr (List.range n) = fun i => i := by
  funext i
  unfold xr
  rw [List.getD_eq_getElem?_getD]
  by_cases h : i < n
  · rw [List.getElem?_range h]; rfl
  · rw [List.getElem?_eq_none (by simp; omega)]; rfl
theorem xt_same : ∀ v : Value, xt (fun i => i) v = v := by intro v; cases v <;> rfl
theorem xe_same (e : va_E) : xe (fun k => k) (fun i => i) e = e := by
  match e with
  | .inl (k, n, .inl f) => rfl
  | .inl (k, n, .inr (.inl f)) => rfl
  | .inl (k, n, .inr (.inr (.inl f))) => rfl
  | .inl (k, n, .inr (.inr (.inr (.inl f)))) => rfl
  | .inl (k, n, .inr (.inr (.inr (.inr f)))) =>
    have h : (fun j => (f j).map (fun i => i)) = f := funext fun j => by cases f j <;> rfl
    simp only [xe, xa, h]
  | .inr (ci, fs) =>
    have h : fs.map (xt (fun i => i)) = fs := by
      rw [List.map_congr_left (g := id) (fun v _ => xt_same v)]
      simp
    simp only [xe, h]
theorem xgr_pre {w0 wsub R : List va_E} (hl : w0.length = wsub.length) (hn : va_nd (List.range wsub.length) = true) : xgr (fun i => i) (wsub ++ R) (List.range wsub.length) w0 = w0 ++ R := by
  apply List.ext_getElem?
  intro k
  by_cases h : k < wsub.length
  · have h1 : w0[k]? = some w0[k] := List.getElem?_eq_getElem (by omega)
    rw [xgr_in (fun i => i) k (List.range wsub.length) (wsub ++ R) w0 k w0[k] hn (List.getElem?_range h) h1 (by simp; omega), List.getElem?_append_left (by omega), h1, xe_same]
  · rw [xgr_out _ _ _ _ _ (by simp; omega), List.getElem?_append_right (by omega), List.getElem?_append_right (by omega), hl]
/-- a contract over the first cells of a world -/
theorem Co.pre {M : XM} {d : Nat} {av : List Value} {wsub : List va_E} {Q : Option Value → List va_E → Prop} (R : List va_E) (h : Co M d 0 0 av wsub Q) (hn : va_nd (List.range wsub.length) = true) (h17 : wsub.length ≤ 17) (hQ : ∀ r w', Q r w' → w'.length = wsub.length) : Co M d 0 0 av (wsub ++ R) (fun r w' => ∃ w0, Q r w0 ∧ w' = w0 ++ R) := by
  have hs : (List.range wsub.length).map (fun i => (wsub ++ R)[i]?) = wsub.map (fun e => some (xe (fun k => k) (xr (List.range wsub.length)) e)) := by
    rw [xr_range]
    apply List.ext_getElem?
    intro j
    rw [List.getElem?_map, List.getElem?_map]
    by_cases hj : j < wsub.length
    · rw [List.getElem?_range hj, List.getElem?_eq_getElem hj]
      show some ((wsub ++ R)[j]?) = some (some (xe (fun k => k) (fun i => i) wsub[j]))
      rw [List.getElem?_append_left hj, List.getElem?_eq_getElem hj, xe_same]
    · rw [List.getElem?_eq_none (by simp; omega), List.getElem?_eq_none (by omega)]
      rfl
  have h2 := Co.frame (List.range wsub.length) h hs hn (by rw [List.length_range]; omega)
  rw [xr_range, List.map_congr_left (g := id) (fun v _ => xt_same v), List.map_id] at h2
  refine h2.imp (fun r w' hq => ?_)
  obtain ⟨r0, w0, q1, q2, q3⟩ := hq
  have hr : r = r0 := by
    rw [q2]
    cases r0 with
    | none => rfl
    | some v => simp [xt_same]
  subst hr
  exact ⟨w0, q1, by rw [q3]; exact xgr_pre (hQ _ _ q1) hn⟩
abbrev rC7 (pfr plo pfa pki pmo : Nat → Int32) (ppe pch psty pwset pwfor plaw plent : Int32) (bytes tcodes tends : Nat → Int32) (tsize tat tcn tpl tok : Int32) (efr elo efa eki emo : Nat → Int32) (epe ech esty ewset ewfor elaw elent : Int32) (on was sat stood rose firsts waits till sitter names : Nat → Int32) (satOn risen : Int32) (row brow kept asked so sz : Nat → Int32) (ce : Nat → Nat → Int32) (tx : Nat → Option Nat) (T : List va_E) : List va_E :=
  (.inr (1, [.ref 8, .ref 9, .ref 10, .int ppe, .ref 11, .ref 12, .int pch, .int psty, .int pwset, .int pwfor, .int plaw, .int plent]) : va_E) ::
   iA 5 pfr ::
   iA 5 plo ::
   iA 5 pfa ::
   iA 6 pki ::
   iA 6 pmo ::
   .inr (4, [.int tsize, .int tat, .ref 14, .ref 15, .ref 16, .int tcn, .int tpl, .int tok]) ::
   iA 160 bytes ::
   iA 160 tcodes ::
   iA 3 tends ::
   .inl (2, 6, .inr (.inr (.inr (.inr tx)))) ::
   .inl (3, 4, .inr (.inr (.inr (.inr shR)))) ::
   .inr (0, [.ref 20, .ref 26, .ref 27, .ref 28, .ref 29, .ref 30, .ref 31, .ref 32, .ref 33, .ref 34, .ref 35, .int satOn, .int risen]) ::
   .inr (1, [.ref 21, .ref 22, .ref 23, .int epe, .ref 24, .ref 25, .int ech, .int esty, .int ewset, .int ewfor, .int elaw, .int elent]) ::
   iA 5 efr ::
   iA 5 elo ::
   iA 5 efa ::
   iA 6 eki ::
   iA 6 emo ::
   iA 5 on ::
   iA 5 was ::
   iA 5 sat ::
   iA 5 stood ::
   iA 5 rose ::
   iA 5 firsts ::
   zA 5 waits ::
   iA 6 till ::
   iA 6 sitter ::
   iA 6 names ::
   iA 5 row ::
   iA 5 brow ::
   iA 20 kept ::
   iA 6 asked ::
   .inr (3, [.int (so 0), .int (sz 0), .ref 41]) ::
   iA 40 (ce 0) ::
   .inr (3, [.int (so 1), .int (sz 1), .ref 43]) ::
   iA 40 (ce 1) ::
   .inr (3, [.int (so 2), .int (sz 2), .ref 45]) ::
   iA 40 (ce 2) ::
   .inr (3, [.int (so 3), .int (sz 3), .ref 47]) ::
   iA 40 (ce 3) :: T
abbrev rC13 (bytes tcodes tends : Nat → Int32) (tsize tat tcn tpl tok : Int32) (efr elo efa eki emo : Nat → Int32) (epe ech esty ewset ewfor elaw elent : Int32) (on was sat stood rose firsts waits till sitter names : Nat → Int32) (satOn risen : Int32) (row brow kept asked so sz : Nat → Int32) (ce : Nat → Nat → Int32) (tx : Nat → Option Nat) (T : List va_E) : List va_E :=
  (.inr (4, [.int tsize, .int tat, .ref 14, .ref 15, .ref 16, .int tcn, .int tpl, .int tok]) : va_E) ::
   iA 160 bytes ::
   iA 160 tcodes ::
   iA 3 tends ::
   .inl (2, 6, .inr (.inr (.inr (.inr tx)))) ::
   .inl (3, 4, .inr (.inr (.inr (.inr shR)))) ::
   .inr (0, [.ref 20, .ref 26, .ref 27, .ref 28, .ref 29, .ref 30, .ref 31, .ref 32, .ref 33, .ref 34, .ref 35, .int satOn, .int risen]) ::
   .inr (1, [.ref 21, .ref 22, .ref 23, .int epe, .ref 24, .ref 25, .int ech, .int esty, .int ewset, .int ewfor, .int elaw, .int elent]) ::
   iA 5 efr ::
   iA 5 elo ::
   iA 5 efa ::
   iA 6 eki ::
   iA 6 emo ::
   iA 5 on ::
   iA 5 was ::
   iA 5 sat ::
   iA 5 stood ::
   iA 5 rose ::
   iA 5 firsts ::
   zA 5 waits ::
   iA 6 till ::
   iA 6 sitter ::
   iA 6 names ::
   iA 5 row ::
   iA 5 brow ::
   iA 20 kept ::
   iA 6 asked ::
   .inr (3, [.int (so 0), .int (sz 0), .ref 41]) ::
   iA 40 (ce 0) ::
   .inr (3, [.int (so 1), .int (sz 1), .ref 43]) ::
   iA 40 (ce 1) ::
   .inr (3, [.int (so 2), .int (sz 2), .ref 45]) ::
   iA 40 (ce 2) ::
   .inr (3, [.int (so 3), .int (sz 3), .ref 47]) ::
   iA 40 (ce 3) :: T
abbrev rC17 (efr elo efa eki emo : Nat → Int32) (epe ech esty ewset ewfor elaw elent : Int32) (on was sat stood rose firsts waits till sitter names : Nat → Int32) (satOn risen : Int32) (row brow kept asked so sz : Nat → Int32) (ce : Nat → Nat → Int32) (tx : Nat → Option Nat) (T : List va_E) : List va_E :=
  (.inl (2, 6, .inr (.inr (.inr (.inr tx)))) : va_E) ::
   .inl (3, 4, .inr (.inr (.inr (.inr shR)))) ::
   .inr (0, [.ref 20, .ref 26, .ref 27, .ref 28, .ref 29, .ref 30, .ref 31, .ref 32, .ref 33, .ref 34, .ref 35, .int satOn, .int risen]) ::
   .inr (1, [.ref 21, .ref 22, .ref 23, .int epe, .ref 24, .ref 25, .int ech, .int esty, .int ewset, .int ewfor, .int elaw, .int elent]) ::
   iA 5 efr ::
   iA 5 elo ::
   iA 5 efa ::
   iA 6 eki ::
   iA 6 emo ::
   iA 5 on ::
   iA 5 was ::
   iA 5 sat ::
   iA 5 stood ::
   iA 5 rose ::
   iA 5 firsts ::
   zA 5 waits ::
   iA 6 till ::
   iA 6 sitter ::
   iA 6 names ::
   iA 5 row ::
   iA 5 brow ::
   iA 20 kept ::
   iA 6 asked ::
   .inr (3, [.int (so 0), .int (sz 0), .ref 41]) ::
   iA 40 (ce 0) ::
   .inr (3, [.int (so 1), .int (sz 1), .ref 43]) ::
   iA 40 (ce 1) ::
   .inr (3, [.int (so 2), .int (sz 2), .ref 45]) ::
   iA 40 (ce 2) ::
   .inr (3, [.int (so 3), .int (sz 3), .ref 47]) ::
   iA 40 (ce 3) :: T
