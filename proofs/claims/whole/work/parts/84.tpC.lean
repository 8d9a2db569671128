/-- the reader's state: where it is, where the token began, the token, the codes -/
abbrev TS : Type := Nat × Nat × Int32 × Nat × (Nat → Int32)
abbrev TS.pl (s : TS) : Nat := s.1
abbrev TS.ta (s : TS) : Nat := s.2.1
abbrev TS.tk (s : TS) : Int32 := s.2.2.1
abbrev TS.cn (s : TS) : Nat := s.2.2.2.1
abbrev TS.cd (s : TS) : Nat → Int32 := s.2.2.2.2
abbrev RD := TS → Bool × TS
abbrev wTs (B E : Nat → Int32) (N : Nat) (s : TS) : List va_E := wTp B s.cd E (nI N) (nI s.ta) (nI s.cn) (nI s.pl) s.tk
def tsK (N : Nat) (s : TS) : Prop := s.pl ≤ N ∧ s.cn ≤ 160
def lkS (B : Nat → Int32) (N : Nat) (s : TS) : TS := ⟨(lkF B N s.pl).1, (lkF B N s.pl).2.1, (lkF B N s.pl).2.2, s.cn, s.cd⟩
def emS (v : Int32) : RD := fun s => if s.cn < 160 then (true, ⟨s.pl, s.ta, s.tk, s.cn + 1, upd s.cd s.cn v⟩) else (false, s)
def psS (B : Nat → Int32) (N : Nat) (x : Int32) : RD := fun s => if s.tk = x then (true, lkS B N s) else (false, s)
def sqR (f g : RD) : RD := fun s => if (f s).1 = true then g (f s).2 else f s
def lpR (c : Int32 → Prop) [DecidablePred c] (b : Int32 → RD) : Nat → RD
  | 0, s => (true, s)
  | n + 1, s => if c s.tk then (if (b s.tk s).1 = true then lpR c b n (b s.tk s).2 else b s.tk s) else (true, s)
def bdR (B : Nat → Int32) (N : Nat) (f : RD) (v : Int32) : RD := sqR (fun s => f (lkS B N s)) (emS v)
abbrev eqT (v x : Int32) : Prop := x = v
abbrev pmT (x : Int32) : Prop := x = 10010 ∨ x = 10011
/-- one, and as often as the sign comes, one more -/
def chR (B : Nat → Int32) (N : Nat) (c : Int32 → Prop) [DecidablePred c] (f : RD) : RD := sqR f (lpR c (bdR B N f) 160)
def opR (B : Nat → Int32) (N : Nat) (lo : Option (RD × RD × RD)) : RD := fun s =>
  if 0 ≤ s.tk ∧ s.tk < 10006 then emS s.tk (lkS B N s)
  else match lo with
    | none => (false, s)
    | some l => if s.tk = 10011 then bdR B N l.1 10014 s else sqR (psS B N (-3)) (sqR l.2.2 (psS B N (-4))) s
def smR (B : Nat → Int32) (N : Nat) (o : RD) : RD := chR B N pmT (chR B N (eqT 10012) o)
def cpR (B : Nat → Int32) (N : Nat) (f : RD) : RD := fun s => if s.tk = 10008 ∨ s.tk = 10009 then bdR B N f s.tk s else (true, s)
def ntR (B : Nat → Int32) (N : Nat) (lo : Option (RD × RD × RD)) (o : RD) : RD := fun s =>
  if s.tk = 10013 then (match lo with
    | none => (false, s)
    | some l => bdR B N l.2.1 10013 s)
  else sqR (smR B N o) (cpR B N (smR B N o)) s
def eiR (B : Nat → Int32) (N : Nat) (nt : RD) : RD := chR B N (eqT 10006) (chR B N (eqT 10007) nt)
def lvR (B : Nat → Int32) (N : Nat) (lo : Option (RD × RD × RD)) : RD × RD × RD := (opR B N lo, ntR B N lo (opR B N lo), eiR B N (ntR B N lo (opR B N lo)))
/-- operand, not, E: n levels may still be opened -/
def rdL (B : Nat → Int32) (N : Nat) : Nat → RD × RD × RD
  | 0 => lvR B N none
  | n + 1 => lvR B N (some (rdL B N n))
def PrT (N : Nat) (f : RD) : Prop := ∀ s, tsK N s → tsK N (f s).2
theorem ok_lk {B : Nat → Int32} {N : Nat} {s : TS} (h : tsK N s) : tsK N (lkS B N s) := ⟨(lkF_le h.1).1, h.2⟩
theorem pr_em {N : Nat} (v : Int32) : PrT N (emS v) := by
  intro s h
  unfold emS
  split
  · next q => exact ⟨h.1, by show s.cn + 1 ≤ 160; omega⟩
  · exact h
theorem pr_ps {B : Nat → Int32} {N : Nat} (x : Int32) : PrT N (psS B N x) := by
  intro s h
  unfold psS
  split
  · exact ok_lk h
  · exact h
theorem pr_sq {N : Nat} {f g : RD} (hf : PrT N f) (hg : PrT N g) : PrT N (sqR f g) := by
  intro s h
  unfold sqR
  split
  · exact hg _ (hf s h)
  · exact hf s h
theorem pr_lp {N : Nat} {c : Int32 → Prop} [DecidablePred c] {b : Int32 → RD} (hb : ∀ x, PrT N (b x)) : ∀ n, PrT N (lpR c b n)
  | 0, s, h => h
  | n + 1, s, h => by
    simp only [lpR]
    split
    · split
      · exact pr_lp hb n _ (hb _ s h)
      · exact hb _ s h
    · exact h
theorem pr_bd {B : Nat → Int32} {N : Nat} {f : RD} (hf : PrT N f) (v : Int32) : PrT N (bdR B N f v) := pr_sq (fun s h => hf _ (ok_lk h)) (pr_em v)
theorem pr_ch {B : Nat → Int32} {N : Nat} {c : Int32 → Prop} [DecidablePred c] {f : RD} (hf : PrT N f) : PrT N (chR B N c f) := pr_sq hf (pr_lp (fun x => pr_bd hf x) 160)
theorem pr_sm {B : Nat → Int32} {N : Nat} {o : RD} (ho : PrT N o) : PrT N (smR B N o) := pr_ch (pr_ch ho)
theorem pr_cp {B : Nat → Int32} {N : Nat} {f : RD} (hf : PrT N f) : PrT N (cpR B N f) := by
  intro s h
  unfold cpR
  split
  · exact pr_bd hf _ s h
  · exact h
theorem pr_op {B : Nat → Int32} {N : Nat} {lo : Option (RD × RD × RD)} (hl : ∀ l, lo = some l → PrT N l.1 ∧ PrT N l.2.2) : PrT N (opR B N lo) := by
  intro s h
  unfold opR
  split
  · exact pr_em _ _ (ok_lk h)
  · split
    · exact h
    · next l =>
      obtain ⟨h1, h3⟩ := hl l rfl
      split
      · exact pr_bd h1 _ s h
      · exact pr_sq (pr_ps _) (pr_sq h3 (pr_ps _)) s h
theorem pr_nt {B : Nat → Int32} {N : Nat} {lo : Option (RD × RD × RD)} {o : RD} (ho : PrT N o) (hl : ∀ l, lo = some l → PrT N l.2.1) : PrT N (ntR B N lo o) := by
  intro s h
  unfold ntR
  split
  · split
    · exact h
    · next l => exact pr_bd (hl l rfl) _ s h
  · exact pr_sq (pr_sm ho) (pr_cp (pr_sm ho)) s h
theorem pr_ei {B : Nat → Int32} {N : Nat} {nt : RD} (h : PrT N nt) : PrT N (eiR B N nt) := pr_ch (pr_ch h)
theorem x_lookS (B E : Nat → Int32) (N : Nat) (s : TS) (hN : N ≤ 160) (h : tsK N s) : Co M_X5_look 6 0 0 [.ref 0] (wTs B E N s) (Qv (wTs B E N (lkS B N s))) := x_look B s.cd E (nI s.ta) (nI s.cn) s.tk N s.pl hN h.1
theorem x_emitS (B E : Nat → Int32) (N : Nat) (s : TS) (h : tsK N s) (v : Int32) : Co M_X5_emit 0 0 0 [.ref 0, .int v] (wTs B E N s) (Qi (b2i ((emS v s).1 = true)) (wTs B E N (emS v s).2)) := by
  refine (x_emit B s.cd E (nI N) (nI s.ta) (nI s.pl) s.tk s.cn h.2 v).imp (fun r w' hq => ?_)
  rcases hq with ⟨hc, rfl, rfl⟩ | ⟨hc, rfl, rfl⟩
  · rw [show emS v s = (false, s) by unfold emS; rw [if_neg (by omega)]]
    exact ⟨rfl, rfl⟩
  · rw [show emS v s = (true, ⟨s.pl, s.ta, s.tk, s.cn + 1, upd s.cd s.cn v⟩) by unfold emS; rw [if_pos hc]]
    exact ⟨rfl, rfl⟩
/-- a method of the reader does what f does -/
def Ct (N : Nat) (B : Nat → Int32) (M : XM) (D o : Nat) (f : RD) : Prop := ∀ (E : Nat → Int32) (s : TS), tsK N s → Co M D 0 0 [.ref 0, .int (nI o)] (wTs B E N s) (Qi (b2i ((f s).1 = true)) (wTs B E N (f s).2))
set_option maxHeartbeats 4000000 in
set_option maxRecDepth 100000 in
theorem x_passes (bytes tends : Nat → Int32) (N : Nat) (hN : N ≤ 160) (s : TS) (ok_s : tsK N s) (x : Int32) : Co M_X5_passes 7 0 0 [.ref 0, .int x] (wTp bytes s.cd tends (nI N) (nI s.ta) (nI s.cn) (nI s.pl) s.tk) (Qi (b2i ((psS bytes N x s).1 = true)) (wTs bytes tends N (psS bytes N x s).2)) := by
  refine Co.of ok_X5_passes rfl ?_
  refine ww_run 0 3 (pc' := 5) (lv' := [(0, .ref 0), (1, .int x)]) (st' := [.int x, .int s.tk]) (w' := wTp bytes s.cd tends (nI N) (nI s.ta) (nI s.cn) (nI s.pl) s.tk) (Ps := []) rfl trivial ?_
  refine ww_icmp_eq 3 rfl (tgt := 10) rfl (fun c1 => ?_) (fun c1 => ?_)
  · refine ww_run 6 1 (pc' := 11) (lv' := [(0, .ref 0), (1, .int x)]) (st' := [.ref 0]) (w' := wTp bytes s.cd tends (nI N) (nI s.ta) (nI s.cn) (nI s.pl) s.tk) (Ps := []) rfl trivial ?_
    refine ww_cVv 7 ok_X5_look (x_lookS bytes tends N s hN ok_s) lk_X5_37 rfl (by omega) (rest := []) rfl (Nat.le_of_ble_eq_true rfl) rfl rfl rfl rfl ?_
    have ok_s1 : tsK N (lkS bytes N s) := ok_lk ok_s
    generalize h_s1 : lkS bytes N s = s1 at ok_s1 ⊢
    refine ww_run 8 1 (pc' := 15) (lv' := [(0, .ref 0), (1, .int x)]) (st' := [.int 1]) (w' := wTp bytes s1.cd tends (nI N) (nI s1.ta) (nI s1.cn) (nI s1.pl) s1.tk) (Ps := []) rfl trivial ?_
    refine ww_zret 9 rfl rfl rfl ?_
    have hV : psS bytes N x s = (true, s1) := by unfold psS; rw [if_pos c1, h_s1]
    rw [hV]
    exact ⟨rfl, rfl⟩
  · refine ww_run 4 1 (pc' := 9) (lv' := [(0, .ref 0), (1, .int x)]) (st' := [.int 0]) (w' := wTp bytes s.cd tends (nI N) (nI s.ta) (nI s.cn) (nI s.pl) s.tk) (Ps := []) rfl trivial ?_
    refine ww_zret 5 rfl rfl rfl ?_
    have hV : psS bytes N x s = (false, s) := by unfold psS; rw [if_neg c1]
    rw [hV]
    exact ⟨rfl, rfl⟩
set_option maxHeartbeats 4000000 in
set_option maxRecDepth 100000 in
theorem ly_term {Q : Option Value → List va_E → Prop} {d : Nat} (hd : 0 ≤ d) (bytes tends : Nat → Int32) {N : Nat} (hN : N ≤ 160) (D o : Nat) (hd2 : D + 1 ≤ d) (hD : 6 ≤ D) (f : RD) (hf : Ct N bytes M_X5_isOperand D o f) (pf : PrT N f) (V : Bool × TS)  (K0 : ¬ V.1 = true → Q (some (.int 0)) (wTs bytes tends N V.2)) (K1 : V.1 = true → Q (some (.int 1)) (wTs bytes tends N V.2)) :
    ∀ (n i : Nat) (s : TS), i ≤ 160 → 160 + 1 ≤ i + n → tsK N s → lpR (eqT 10012) (bdR bytes N f) (160 - i) s = V → WW M_X5_isTerm d Q xz 12 [(0, .ref 0), (1, .int (nI o)), (2, .int (nI i))] [] (wTp bytes s.cd tends (nI N) (nI s.ta) (nI s.cn) (nI s.pl) s.tk) := by
  intro n
  induction n with
  | zero => intro i; intros; omega
  | succ n ih =>
    intro i s hi hn ok_s hv
    refine ww_run 8 2 (pc' := 16) (lv' := [(0, .ref 0), (1, .int (nI o)), (2, .int (nI i))]) (st' := [.int 160, .int (nI i)]) (w' := wTp bytes s.cd tends (nI N) (nI s.ta) (nI s.cn) (nI s.pl) s.tk) (Ps := []) rfl trivial ?_
    refine ww_icmp_ge 10 rfl (tgt := 59) rfl (fun c1 => ?_) (fun c1 => ?_)
    · have c1 : 160 ≤ i := (nI_leI (a := 160) (b := i) (by omega) (by omega)).mp c1
      refine ww_run 29 1 (pc' := 60) (lv' := [(0, .ref 0), (1, .int (nI o)), (2, .int (nI i))]) (st' := [.int 1]) (w' := wTp bytes s.cd tends (nI N) (nI s.ta) (nI s.cn) (nI s.pl) s.tk) (Ps := []) rfl trivial ?_
      refine ww_zret 30 rfl rfl rfl ?_
      rw [show 160 - i = 0 by omega] at hv
      simp only [lpR] at hv
      subst hv
      exact K1 rfl
    · have c1 : ¬ 160 ≤ i := fun q => c1 ((nI_leI (a := 160) (b := i) (by omega) (by omega)).mpr q)
      refine ww_run 11 3 (pc' := 26) (lv' := [(0, .ref 0), (1, .int (nI o)), (2, .int (nI i))]) (st' := [.int 10012, .int s.tk]) (w' := wTp bytes s.cd tends (nI N) (nI s.ta) (nI s.cn) (nI s.pl) s.tk) (Ps := []) rfl trivial ?_
      refine ww_icmp_ne 14 rfl (tgt := 59) rfl (fun c2 => ?_) (fun c2 => ?_)
      · refine ww_run 29 1 (pc' := 60) (lv' := [(0, .ref 0), (1, .int (nI o)), (2, .int (nI i))]) (st' := [.int 1]) (w' := wTp bytes s.cd tends (nI N) (nI s.ta) (nI s.cn) (nI s.pl) s.tk) (Ps := []) rfl trivial ?_
        refine ww_zret 30 rfl rfl rfl ?_
        rw [show 160 - i = (160 - (i + 1)) + 1 by omega] at hv
        simp only [lpR] at hv
        rw [if_neg (c := eqT 10012 s.tk) c2] at hv
        subst hv
        exact K1 rfl
      · refine ww_run 15 1 (pc' := 30) (lv' := [(0, .ref 0), (1, .int (nI o)), (2, .int (nI i))]) (st' := [.ref 0]) (w' := wTp bytes s.cd tends (nI N) (nI s.ta) (nI s.cn) (nI s.pl) s.tk) (Ps := []) rfl trivial ?_
        refine ww_cVv 16 ok_X5_look (x_lookS bytes tends N s hN ok_s) lk_X5_37 rfl (by omega) (rest := []) rfl (Nat.le_of_ble_eq_true rfl) rfl rfl rfl rfl ?_
        have ok_s1 : tsK N (lkS bytes N s) := ok_lk ok_s
        generalize h_s1 : lkS bytes N s = s1 at ok_s1 ⊢
        refine ww_run 17 2 (pc' := 35) (lv' := [(0, .ref 0), (1, .int (nI o)), (2, .int (nI i))]) (st' := [.int (nI o), .ref 0]) (w' := wTp bytes s1.cd tends (nI N) (nI s1.ta) (nI s1.cn) (nI s1.pl) s1.tk) (Ps := []) rfl trivial ?_
        refine ww_cVi 19 ok_X5_isOperand (hf tends s1 ok_s1) lk_X5_73 rfl (by omega) (rest := []) rfl (Nat.le_of_ble_eq_true rfl) rfl rfl rfl rfl ?_
        have ok_r2 : tsK N (f s1).2 := pf s1 ok_s1
        generalize h_r2 : f s1 = r2 at ok_r2 ⊢
        refine ww_if_eq 20 rfl (tgt := 51) rfl (fun c3 => ?_) (fun c3 => ?_)
        · rw [b2i_eq0] at c3
          refine ww_run 25 1 (pc' := 52) (lv' := [(0, .ref 0), (1, .int (nI o)), (2, .int (nI i))]) (st' := [.int 0]) (w' := wTp bytes r2.2.cd tends (nI N) (nI r2.2.ta) (nI r2.2.cn) (nI r2.2.pl) r2.2.tk) (Ps := []) rfl trivial ?_
          refine ww_zret 26 rfl rfl rfl ?_
          rw [show 160 - i = (160 - (i + 1)) + 1 by omega] at hv
          simp only [lpR] at hv
          rw [if_pos (c := eqT 10012 s.tk) c2] at hv
          have hb : bdR bytes N f s.tk s = r2 := by rw [show s.tk = 10012 from c2]; show (if (f (lkS bytes N s)).1 = true then emS 10012 (f (lkS bytes N s)).2 else f (lkS bytes N s)) = r2; rw [h_s1, h_r2, if_neg c3]
          rw [hb, if_neg c3] at hv
          subst hv
          exact K0 c3
        · rw [b2i_ne0] at c3
          refine ww_run 21 2 (pc' := 45) (lv' := [(0, .ref 0), (1, .int (nI o)), (2, .int (nI i))]) (st' := [.int 10012, .ref 0]) (w' := wTp bytes r2.2.cd tends (nI N) (nI r2.2.ta) (nI r2.2.cn) (nI r2.2.pl) r2.2.tk) (Ps := []) rfl trivial ?_
          refine ww_cVi 23 ok_X5_emit (x_emitS bytes tends N r2.2 ok_r2 10012) lk_X5_61 rfl (by omega) (rest := []) rfl (Nat.le_of_ble_eq_true rfl) rfl rfl rfl rfl ?_
          have ok_r3 : tsK N (emS 10012 r2.2).2 := pr_em 10012 r2.2 ok_r2
          generalize h_r3 : emS 10012 r2.2 = r3 at ok_r3 ⊢
          refine ww_if_ne 24 rfl (tgt := 53) rfl (fun c4 => ?_) (fun c4 => ?_)
          · rw [b2i_ne0] at c4
            refine ww_run 27 2 (pc' := 12) (lv' := [(2, .int ((nI i) + 1)), (0, .ref 0), (1, .int (nI o))]) (st' := []) (w' := wTp bytes r3.2.cd tends (nI N) (nI r3.2.ta) (nI r3.2.cn) (nI r3.2.pl) r3.2.tk) (Ps := []) rfl trivial ?_
            rw [nI_1 i]
            refine ww_lv [1, 2, 0] (lv' := [(0, .ref 0), (1, .int (nI o)), (2, .int (nI (i + 1)))]) rfl ?_
            refine ih (i + 1) r3.2 (by omega) (by omega) ok_r3 ?_
            rw [show 160 - i = (160 - (i + 1)) + 1 by omega] at hv
            simp only [lpR] at hv
            rw [if_pos (c := eqT 10012 s.tk) c2] at hv
            have hb : bdR bytes N f s.tk s = r3 := by rw [show s.tk = 10012 from c2]; show (if (f (lkS bytes N s)).1 = true then emS 10012 (f (lkS bytes N s)).2 else f (lkS bytes N s)) = r3; rw [h_s1, h_r2, if_pos c3, h_r3]
            rw [hb, if_pos c4] at hv
            exact hv
          · rw [b2i_eq0] at c4
            refine ww_run 25 1 (pc' := 52) (lv' := [(0, .ref 0), (1, .int (nI o)), (2, .int (nI i))]) (st' := [.int 0]) (w' := wTp bytes r3.2.cd tends (nI N) (nI r3.2.ta) (nI r3.2.cn) (nI r3.2.pl) r3.2.tk) (Ps := []) rfl trivial ?_
            refine ww_zret 26 rfl rfl rfl ?_
            rw [show 160 - i = (160 - (i + 1)) + 1 by omega] at hv
            simp only [lpR] at hv
            rw [if_pos (c := eqT 10012 s.tk) c2] at hv
            have hb : bdR bytes N f s.tk s = r3 := by rw [show s.tk = 10012 from c2]; show (if (f (lkS bytes N s)).1 = true then emS 10012 (f (lkS bytes N s)).2 else f (lkS bytes N s)) = r3; rw [h_s1, h_r2, if_pos c3, h_r3]
            rw [hb, if_neg c4] at hv
            subst hv
            exact K0 c4
set_option maxHeartbeats 4000000 in
set_option maxRecDepth 100000 in
theorem x_term {N : Nat} (hN : N ≤ 160) {bytes : Nat → Int32} {D o : Nat} (hD : 6 ≤ D) (f : RD) (hf : Ct N bytes M_X5_isOperand D o f) (pf : PrT N f) : Ct N bytes M_X5_isTerm (D + 1) o (chR bytes N (eqT 10012) f) := by
  intro tends s ok_s
  refine Co.of ok_X5_isTerm rfl ?_
  refine ww_run 0 2 (pc' := 2) (lv' := [(0, .ref 0), (1, .int (nI o))]) (st' := [.int (nI o), .ref 0]) (w' := wTp bytes s.cd tends (nI N) (nI s.ta) (nI s.cn) (nI s.pl) s.tk) (Ps := []) rfl trivial ?_
  refine ww_cVi 2 ok_X5_isOperand (hf tends s ok_s) lk_X5_73 rfl (by omega) (rest := []) rfl (Nat.le_of_ble_eq_true rfl) rfl rfl rfl rfl ?_
  have ok_r1 : tsK N (f s).2 := pf s ok_s
  generalize h_r1 : f s = r1 at ok_r1 ⊢
  refine ww_if_ne 3 rfl (tgt := 10) rfl (fun c1 => ?_) (fun c1 => ?_)
  · rw [b2i_ne0] at c1
    refine ww_run 6 2 (pc' := 12) (lv' := [(2, .int 0), (0, .ref 0), (1, .int (nI o))]) (st' := []) (w' := wTp bytes r1.2.cd tends (nI N) (nI r1.2.ta) (nI r1.2.cn) (nI r1.2.pl) r1.2.tk) (Ps := []) rfl trivial ?_
    refine ww_lv [1, 2, 0] (lv' := [(0, .ref 0), (1, .int (nI o)), (2, .int 0)]) rfl ?_
    have hV : chR bytes N (eqT 10012) f s = lpR (eqT 10012) (bdR bytes N f) 160 r1.2 := by show (if (f s).1 = true then _ else _) = _; rw [h_r1, if_pos c1]
    rw [hV]
    generalize hv : lpR (eqT 10012) (bdR bytes N f) 160 r1.2 = V
    exact ly_term (by omega) bytes tends hN D o (Nat.le_refl _) hD f hf pf V (fun q => ⟨by rw [b2i_f q], rfl⟩) (fun q => ⟨by rw [b2i_t q], rfl⟩) 161 0 r1.2 (by omega) (by omega) ok_r1 hv
  · rw [b2i_eq0] at c1
    refine ww_run 4 1 (pc' := 9) (lv' := [(0, .ref 0), (1, .int (nI o))]) (st' := [.int 0]) (w' := wTp bytes r1.2.cd tends (nI N) (nI r1.2.ta) (nI r1.2.cn) (nI r1.2.pl) r1.2.tk) (Ps := []) rfl trivial ?_
    refine ww_zret 5 rfl rfl rfl ?_
    have hV : chR bytes N (eqT 10012) f s = r1 := by show (if (f s).1 = true then _ else _) = _; rw [h_r1, if_neg c1]
    rw [hV]
    exact ⟨by rw [b2i_f c1], rfl⟩
set_option maxHeartbeats 4000000 in
set_option maxRecDepth 100000 in
theorem ly_sum {Q : Option Value → List va_E → Prop} {d : Nat} (hd : 0 ≤ d) (bytes tends : Nat → Int32) {N : Nat} (hN : N ≤ 160) (D o : Nat) (hd2 : D + 1 ≤ d) (hD : 6 ≤ D) (f : RD) (hf : Ct N bytes M_X5_isTerm D o f) (pf : PrT N f) (V : Bool × TS)  (K0 : ¬ V.1 = true → Q (some (.int 0)) (wTs bytes tends N V.2)) (K1 : V.1 = true → Q (some (.int 1)) (wTs bytes tends N V.2)) :
    ∀ (n i : Nat) (s : TS), i ≤ 160 → 160 + 1 ≤ i + n → tsK N s → lpR (pmT) (bdR bytes N f) (160 - i) s = V → WW M_X5_isSum d Q xz 12 [(0, .ref 0), (1, .int (nI o)), (2, .int (nI i))] [] (wTp bytes s.cd tends (nI N) (nI s.ta) (nI s.cn) (nI s.pl) s.tk) := by
  intro n
  induction n with
  | zero => intro i; intros; omega
  | succ n ih =>
    intro i s hi hn ok_s hv
    refine ww_run 8 2 (pc' := 16) (lv' := [(0, .ref 0), (1, .int (nI o)), (2, .int (nI i))]) (st' := [.int 160, .int (nI i)]) (w' := wTp bytes s.cd tends (nI N) (nI s.ta) (nI s.cn) (nI s.pl) s.tk) (Ps := []) rfl trivial ?_
    refine ww_icmp_ge 10 rfl (tgt := 72) rfl (fun c1 => ?_) (fun c1 => ?_)
    · have c1 : 160 ≤ i := (nI_leI (a := 160) (b := i) (by omega) (by omega)).mp c1
      refine ww_run 36 1 (pc' := 73) (lv' := [(0, .ref 0), (1, .int (nI o)), (2, .int (nI i))]) (st' := [.int 1]) (w' := wTp bytes s.cd tends (nI N) (nI s.ta) (nI s.cn) (nI s.pl) s.tk) (Ps := []) rfl trivial ?_
      refine ww_zret 37 rfl rfl rfl ?_
      rw [show 160 - i = 0 by omega] at hv
      simp only [lpR] at hv
      subst hv
      exact K1 rfl
    · have c1 : ¬ 160 ≤ i := fun q => c1 ((nI_leI (a := 160) (b := i) (by omega) (by omega)).mpr q)
      refine ww_run 11 3 (pc' := 26) (lv' := [(0, .ref 0), (1, .int (nI o)), (2, .int (nI i))]) (st' := [.int 10010, .int s.tk]) (w' := wTp bytes s.cd tends (nI N) (nI s.ta) (nI s.cn) (nI s.pl) s.tk) (Ps := []) rfl trivial ?_
      refine ww_icmp_eq 14 rfl (tgt := 39) rfl (fun c2 => ?_) (fun c2 => ?_)
      · refine ww_run 19 4 (pc' := 45) (lv' := [(3, .int s.tk), (0, .ref 0), (1, .int (nI o)), (2, .int (nI i))]) (st' := [.ref 0]) (w' := wTp bytes s.cd tends (nI N) (nI s.ta) (nI s.cn) (nI s.pl) s.tk) (Ps := []) rfl trivial ?_
        refine ww_cVv 23 ok_X5_look (x_lookS bytes tends N s hN ok_s) lk_X5_37 rfl (by omega) (rest := []) rfl (Nat.le_of_ble_eq_true rfl) rfl rfl rfl rfl ?_
        have ok_s1 : tsK N (lkS bytes N s) := ok_lk ok_s
        generalize h_s1 : lkS bytes N s = s1 at ok_s1 ⊢
        refine ww_run 24 2 (pc' := 50) (lv' := [(3, .int s.tk), (0, .ref 0), (1, .int (nI o)), (2, .int (nI i))]) (st' := [.int (nI o), .ref 0]) (w' := wTp bytes s1.cd tends (nI N) (nI s1.ta) (nI s1.cn) (nI s1.pl) s1.tk) (Ps := []) rfl trivial ?_
        refine ww_cVi 26 ok_X5_isTerm (hf tends s1 ok_s1) lk_X5_70 rfl (by omega) (rest := []) rfl (Nat.le_of_ble_eq_true rfl) rfl rfl rfl rfl ?_
        have ok_r2 : tsK N (f s1).2 := pf s1 ok_s1
        generalize h_r2 : f s1 = r2 at ok_r2 ⊢
        refine ww_if_eq 27 rfl (tgt := 64) rfl (fun c3 => ?_) (fun c3 => ?_)
        · rw [b2i_eq0] at c3
          refine ww_run 32 1 (pc' := 65) (lv' := [(3, .int s.tk), (0, .ref 0), (1, .int (nI o)), (2, .int (nI i))]) (st' := [.int 0]) (w' := wTp bytes r2.2.cd tends (nI N) (nI r2.2.ta) (nI r2.2.cn) (nI r2.2.pl) r2.2.tk) (Ps := []) rfl trivial ?_
          refine ww_zret 33 rfl rfl rfl ?_
          rw [show 160 - i = (160 - (i + 1)) + 1 by omega] at hv
          simp only [lpR] at hv
          rw [if_pos (c := pmT s.tk) (Or.inl c2)] at hv
          have hb : bdR bytes N f s.tk s = r2 := by show (if (f (lkS bytes N s)).1 = true then emS s.tk (f (lkS bytes N s)).2 else f (lkS bytes N s)) = r2; rw [h_s1, h_r2, if_neg c3]
          rw [hb, if_neg c3] at hv
          subst hv
          exact K0 c3
        · rw [b2i_ne0] at c3
          refine ww_run 28 2 (pc' := 58) (lv' := [(3, .int s.tk), (0, .ref 0), (1, .int (nI o)), (2, .int (nI i))]) (st' := [.int s.tk, .ref 0]) (w' := wTp bytes r2.2.cd tends (nI N) (nI r2.2.ta) (nI r2.2.cn) (nI r2.2.pl) r2.2.tk) (Ps := []) rfl trivial ?_
          refine ww_cVi 30 ok_X5_emit (x_emitS bytes tends N r2.2 ok_r2 s.tk) lk_X5_61 rfl (by omega) (rest := []) rfl (Nat.le_of_ble_eq_true rfl) rfl rfl rfl rfl ?_
          have ok_r3 : tsK N (emS s.tk r2.2).2 := pr_em s.tk r2.2 ok_r2
          generalize h_r3 : emS s.tk r2.2 = r3 at ok_r3 ⊢
          refine ww_if_ne 31 rfl (tgt := 66) rfl (fun c4 => ?_) (fun c4 => ?_)
          · rw [b2i_ne0] at c4
            refine ww_run 34 2 (pc' := 12) (lv' := [(2, .int ((nI i) + 1)), (3, .int s.tk), (0, .ref 0), (1, .int (nI o))]) (st' := []) (w' := wTp bytes r3.2.cd tends (nI N) (nI r3.2.ta) (nI r3.2.cn) (nI r3.2.pl) r3.2.tk) (Ps := []) rfl trivial ?_
            rw [nI_1 i]
            refine ww_lv [2, 3, 0] (lv' := [(0, .ref 0), (1, .int (nI o)), (2, .int (nI (i + 1)))]) rfl ?_
            refine ih (i + 1) r3.2 (by omega) (by omega) ok_r3 ?_
            rw [show 160 - i = (160 - (i + 1)) + 1 by omega] at hv
            simp only [lpR] at hv
            rw [if_pos (c := pmT s.tk) (Or.inl c2)] at hv
            have hb : bdR bytes N f s.tk s = r3 := by show (if (f (lkS bytes N s)).1 = true then emS s.tk (f (lkS bytes N s)).2 else f (lkS bytes N s)) = r3; rw [h_s1, h_r2, if_pos c3, h_r3]
            rw [hb, if_pos c4] at hv
            exact hv
          · rw [b2i_eq0] at c4
            refine ww_run 32 1 (pc' := 65) (lv' := [(3, .int s.tk), (0, .ref 0), (1, .int (nI o)), (2, .int (nI i))]) (st' := [.int 0]) (w' := wTp bytes r3.2.cd tends (nI N) (nI r3.2.ta) (nI r3.2.cn) (nI r3.2.pl) r3.2.tk) (Ps := []) rfl trivial ?_
            refine ww_zret 33 rfl rfl rfl ?_
            rw [show 160 - i = (160 - (i + 1)) + 1 by omega] at hv
            simp only [lpR] at hv
            rw [if_pos (c := pmT s.tk) (Or.inl c2)] at hv
            have hb : bdR bytes N f s.tk s = r3 := by show (if (f (lkS bytes N s)).1 = true then emS s.tk (f (lkS bytes N s)).2 else f (lkS bytes N s)) = r3; rw [h_s1, h_r2, if_pos c3, h_r3]
            rw [hb, if_neg c4] at hv
            subst hv
            exact K0 c4
      · refine ww_run 15 3 (pc' := 36) (lv' := [(0, .ref 0), (1, .int (nI o)), (2, .int (nI i))]) (st' := [.int 10011, .int s.tk]) (w' := wTp bytes s.cd tends (nI N) (nI s.ta) (nI s.cn) (nI s.pl) s.tk) (Ps := []) rfl trivial ?_
        refine ww_icmp_ne 18 rfl (tgt := 72) rfl (fun c5 => ?_) (fun c5 => ?_)
        · refine ww_run 36 1 (pc' := 73) (lv' := [(0, .ref 0), (1, .int (nI o)), (2, .int (nI i))]) (st' := [.int 1]) (w' := wTp bytes s.cd tends (nI N) (nI s.ta) (nI s.cn) (nI s.pl) s.tk) (Ps := []) rfl trivial ?_
          refine ww_zret 37 rfl rfl rfl ?_
          rw [show 160 - i = (160 - (i + 1)) + 1 by omega] at hv
          simp only [lpR] at hv
          rw [if_neg (c := pmT s.tk) (fun q => q.elim c2 c5)] at hv
          subst hv
          exact K1 rfl
        · refine ww_run 19 4 (pc' := 45) (lv' := [(3, .int s.tk), (0, .ref 0), (1, .int (nI o)), (2, .int (nI i))]) (st' := [.ref 0]) (w' := wTp bytes s.cd tends (nI N) (nI s.ta) (nI s.cn) (nI s.pl) s.tk) (Ps := []) rfl trivial ?_
          refine ww_cVv 23 ok_X5_look (x_lookS bytes tends N s hN ok_s) lk_X5_37 rfl (by omega) (rest := []) rfl (Nat.le_of_ble_eq_true rfl) rfl rfl rfl rfl ?_
          have ok_s1 : tsK N (lkS bytes N s) := ok_lk ok_s
          generalize h_s1 : lkS bytes N s = s1 at ok_s1 ⊢
          refine ww_run 24 2 (pc' := 50) (lv' := [(3, .int s.tk), (0, .ref 0), (1, .int (nI o)), (2, .int (nI i))]) (st' := [.int (nI o), .ref 0]) (w' := wTp bytes s1.cd tends (nI N) (nI s1.ta) (nI s1.cn) (nI s1.pl) s1.tk) (Ps := []) rfl trivial ?_
          refine ww_cVi 26 ok_X5_isTerm (hf tends s1 ok_s1) lk_X5_70 rfl (by omega) (rest := []) rfl (Nat.le_of_ble_eq_true rfl) rfl rfl rfl rfl ?_
          have ok_r2 : tsK N (f s1).2 := pf s1 ok_s1
          generalize h_r2 : f s1 = r2 at ok_r2 ⊢
          refine ww_if_eq 27 rfl (tgt := 64) rfl (fun c6 => ?_) (fun c6 => ?_)
          · rw [b2i_eq0] at c6
            refine ww_run 32 1 (pc' := 65) (lv' := [(3, .int s.tk), (0, .ref 0), (1, .int (nI o)), (2, .int (nI i))]) (st' := [.int 0]) (w' := wTp bytes r2.2.cd tends (nI N) (nI r2.2.ta) (nI r2.2.cn) (nI r2.2.pl) r2.2.tk) (Ps := []) rfl trivial ?_
            refine ww_zret 33 rfl rfl rfl ?_
            rw [show 160 - i = (160 - (i + 1)) + 1 by omega] at hv
            simp only [lpR] at hv
            rw [if_pos (c := pmT s.tk) (Or.inr c5)] at hv
            have hb : bdR bytes N f s.tk s = r2 := by show (if (f (lkS bytes N s)).1 = true then emS s.tk (f (lkS bytes N s)).2 else f (lkS bytes N s)) = r2; rw [h_s1, h_r2, if_neg c6]
            rw [hb, if_neg c6] at hv
            subst hv
            exact K0 c6
          · rw [b2i_ne0] at c6
            refine ww_run 28 2 (pc' := 58) (lv' := [(3, .int s.tk), (0, .ref 0), (1, .int (nI o)), (2, .int (nI i))]) (st' := [.int s.tk, .ref 0]) (w' := wTp bytes r2.2.cd tends (nI N) (nI r2.2.ta) (nI r2.2.cn) (nI r2.2.pl) r2.2.tk) (Ps := []) rfl trivial ?_
            refine ww_cVi 30 ok_X5_emit (x_emitS bytes tends N r2.2 ok_r2 s.tk) lk_X5_61 rfl (by omega) (rest := []) rfl (Nat.le_of_ble_eq_true rfl) rfl rfl rfl rfl ?_
            have ok_r3 : tsK N (emS s.tk r2.2).2 := pr_em s.tk r2.2 ok_r2
            generalize h_r3 : emS s.tk r2.2 = r3 at ok_r3 ⊢
            refine ww_if_ne 31 rfl (tgt := 66) rfl (fun c7 => ?_) (fun c7 => ?_)
            · rw [b2i_ne0] at c7
              refine ww_run 34 2 (pc' := 12) (lv' := [(2, .int ((nI i) + 1)), (3, .int s.tk), (0, .ref 0), (1, .int (nI o))]) (st' := []) (w' := wTp bytes r3.2.cd tends (nI N) (nI r3.2.ta) (nI r3.2.cn) (nI r3.2.pl) r3.2.tk) (Ps := []) rfl trivial ?_
              rw [nI_1 i]
              refine ww_lv [2, 3, 0] (lv' := [(0, .ref 0), (1, .int (nI o)), (2, .int (nI (i + 1)))]) rfl ?_
              refine ih (i + 1) r3.2 (by omega) (by omega) ok_r3 ?_
              rw [show 160 - i = (160 - (i + 1)) + 1 by omega] at hv
              simp only [lpR] at hv
              rw [if_pos (c := pmT s.tk) (Or.inr c5)] at hv
              have hb : bdR bytes N f s.tk s = r3 := by show (if (f (lkS bytes N s)).1 = true then emS s.tk (f (lkS bytes N s)).2 else f (lkS bytes N s)) = r3; rw [h_s1, h_r2, if_pos c6, h_r3]
              rw [hb, if_pos c7] at hv
              exact hv
            · rw [b2i_eq0] at c7
              refine ww_run 32 1 (pc' := 65) (lv' := [(3, .int s.tk), (0, .ref 0), (1, .int (nI o)), (2, .int (nI i))]) (st' := [.int 0]) (w' := wTp bytes r3.2.cd tends (nI N) (nI r3.2.ta) (nI r3.2.cn) (nI r3.2.pl) r3.2.tk) (Ps := []) rfl trivial ?_
              refine ww_zret 33 rfl rfl rfl ?_
              rw [show 160 - i = (160 - (i + 1)) + 1 by omega] at hv
              simp only [lpR] at hv
              rw [if_pos (c := pmT s.tk) (Or.inr c5)] at hv
              have hb : bdR bytes N f s.tk s = r3 := by show (if (f (lkS bytes N s)).1 = true then emS s.tk (f (lkS bytes N s)).2 else f (lkS bytes N s)) = r3; rw [h_s1, h_r2, if_pos c6, h_r3]
              rw [hb, if_neg c7] at hv
              subst hv
              exact K0 c7
set_option maxHeartbeats 4000000 in
set_option maxRecDepth 100000 in
theorem x_sum {N : Nat} (hN : N ≤ 160) {bytes : Nat → Int32} {D o : Nat} (hD : 6 ≤ D) (f : RD) (hf : Ct N bytes M_X5_isTerm D o f) (pf : PrT N f) : Ct N bytes M_X5_isSum (D + 1) o (chR bytes N (pmT) f) := by
  intro tends s ok_s
  refine Co.of ok_X5_isSum rfl ?_
  refine ww_run 0 2 (pc' := 2) (lv' := [(0, .ref 0), (1, .int (nI o))]) (st' := [.int (nI o), .ref 0]) (w' := wTp bytes s.cd tends (nI N) (nI s.ta) (nI s.cn) (nI s.pl) s.tk) (Ps := []) rfl trivial ?_
  refine ww_cVi 2 ok_X5_isTerm (hf tends s ok_s) lk_X5_70 rfl (by omega) (rest := []) rfl (Nat.le_of_ble_eq_true rfl) rfl rfl rfl rfl ?_
  have ok_r1 : tsK N (f s).2 := pf s ok_s
  generalize h_r1 : f s = r1 at ok_r1 ⊢
  refine ww_if_ne 3 rfl (tgt := 10) rfl (fun c1 => ?_) (fun c1 => ?_)
  · rw [b2i_ne0] at c1
    refine ww_run 6 2 (pc' := 12) (lv' := [(2, .int 0), (0, .ref 0), (1, .int (nI o))]) (st' := []) (w' := wTp bytes r1.2.cd tends (nI N) (nI r1.2.ta) (nI r1.2.cn) (nI r1.2.pl) r1.2.tk) (Ps := []) rfl trivial ?_
    refine ww_lv [1, 2, 0] (lv' := [(0, .ref 0), (1, .int (nI o)), (2, .int 0)]) rfl ?_
    have hV : chR bytes N (pmT) f s = lpR (pmT) (bdR bytes N f) 160 r1.2 := by show (if (f s).1 = true then _ else _) = _; rw [h_r1, if_pos c1]
    rw [hV]
    generalize hv : lpR (pmT) (bdR bytes N f) 160 r1.2 = V
    exact ly_sum (by omega) bytes tends hN D o (Nat.le_refl _) hD f hf pf V (fun q => ⟨by rw [b2i_f q], rfl⟩) (fun q => ⟨by rw [b2i_t q], rfl⟩) 161 0 r1.2 (by omega) (by omega) ok_r1 hv
  · rw [b2i_eq0] at c1
    refine ww_run 4 1 (pc' := 9) (lv' := [(0, .ref 0), (1, .int (nI o))]) (st' := [.int 0]) (w' := wTp bytes r1.2.cd tends (nI N) (nI r1.2.ta) (nI r1.2.cn) (nI r1.2.pl) r1.2.tk) (Ps := []) rfl trivial ?_
    refine ww_zret 5 rfl rfl rfl ?_
    have hV : chR bytes N (pmT) f s = r1 := by show (if (f s).1 = true then _ else _) = _; rw [h_r1, if_neg c1]
    rw [hV]
    exact ⟨by rw [b2i_f c1], rfl⟩
set_option maxHeartbeats 4000000 in
set_option maxRecDepth 100000 in
theorem ly_both {Q : Option Value → List va_E → Prop} {d : Nat} (hd : 0 ≤ d) (bytes tends : Nat → Int32) {N : Nat} (hN : N ≤ 160) (D o : Nat) (hd2 : D + 1 ≤ d) (hD : 6 ≤ D) (f : RD) (hf : Ct N bytes M_X5_isNot D o f) (pf : PrT N f) (V : Bool × TS)  (K0 : ¬ V.1 = true → Q (some (.int 0)) (wTs bytes tends N V.2)) (K1 : V.1 = true → Q (some (.int 1)) (wTs bytes tends N V.2)) :
    ∀ (n i : Nat) (s : TS), i ≤ 160 → 160 + 1 ≤ i + n → tsK N s → lpR (eqT 10007) (bdR bytes N f) (160 - i) s = V → WW M_X5_isBoth d Q xz 12 [(0, .ref 0), (1, .int (nI o)), (2, .int (nI i))] [] (wTp bytes s.cd tends (nI N) (nI s.ta) (nI s.cn) (nI s.pl) s.tk) := by
  intro n
  induction n with
  | zero => intro i; intros; omega
  | succ n ih =>
    intro i s hi hn ok_s hv
    refine ww_run 8 2 (pc' := 16) (lv' := [(0, .ref 0), (1, .int (nI o)), (2, .int (nI i))]) (st' := [.int 160, .int (nI i)]) (w' := wTp bytes s.cd tends (nI N) (nI s.ta) (nI s.cn) (nI s.pl) s.tk) (Ps := []) rfl trivial ?_
    refine ww_icmp_ge 10 rfl (tgt := 59) rfl (fun c1 => ?_) (fun c1 => ?_)
    · have c1 : 160 ≤ i := (nI_leI (a := 160) (b := i) (by omega) (by omega)).mp c1
      refine ww_run 29 1 (pc' := 60) (lv' := [(0, .ref 0), (1, .int (nI o)), (2, .int (nI i))]) (st' := [.int 1]) (w' := wTp bytes s.cd tends (nI N) (nI s.ta) (nI s.cn) (nI s.pl) s.tk) (Ps := []) rfl trivial ?_
      refine ww_zret 30 rfl rfl rfl ?_
      rw [show 160 - i = 0 by omega] at hv
      simp only [lpR] at hv
      subst hv
      exact K1 rfl
    · have c1 : ¬ 160 ≤ i := fun q => c1 ((nI_leI (a := 160) (b := i) (by omega) (by omega)).mpr q)
      refine ww_run 11 3 (pc' := 26) (lv' := [(0, .ref 0), (1, .int (nI o)), (2, .int (nI i))]) (st' := [.int 10007, .int s.tk]) (w' := wTp bytes s.cd tends (nI N) (nI s.ta) (nI s.cn) (nI s.pl) s.tk) (Ps := []) rfl trivial ?_
      refine ww_icmp_ne 14 rfl (tgt := 59) rfl (fun c2 => ?_) (fun c2 => ?_)
      · refine ww_run 29 1 (pc' := 60) (lv' := [(0, .ref 0), (1, .int (nI o)), (2, .int (nI i))]) (st' := [.int 1]) (w' := wTp bytes s.cd tends (nI N) (nI s.ta) (nI s.cn) (nI s.pl) s.tk) (Ps := []) rfl trivial ?_
        refine ww_zret 30 rfl rfl rfl ?_
        rw [show 160 - i = (160 - (i + 1)) + 1 by omega] at hv
        simp only [lpR] at hv
        rw [if_neg (c := eqT 10007 s.tk) c2] at hv
        subst hv
        exact K1 rfl
      · refine ww_run 15 1 (pc' := 30) (lv' := [(0, .ref 0), (1, .int (nI o)), (2, .int (nI i))]) (st' := [.ref 0]) (w' := wTp bytes s.cd tends (nI N) (nI s.ta) (nI s.cn) (nI s.pl) s.tk) (Ps := []) rfl trivial ?_
        refine ww_cVv 16 ok_X5_look (x_lookS bytes tends N s hN ok_s) lk_X5_37 rfl (by omega) (rest := []) rfl (Nat.le_of_ble_eq_true rfl) rfl rfl rfl rfl ?_
        have ok_s1 : tsK N (lkS bytes N s) := ok_lk ok_s
        generalize h_s1 : lkS bytes N s = s1 at ok_s1 ⊢
        refine ww_run 17 2 (pc' := 35) (lv' := [(0, .ref 0), (1, .int (nI o)), (2, .int (nI i))]) (st' := [.int (nI o), .ref 0]) (w' := wTp bytes s1.cd tends (nI N) (nI s1.ta) (nI s1.cn) (nI s1.pl) s1.tk) (Ps := []) rfl trivial ?_
        refine ww_cVi 19 ok_X5_isNot (hf tends s1 ok_s1) lk_X5_64 rfl (by omega) (rest := []) rfl (Nat.le_of_ble_eq_true rfl) rfl rfl rfl rfl ?_
        have ok_r2 : tsK N (f s1).2 := pf s1 ok_s1
        generalize h_r2 : f s1 = r2 at ok_r2 ⊢
        refine ww_if_eq 20 rfl (tgt := 51) rfl (fun c3 => ?_) (fun c3 => ?_)
        · rw [b2i_eq0] at c3
          refine ww_run 25 1 (pc' := 52) (lv' := [(0, .ref 0), (1, .int (nI o)), (2, .int (nI i))]) (st' := [.int 0]) (w' := wTp bytes r2.2.cd tends (nI N) (nI r2.2.ta) (nI r2.2.cn) (nI r2.2.pl) r2.2.tk) (Ps := []) rfl trivial ?_
          refine ww_zret 26 rfl rfl rfl ?_
          rw [show 160 - i = (160 - (i + 1)) + 1 by omega] at hv
          simp only [lpR] at hv
          rw [if_pos (c := eqT 10007 s.tk) c2] at hv
          have hb : bdR bytes N f s.tk s = r2 := by rw [show s.tk = 10007 from c2]; show (if (f (lkS bytes N s)).1 = true then emS 10007 (f (lkS bytes N s)).2 else f (lkS bytes N s)) = r2; rw [h_s1, h_r2, if_neg c3]
          rw [hb, if_neg c3] at hv
          subst hv
          exact K0 c3
        · rw [b2i_ne0] at c3
          refine ww_run 21 2 (pc' := 45) (lv' := [(0, .ref 0), (1, .int (nI o)), (2, .int (nI i))]) (st' := [.int 10007, .ref 0]) (w' := wTp bytes r2.2.cd tends (nI N) (nI r2.2.ta) (nI r2.2.cn) (nI r2.2.pl) r2.2.tk) (Ps := []) rfl trivial ?_
          refine ww_cVi 23 ok_X5_emit (x_emitS bytes tends N r2.2 ok_r2 10007) lk_X5_61 rfl (by omega) (rest := []) rfl (Nat.le_of_ble_eq_true rfl) rfl rfl rfl rfl ?_
          have ok_r3 : tsK N (emS 10007 r2.2).2 := pr_em 10007 r2.2 ok_r2
          generalize h_r3 : emS 10007 r2.2 = r3 at ok_r3 ⊢
          refine ww_if_ne 24 rfl (tgt := 53) rfl (fun c4 => ?_) (fun c4 => ?_)
          · rw [b2i_ne0] at c4
            refine ww_run 27 2 (pc' := 12) (lv' := [(2, .int ((nI i) + 1)), (0, .ref 0), (1, .int (nI o))]) (st' := []) (w' := wTp bytes r3.2.cd tends (nI N) (nI r3.2.ta) (nI r3.2.cn) (nI r3.2.pl) r3.2.tk) (Ps := []) rfl trivial ?_
            rw [nI_1 i]
            refine ww_lv [1, 2, 0] (lv' := [(0, .ref 0), (1, .int (nI o)), (2, .int (nI (i + 1)))]) rfl ?_
            refine ih (i + 1) r3.2 (by omega) (by omega) ok_r3 ?_
            rw [show 160 - i = (160 - (i + 1)) + 1 by omega] at hv
            simp only [lpR] at hv
            rw [if_pos (c := eqT 10007 s.tk) c2] at hv
            have hb : bdR bytes N f s.tk s = r3 := by rw [show s.tk = 10007 from c2]; show (if (f (lkS bytes N s)).1 = true then emS 10007 (f (lkS bytes N s)).2 else f (lkS bytes N s)) = r3; rw [h_s1, h_r2, if_pos c3, h_r3]
            rw [hb, if_pos c4] at hv
            exact hv
          · rw [b2i_eq0] at c4
            refine ww_run 25 1 (pc' := 52) (lv' := [(0, .ref 0), (1, .int (nI o)), (2, .int (nI i))]) (st' := [.int 0]) (w' := wTp bytes r3.2.cd tends (nI N) (nI r3.2.ta) (nI r3.2.cn) (nI r3.2.pl) r3.2.tk) (Ps := []) rfl trivial ?_
            refine ww_zret 26 rfl rfl rfl ?_
            rw [show 160 - i = (160 - (i + 1)) + 1 by omega] at hv
            simp only [lpR] at hv
            rw [if_pos (c := eqT 10007 s.tk) c2] at hv
            have hb : bdR bytes N f s.tk s = r3 := by rw [show s.tk = 10007 from c2]; show (if (f (lkS bytes N s)).1 = true then emS 10007 (f (lkS bytes N s)).2 else f (lkS bytes N s)) = r3; rw [h_s1, h_r2, if_pos c3, h_r3]
            rw [hb, if_neg c4] at hv
            subst hv
            exact K0 c4
set_option maxHeartbeats 4000000 in
set_option maxRecDepth 100000 in
theorem x_both {N : Nat} (hN : N ≤ 160) {bytes : Nat → Int32} {D o : Nat} (hD : 6 ≤ D) (f : RD) (hf : Ct N bytes M_X5_isNot D o f) (pf : PrT N f) : Ct N bytes M_X5_isBoth (D + 1) o (chR bytes N (eqT 10007) f) := by
  intro tends s ok_s
  refine Co.of ok_X5_isBoth rfl ?_
  refine ww_run 0 2 (pc' := 2) (lv' := [(0, .ref 0), (1, .int (nI o))]) (st' := [.int (nI o), .ref 0]) (w' := wTp bytes s.cd tends (nI N) (nI s.ta) (nI s.cn) (nI s.pl) s.tk) (Ps := []) rfl trivial ?_
  refine ww_cVi 2 ok_X5_isNot (hf tends s ok_s) lk_X5_64 rfl (by omega) (rest := []) rfl (Nat.le_of_ble_eq_true rfl) rfl rfl rfl rfl ?_
  have ok_r1 : tsK N (f s).2 := pf s ok_s
  generalize h_r1 : f s = r1 at ok_r1 ⊢
  refine ww_if_ne 3 rfl (tgt := 10) rfl (fun c1 => ?_) (fun c1 => ?_)
  · rw [b2i_ne0] at c1
    refine ww_run 6 2 (pc' := 12) (lv' := [(2, .int 0), (0, .ref 0), (1, .int (nI o))]) (st' := []) (w' := wTp bytes r1.2.cd tends (nI N) (nI r1.2.ta) (nI r1.2.cn) (nI r1.2.pl) r1.2.tk) (Ps := []) rfl trivial ?_
    refine ww_lv [1, 2, 0] (lv' := [(0, .ref 0), (1, .int (nI o)), (2, .int 0)]) rfl ?_
    have hV : chR bytes N (eqT 10007) f s = lpR (eqT 10007) (bdR bytes N f) 160 r1.2 := by show (if (f s).1 = true then _ else _) = _; rw [h_r1, if_pos c1]
    rw [hV]
    generalize hv : lpR (eqT 10007) (bdR bytes N f) 160 r1.2 = V
    exact ly_both (by omega) bytes tends hN D o (Nat.le_refl _) hD f hf pf V (fun q => ⟨by rw [b2i_f q], rfl⟩) (fun q => ⟨by rw [b2i_t q], rfl⟩) 161 0 r1.2 (by omega) (by omega) ok_r1 hv
  · rw [b2i_eq0] at c1
    refine ww_run 4 1 (pc' := 9) (lv' := [(0, .ref 0), (1, .int (nI o))]) (st' := [.int 0]) (w' := wTp bytes r1.2.cd tends (nI N) (nI r1.2.ta) (nI r1.2.cn) (nI r1.2.pl) r1.2.tk) (Ps := []) rfl trivial ?_
    refine ww_zret 5 rfl rfl rfl ?_
    have hV : chR bytes N (eqT 10007) f s = r1 := by show (if (f s).1 = true then _ else _) = _; rw [h_r1, if_neg c1]
    rw [hV]
    exact ⟨by rw [b2i_f c1], rfl⟩
set_option maxHeartbeats 4000000 in
set_option maxRecDepth 100000 in
theorem ly_either {Q : Option Value → List va_E → Prop} {d : Nat} (hd : 0 ≤ d) (bytes tends : Nat → Int32) {N : Nat} (hN : N ≤ 160) (D o : Nat) (hd2 : D + 1 ≤ d) (hD : 6 ≤ D) (f : RD) (hf : Ct N bytes M_X5_isBoth D o f) (pf : PrT N f) (V : Bool × TS)  (K0 : ¬ V.1 = true → Q (some (.int 0)) (wTs bytes tends N V.2)) (K1 : V.1 = true → Q (some (.int 1)) (wTs bytes tends N V.2)) :
    ∀ (n i : Nat) (s : TS), i ≤ 160 → 160 + 1 ≤ i + n → tsK N s → lpR (eqT 10006) (bdR bytes N f) (160 - i) s = V → WW M_X5_isEither d Q xz 12 [(0, .ref 0), (1, .int (nI o)), (2, .int (nI i))] [] (wTp bytes s.cd tends (nI N) (nI s.ta) (nI s.cn) (nI s.pl) s.tk) := by
  intro n
  induction n with
  | zero => intro i; intros; omega
  | succ n ih =>
    intro i s hi hn ok_s hv
    refine ww_run 8 2 (pc' := 16) (lv' := [(0, .ref 0), (1, .int (nI o)), (2, .int (nI i))]) (st' := [.int 160, .int (nI i)]) (w' := wTp bytes s.cd tends (nI N) (nI s.ta) (nI s.cn) (nI s.pl) s.tk) (Ps := []) rfl trivial ?_
    refine ww_icmp_ge 10 rfl (tgt := 59) rfl (fun c1 => ?_) (fun c1 => ?_)
    · have c1 : 160 ≤ i := (nI_leI (a := 160) (b := i) (by omega) (by omega)).mp c1
      refine ww_run 29 1 (pc' := 60) (lv' := [(0, .ref 0), (1, .int (nI o)), (2, .int (nI i))]) (st' := [.int 1]) (w' := wTp bytes s.cd tends (nI N) (nI s.ta) (nI s.cn) (nI s.pl) s.tk) (Ps := []) rfl trivial ?_
      refine ww_zret 30 rfl rfl rfl ?_
      rw [show 160 - i = 0 by omega] at hv
      simp only [lpR] at hv
      subst hv
      exact K1 rfl
    · have c1 : ¬ 160 ≤ i := fun q => c1 ((nI_leI (a := 160) (b := i) (by omega) (by omega)).mpr q)
      refine ww_run 11 3 (pc' := 26) (lv' := [(0, .ref 0), (1, .int (nI o)), (2, .int (nI i))]) (st' := [.int 10006, .int s.tk]) (w' := wTp bytes s.cd tends (nI N) (nI s.ta) (nI s.cn) (nI s.pl) s.tk) (Ps := []) rfl trivial ?_
      refine ww_icmp_ne 14 rfl (tgt := 59) rfl (fun c2 => ?_) (fun c2 => ?_)
      · refine ww_run 29 1 (pc' := 60) (lv' := [(0, .ref 0), (1, .int (nI o)), (2, .int (nI i))]) (st' := [.int 1]) (w' := wTp bytes s.cd tends (nI N) (nI s.ta) (nI s.cn) (nI s.pl) s.tk) (Ps := []) rfl trivial ?_
        refine ww_zret 30 rfl rfl rfl ?_
        rw [show 160 - i = (160 - (i + 1)) + 1 by omega] at hv
        simp only [lpR] at hv
        rw [if_neg (c := eqT 10006 s.tk) c2] at hv
        subst hv
        exact K1 rfl
      · refine ww_run 15 1 (pc' := 30) (lv' := [(0, .ref 0), (1, .int (nI o)), (2, .int (nI i))]) (st' := [.ref 0]) (w' := wTp bytes s.cd tends (nI N) (nI s.ta) (nI s.cn) (nI s.pl) s.tk) (Ps := []) rfl trivial ?_
        refine ww_cVv 16 ok_X5_look (x_lookS bytes tends N s hN ok_s) lk_X5_37 rfl (by omega) (rest := []) rfl (Nat.le_of_ble_eq_true rfl) rfl rfl rfl rfl ?_
        have ok_s1 : tsK N (lkS bytes N s) := ok_lk ok_s
        generalize h_s1 : lkS bytes N s = s1 at ok_s1 ⊢
        refine ww_run 17 2 (pc' := 35) (lv' := [(0, .ref 0), (1, .int (nI o)), (2, .int (nI i))]) (st' := [.int (nI o), .ref 0]) (w' := wTp bytes s1.cd tends (nI N) (nI s1.ta) (nI s1.cn) (nI s1.pl) s1.tk) (Ps := []) rfl trivial ?_
        refine ww_cVi 19 ok_X5_isBoth (hf tends s1 ok_s1) lk_X5_58 rfl (by omega) (rest := []) rfl (Nat.le_of_ble_eq_true rfl) rfl rfl rfl rfl ?_
        have ok_r2 : tsK N (f s1).2 := pf s1 ok_s1
        generalize h_r2 : f s1 = r2 at ok_r2 ⊢
        refine ww_if_eq 20 rfl (tgt := 51) rfl (fun c3 => ?_) (fun c3 => ?_)
        · rw [b2i_eq0] at c3
          refine ww_run 25 1 (pc' := 52) (lv' := [(0, .ref 0), (1, .int (nI o)), (2, .int (nI i))]) (st' := [.int 0]) (w' := wTp bytes r2.2.cd tends (nI N) (nI r2.2.ta) (nI r2.2.cn) (nI r2.2.pl) r2.2.tk) (Ps := []) rfl trivial ?_
          refine ww_zret 26 rfl rfl rfl ?_
          rw [show 160 - i = (160 - (i + 1)) + 1 by omega] at hv
          simp only [lpR] at hv
          rw [if_pos (c := eqT 10006 s.tk) c2] at hv
          have hb : bdR bytes N f s.tk s = r2 := by rw [show s.tk = 10006 from c2]; show (if (f (lkS bytes N s)).1 = true then emS 10006 (f (lkS bytes N s)).2 else f (lkS bytes N s)) = r2; rw [h_s1, h_r2, if_neg c3]
          rw [hb, if_neg c3] at hv
          subst hv
          exact K0 c3
        · rw [b2i_ne0] at c3
          refine ww_run 21 2 (pc' := 45) (lv' := [(0, .ref 0), (1, .int (nI o)), (2, .int (nI i))]) (st' := [.int 10006, .ref 0]) (w' := wTp bytes r2.2.cd tends (nI N) (nI r2.2.ta) (nI r2.2.cn) (nI r2.2.pl) r2.2.tk) (Ps := []) rfl trivial ?_
          refine ww_cVi 23 ok_X5_emit (x_emitS bytes tends N r2.2 ok_r2 10006) lk_X5_61 rfl (by omega) (rest := []) rfl (Nat.le_of_ble_eq_true rfl) rfl rfl rfl rfl ?_
          have ok_r3 : tsK N (emS 10006 r2.2).2 := pr_em 10006 r2.2 ok_r2
          generalize h_r3 : emS 10006 r2.2 = r3 at ok_r3 ⊢
          refine ww_if_ne 24 rfl (tgt := 53) rfl (fun c4 => ?_) (fun c4 => ?_)
          · rw [b2i_ne0] at c4
            refine ww_run 27 2 (pc' := 12) (lv' := [(2, .int ((nI i) + 1)), (0, .ref 0), (1, .int (nI o))]) (st' := []) (w' := wTp bytes r3.2.cd tends (nI N) (nI r3.2.ta) (nI r3.2.cn) (nI r3.2.pl) r3.2.tk) (Ps := []) rfl trivial ?_
            rw [nI_1 i]
            refine ww_lv [1, 2, 0] (lv' := [(0, .ref 0), (1, .int (nI o)), (2, .int (nI (i + 1)))]) rfl ?_
            refine ih (i + 1) r3.2 (by omega) (by omega) ok_r3 ?_
            rw [show 160 - i = (160 - (i + 1)) + 1 by omega] at hv
            simp only [lpR] at hv
            rw [if_pos (c := eqT 10006 s.tk) c2] at hv
            have hb : bdR bytes N f s.tk s = r3 := by rw [show s.tk = 10006 from c2]; show (if (f (lkS bytes N s)).1 = true then emS 10006 (f (lkS bytes N s)).2 else f (lkS bytes N s)) = r3; rw [h_s1, h_r2, if_pos c3, h_r3]
            rw [hb, if_pos c4] at hv
            exact hv
          · rw [b2i_eq0] at c4
            refine ww_run 25 1 (pc' := 52) (lv' := [(0, .ref 0), (1, .int (nI o)), (2, .int (nI i))]) (st' := [.int 0]) (w' := wTp bytes r3.2.cd tends (nI N) (nI r3.2.ta) (nI r3.2.cn) (nI r3.2.pl) r3.2.tk) (Ps := []) rfl trivial ?_
            refine ww_zret 26 rfl rfl rfl ?_
            rw [show 160 - i = (160 - (i + 1)) + 1 by omega] at hv
            simp only [lpR] at hv
            rw [if_pos (c := eqT 10006 s.tk) c2] at hv
            have hb : bdR bytes N f s.tk s = r3 := by rw [show s.tk = 10006 from c2]; show (if (f (lkS bytes N s)).1 = true then emS 10006 (f (lkS bytes N s)).2 else f (lkS bytes N s)) = r3; rw [h_s1, h_r2, if_pos c3, h_r3]
            rw [hb, if_neg c4] at hv
            subst hv
            exact K0 c4
set_option maxHeartbeats 4000000 in
set_option maxRecDepth 100000 in
theorem x_either {N : Nat} (hN : N ≤ 160) {bytes : Nat → Int32} {D o : Nat} (hD : 6 ≤ D) (f : RD) (hf : Ct N bytes M_X5_isBoth D o f) (pf : PrT N f) : Ct N bytes M_X5_isEither (D + 1) o (chR bytes N (eqT 10006) f) := by
  intro tends s ok_s
  refine Co.of ok_X5_isEither rfl ?_
  refine ww_run 0 2 (pc' := 2) (lv' := [(0, .ref 0), (1, .int (nI o))]) (st' := [.int (nI o), .ref 0]) (w' := wTp bytes s.cd tends (nI N) (nI s.ta) (nI s.cn) (nI s.pl) s.tk) (Ps := []) rfl trivial ?_
  refine ww_cVi 2 ok_X5_isBoth (hf tends s ok_s) lk_X5_58 rfl (by omega) (rest := []) rfl (Nat.le_of_ble_eq_true rfl) rfl rfl rfl rfl ?_
  have ok_r1 : tsK N (f s).2 := pf s ok_s
  generalize h_r1 : f s = r1 at ok_r1 ⊢
  refine ww_if_ne 3 rfl (tgt := 10) rfl (fun c1 => ?_) (fun c1 => ?_)
  · rw [b2i_ne0] at c1
    refine ww_run 6 2 (pc' := 12) (lv' := [(2, .int 0), (0, .ref 0), (1, .int (nI o))]) (st' := []) (w' := wTp bytes r1.2.cd tends (nI N) (nI r1.2.ta) (nI r1.2.cn) (nI r1.2.pl) r1.2.tk) (Ps := []) rfl trivial ?_
    refine ww_lv [1, 2, 0] (lv' := [(0, .ref 0), (1, .int (nI o)), (2, .int 0)]) rfl ?_
    have hV : chR bytes N (eqT 10006) f s = lpR (eqT 10006) (bdR bytes N f) 160 r1.2 := by show (if (f s).1 = true then _ else _) = _; rw [h_r1, if_pos c1]
    rw [hV]
    generalize hv : lpR (eqT 10006) (bdR bytes N f) 160 r1.2 = V
    exact ly_either (by omega) bytes tends hN D o (Nat.le_refl _) hD f hf pf V (fun q => ⟨by rw [b2i_f q], rfl⟩) (fun q => ⟨by rw [b2i_t q], rfl⟩) 161 0 r1.2 (by omega) (by omega) ok_r1 hv
  · rw [b2i_eq0] at c1
    refine ww_run 4 1 (pc' := 9) (lv' := [(0, .ref 0), (1, .int (nI o))]) (st' := [.int 0]) (w' := wTp bytes r1.2.cd tends (nI N) (nI r1.2.ta) (nI r1.2.cn) (nI r1.2.pl) r1.2.tk) (Ps := []) rfl trivial ?_
    refine ww_zret 5 rfl rfl rfl ?_
    have hV : chR bytes N (eqT 10006) f s = r1 := by show (if (f s).1 = true then _ else _) = _; rw [h_r1, if_neg c1]
    rw [hV]
    exact ⟨by rw [b2i_f c1], rfl⟩
