/-- forty by forty -/
def ceF (g : Nat → Nat → Int32) : Nat → Int32 := fun j => g (j / 40) (j % 40)
theorem ceF_at {g : Nat → Nat → Int32} {s k : Nat} (h : k < 40) : ceF g (40 * s + k) = g s k := by
  unfold ceF
  have h1 : (40 * s + k) / 40 = s := by omega
  have h2 : (40 * s + k) % 40 = k := by omega
  rw [h1, h2]
theorem ce_u {g : Nat → Nat → Int32} {s i : Nat} {h : Nat → Int32} {v : Int32} (hi : i < 40) : upd (ceF (va_up g s h)) (40 * s + i) v = ceF (va_up g s (upd h i v)) := by
  funext j
  by_cases e : j = 40 * s + i
  · subst e
    rw [upd_s]
    unfold ceF
    rw [show (40 * s + i) / 40 = s by omega, show (40 * s + i) % 40 = i by omega, va_up_self, upd_s]
  · rw [upd_n e]
    unfold ceF
    by_cases h1 : j / 40 = s
    · have h2 : ¬ j % 40 = i := by omega
      rw [h1, va_up_self, va_up_self, upd_n h2]
    · rw [va_up_ne _ _ h1, va_up_ne _ _ h1]
theorem up_self {α : Type} {g : Nat → α} {s : Nat} {x : α} (h : x = g s) : va_up g s x = g := by
  funext j
  unfold va_up
  split
  · next e => rw [e, h]
  · rfl
theorem ceF_up {g : Nat → Nat → Int32} {s : Nat} : ceF g = ceF (va_up g s (g s)) := by rw [up_self rfl]
def shP (s P : Nat) (f : Nat → Int32) : Nat → Int32 := fun p => if p < P then f p else 0
abbrev wMf (wi ki mo ho cd sr so sz ce stk names till sitter on was sat stood rose turn : Nat → Int32) (pe ch ru lent : Int32) (J : Nat → Int32) (K : Nat → Nat → Int32) : List va_E :=
  [.inr (6, [.int pe, .ref 1, .int ch, .ref 2, .ref 3, .ref 4, .ref 5, .int (J 7), .ref 6, .ref 7, .int (J 10), .int ru, .int (J 12), .int (J 13), .int (J 14), .int (J 15), .ref 8, .ref 9, .ref 10, .ref 11, .ref 12, .ref 13, .ref 14, .int (J 23), .int (J 24), .int (J 25), .int (J 26), .ref 15, .ref 16, .int (J 29), .int (J 30), .int (J 31), .ref 17, .ref 18, .ref 19, .ref 20, .ref 21, .ref 22, .ref 23, .ref 24, .ref 25, .ref 26, .int lent, .ref 27, .int (J 44), .int (J 45), .ref 28]),
   iA 15 wi,
   iA 6 ki,
   iA 6 mo,
   iA 3 ho,
   iA 160 (K 6),
   iA 1200 cd,
   iA 24 sr,
   iA 15 (K 16),
   iA 3 (K 17),
   iA 12 (K 18),
   iA 4 so,
   iA 4 sz,
   iA 160 ce,
   iA 50 (K 22),
   iA 96 (K 27),
   iA 200 (K 28),
   iA 200 stk,
   iA 6 names,
   iA 6 till,
   iA 6 sitter,
   iA 5 on,
   iA 5 was,
   iA 5 sat,
   iA 5 stood,
   iA 5 rose,
   iA 5 turn,
   iA 5 (K 43),
   iA 20 (K 46)]
set_option maxHeartbeats 4000000 in
set_option maxRecDepth 100000 in
theorem l_X7_film_46 {Q : Option Value → List va_E → Prop} {d : Nat} (hd : 7 ≤ d) (ki mo cd sr so sz : Nat → Int32) (lent : Int32) (J : Nat → Int32) (K : Nat → Nat → Int32) (g : Nat → Nat → Int32) (fr lo fa : Nat → Int32) (sty wset wfor : Int32) (x : MS) (z : Z3) (sy : SY) (T P C k : Nat) (hP : P ≤ 5) (hC : C ≤ 6) (hk : k < T) (hL : ML cd sr T sy) (hmo : MO6 mo) (s N : Nat) (hs : s < 4) (hN : N ≤ 30) (hR1 : REL P C (evS sy P C fr lo fa ki mo k sty wset wfor lent N) x) (hI1 : INV P C (evS sy P C fr lo fa ki mo k sty wset wfor lent N)) (KK : WW M_X7_film d Q xz 87 [(0, .ref 0), (1, .int (nI s)), (2, .int (nI N)), (3, .int (nI 40))] [] (wMf (wiF fr lo fa) ki mo (hoF sty wset wfor) cd sr so sz (ceF (va_up g s (mixF (g s) (shP s P (toldS (evS sy P C fr lo fa ki mo k sty wset wfor lent N) fr (nI N))) 40))) z.2.1 z.1 x.2.2.2.2.2.1 x.2.2.2.2.2.2 x.1 x.2.1 x.2.2.1 x.2.2.2.1 x.2.2.2.2.1 z.2.2 (nI P) (nI C) (nI k) lent J K)) :
    ∀ (n i : Nat) (cc : Nat → Int32), i ≤ 40 → 40 + 1 ≤ i + n → cc = ceF (va_up g s (mixF (g s) (shP s P (toldS (evS sy P C fr lo fa ki mo k sty wset wfor lent N) fr (nI N))) i)) → WW M_X7_film d Q xz 46 [(0, .ref 0), (1, .int (nI s)), (2, .int (nI N)), (3, .int (nI i))] [] (wMf (wiF fr lo fa) ki mo (hoF sty wset wfor) cd sr so sz cc z.2.1 z.1 x.2.2.2.2.2.1 x.2.2.2.2.2.2 x.1 x.2.1 x.2.2.1 x.2.2.2.1 x.2.2.2.2.1 z.2.2 (nI P) (nI C) (nI k) lent J K) := by
  intro n
  induction n with
  | zero => intro i; intros; omega
  | succ n ih =>
    intro i cc hi hn hcc
    refine ww_run 28 2 (pc' := 49) (lv' := [(0, .ref 0), (1, .int (nI s)), (2, .int (nI N)), (3, .int (nI i))]) (st' := [.int 40, .int (nI i)]) (w' := wMf (wiF fr lo fa) ki mo (hoF sty wset wfor) cd sr so sz cc z.2.1 z.1 x.2.2.2.2.2.1 x.2.2.2.2.2.2 x.1 x.2.1 x.2.2.1 x.2.2.2.1 x.2.2.2.2.1 z.2.2 (nI P) (nI C) (nI k) lent J K) (Ps := []) rfl trivial ?_
    refine ww_icmp_ge 30 rfl (tgt := 87) rfl (fun c1 => ?_) (fun c1 => ?_)
    · have c1 : 40 ≤ i := (nI_leI (a := 40) (b := i) (by omega) (by omega)).mp c1
      obtain rfl : i = 40 := by omega
      subst hcc
      exact KK
    · have c1 : ¬ 40 ≤ i := fun q => c1 ((nI_leI (a := 40) (b := i) (by omega) (by omega)).mpr q)
      refine ww_run 31 10 (pc' := 67) (lv' := [(0, .ref 0), (1, .int (nI s)), (2, .int (nI N)), (3, .int (nI i))]) (st' := [.int (nI P), .int (nI i), .int ((40 * (nI s)) + (nI i)), .ref 13]) (w' := wMf (wiF fr lo fa) ki mo (hoF sty wset wfor) cd sr so sz cc z.2.1 z.1 x.2.2.2.2.2.1 x.2.2.2.2.2.2 x.1 x.2.1 x.2.2.1 x.2.2.2.1 x.2.2.2.2.1 z.2.2 (nI P) (nI C) (nI k) lent J K) (Ps := []) rfl trivial ?_
      rw [show (40 : Int32) * nI s = nI (40 * s) from pk_mul 40 s]
      rw [nI_add (40 * s) i]
      refine ww_icmp_ge 41 rfl (tgt := 79) rfl (fun c2 => ?_) (fun c2 => ?_)
      · have c2 : P ≤ i := (nI_leI (a := P) (b := i) (by omega) (by omega)).mp c2
        refine ww_run 47 4 (pc' := 46) (lv' := [(3, .int ((nI i) + 1)), (0, .ref 0), (1, .int (nI s)), (2, .int (nI N))]) (st' := []) (w' := wMf (wiF fr lo fa) ki mo (hoF sty wset wfor) cd sr so sz (upd cc ((nI (40 * s + i)).toNatClampNeg) 0) z.2.1 z.1 x.2.2.2.2.2.1 x.2.2.2.2.2.2 x.1 x.2.1 x.2.2.1 x.2.2.2.1 x.2.2.2.2.1 z.2.2 (nI P) (nI C) (nI k) lent J K) (Ps := [vp_in (nI (40 * s + i)) 160]) rfl ⟨(vp_in_nI (by omega) (by omega)), trivial⟩ ?_
        rw [nI_clamp (n := (40 * s + i)) (by omega)]
        rw [nI_1 i]
        refine ww_lv [1, 2, 3, 0] (lv' := [(0, .ref 0), (1, .int (nI s)), (2, .int (nI N)), (3, .int (nI (i + 1)))]) rfl ?_
        refine ih (i + 1) _ (by omega) (by omega) ?_
        rw [hcc, ce_u (by omega), mixF_s (f := g s) (g := (shP s P (toldS (evS sy P C fr lo fa ki mo k sty wset wfor lent N) fr (nI N)))) (n := i) (v := 0) (by unfold shP; rw [if_neg (by omega)])]
      · have c2 : ¬ P ≤ i := fun q => c2 ((nI_leI (a := P) (b := i) (by omega) (by omega)).mpr q)
        refine ww_run 42 3 (pc' := 73) (lv' := [(0, .ref 0), (1, .int (nI s)), (2, .int (nI N)), (3, .int (nI i))]) (st' := [.int (nI N), .int (nI i), .ref 0, .int (nI (40 * s + i)), .ref 13]) (w' := wMf (wiF fr lo fa) ki mo (hoF sty wset wfor) cd sr so sz cc z.2.1 z.1 x.2.2.2.2.2.1 x.2.2.2.2.2.2 x.1 x.2.1 x.2.2.1 x.2.2.2.1 x.2.2.2.2.1 z.2.2 (nI P) (nI C) (nI k) lent J K) (Ps := []) rfl trivial ?_
        refine ww_cVi 45 ok_X7_looksOf (c_X7_looksOf ki mo (hoF sty wset wfor) cd sr z.2.1 z.1 x.2.2.2.2.2.1 x.2.2.2.2.2.2 x.1 x.2.1 x.2.2.1 x.2.2.2.1 x.2.2.2.2.1 z.2.2 (nI P) (nI C) (nI k) lent J (fun q => if q = 19 then so else if q = 20 then sz else if q = 21 then cc else K q) fr lo fa i (nI N) (by omega)) lk_X7_298 rfl (by omega) (rest := [.int (nI (40 * s + i)), .ref 13]) rfl (Nat.le_of_ble_eq_true rfl) rfl rfl rfl rfl ?_
        rw [ob_told (fr := fr) (m := (nI N)) (p := i) hC (by omega) hR1 hI1]
        refine ww_run 46 1 (pc' := 80) (lv' := [(0, .ref 0), (1, .int (nI s)), (2, .int (nI N)), (3, .int (nI i))]) (st' := [.int (toldS (evS sy P C fr lo fa ki mo k sty wset wfor lent N) fr (nI N) i), .int (nI (40 * s + i)), .ref 13]) (w' := wMf (wiF fr lo fa) ki mo (hoF sty wset wfor) cd sr so sz cc z.2.1 z.1 x.2.2.2.2.2.1 x.2.2.2.2.2.2 x.1 x.2.1 x.2.2.1 x.2.2.2.1 x.2.2.2.2.1 z.2.2 (nI P) (nI C) (nI k) lent J K) (Ps := []) rfl trivial ?_
        refine ww_run 48 3 (pc' := 46) (lv' := [(3, .int ((nI i) + 1)), (0, .ref 0), (1, .int (nI s)), (2, .int (nI N))]) (st' := []) (w' := wMf (wiF fr lo fa) ki mo (hoF sty wset wfor) cd sr so sz (upd cc ((nI (40 * s + i)).toNatClampNeg) (toldS (evS sy P C fr lo fa ki mo k sty wset wfor lent N) fr (nI N) i)) z.2.1 z.1 x.2.2.2.2.2.1 x.2.2.2.2.2.2 x.1 x.2.1 x.2.2.1 x.2.2.2.1 x.2.2.2.2.1 z.2.2 (nI P) (nI C) (nI k) lent J K) (Ps := [vp_in (nI (40 * s + i)) 160]) rfl ⟨(vp_in_nI (by omega) (by omega)), trivial⟩ ?_
        rw [nI_clamp (n := (40 * s + i)) (by omega)]
        rw [nI_1 i]
        refine ww_lv [1, 2, 3, 0] (lv' := [(0, .ref 0), (1, .int (nI s)), (2, .int (nI N)), (3, .int (nI (i + 1)))]) rfl ?_
        refine ih (i + 1) _ (by omega) (by omega) ?_
        rw [hcc, ce_u (by omega), mixF_s (f := g s) (g := (shP s P (toldS (evS sy P C fr lo fa ki mo k sty wset wfor lent N) fr (nI N)))) (n := i) (v := toldS (evS sy P C fr lo fa ki mo k sty wset wfor lent N) fr (nI N) i) (by unfold shP; rw [if_pos (by omega)])]
set_option maxHeartbeats 4000000 in
set_option maxRecDepth 100000 in
theorem m_film (ki mo cd sr so sz : Nat → Int32) (lent : Int32) (J : Nat → Int32) (K : Nat → Nat → Int32) (g : Nat → Nat → Int32) (fr lo fa : Nat → Int32) (sty wset wfor : Int32) (x : MS) (z : Z3) (sy : SY) (T P C k : Nat) (hP : P ≤ 5) (hC : C ≤ 6) (hk : k < T) (hL : ML cd sr T sy) (hmo : MO6 mo) (ss nn : Int32) : Co M_X7_film 8 0 0 [.ref 0, .int ss, .int nn] (wMf (wiF fr lo fa) ki mo (hoF sty wset wfor) cd sr so sz (ceF g) z.2.1 z.1 x.2.2.2.2.2.1 x.2.2.2.2.2.2 x.1 x.2.1 x.2.2.1 x.2.2.2.1 x.2.2.2.2.1 z.2.2 (nI P) (nI C) (nI k) lent J K) (fun r w' => (¬ mIn ss 0 3 ∧ r = some (.int (-2)) ∧ w' = wMf (wiF fr lo fa) ki mo (hoF sty wset wfor) cd sr so sz (ceF g) z.2.1 z.1 x.2.2.2.2.2.1 x.2.2.2.2.2.2 x.1 x.2.1 x.2.2.1 x.2.2.2.1 x.2.2.2.2.1 z.2.2 (nI P) (nI C) (nI k) lent J K) ∨ (mIn ss 0 3 ∧ ¬ mIn nn 0 30 ∧ r = some (.int (-7)) ∧ w' = wMf (wiF fr lo fa) ki mo (hoF sty wset wfor) cd sr so sz (ceF g) z.2.1 z.1 x.2.2.2.2.2.1 x.2.2.2.2.2.2 x.1 x.2.1 x.2.2.1 x.2.2.2.1 x.2.2.2.2.1 z.2.2 (nI P) (nI C) (nI k) lent J K) ∨ (mIn ss 0 3 ∧ mIn nn 0 30 ∧ r = some (.int (nI P)) ∧ ∃ (x : MS) (z : Z3), w' = wMf (wiF fr lo fa) ki mo (hoF sty wset wfor) cd sr (upd so ss.toNatClampNeg 2) (upd sz ss.toNatClampNeg (nI P)) (ceF (va_up g ss.toNatClampNeg (mixF (g ss.toNatClampNeg) (shP ss.toNatClampNeg P (toldS (evS sy P C fr lo fa ki mo k sty wset wfor lent nn.toNatClampNeg) fr nn)) 40))) z.2.1 z.1 x.2.2.2.2.2.1 x.2.2.2.2.2.2 x.1 x.2.1 x.2.2.1 x.2.2.2.1 x.2.2.2.2.1 z.2.2 (nI P) (nI C) (nI k) lent J K)) := by
  refine Co.of ok_X7_film rfl ?_
  refine ww_run 0 3 (pc' := 3) (lv' := [(0, .ref 0), (1, .int ss), (2, .int nn)]) (st' := [.int 3, .int 0, .int ss]) (w' := wMf (wiF fr lo fa) ki mo (hoF sty wset wfor) cd sr so sz (ceF g) z.2.1 z.1 x.2.2.2.2.2.1 x.2.2.2.2.2.2 x.1 x.2.1 x.2.2.1 x.2.2.2.1 x.2.2.2.2.1 z.2.2 (nI P) (nI C) (nI k) lent J K) (Ps := []) rfl trivial ?_
  refine ww_cSi 3 ok_X7_in (Co.fr0 (c_X7_in ss 0 3) rfl) lk_X7_108 rfl (by omega) (rest := []) rfl (Nat.le_of_ble_eq_true rfl) rfl ?_
  refine ww_if_ne 4 rfl (tgt := 12) rfl (fun c1 => ?_) (fun c1 => ?_)
  · rw [b2i_ne0] at c1
    refine ww_run 7 1 (pc' := 13) (lv' := [(0, .ref 0), (1, .int ss), (2, .int nn)]) (st' := [.int nn]) (w' := wMf (wiF fr lo fa) ki mo (hoF sty wset wfor) cd sr so sz (ceF g) z.2.1 z.1 x.2.2.2.2.2.1 x.2.2.2.2.2.2 x.1 x.2.1 x.2.2.1 x.2.2.2.1 x.2.2.2.2.1 z.2.2 (nI P) (nI C) (nI k) lent J K) (Ps := []) rfl trivial ?_
    refine ww_cSi 8 ok_X7_isMany (Co.fr0 (c_X7_isMany nn) rfl) lk_X7_235 rfl (by omega) (rest := []) rfl (Nat.le_of_ble_eq_true rfl) rfl ?_
    refine ww_if_ne 9 rfl (tgt := 22) rfl (fun c2 => ?_) (fun c2 => ?_)
    · rw [b2i_ne0] at c2
      obtain ⟨s, hs, rfl⟩ := s4_nI c1
      obtain ⟨N, hN, rfl⟩ := many_nI c2
      refine ww_run 12 2 (pc' := 24) (lv' := [(0, .ref 0), (1, .int (nI s)), (2, .int (nI N))]) (st' := [.int (nI N), .ref 0]) (w' := wMf (wiF fr lo fa) ki mo (hoF sty wset wfor) cd sr so sz (ceF g) z.2.1 z.1 x.2.2.2.2.2.1 x.2.2.2.2.2.2 x.1 x.2.1 x.2.2.1 x.2.2.2.1 x.2.2.2.2.1 z.2.2 (nI P) (nI C) (nI k) lent J K) (Ps := []) rfl trivial ?_
      refine ww_cV 14 ok_X7_lives (m_lives ki mo cd sr lent J (fun q => if q = 19 then so else if q = 20 then sz else if q = 21 then ceF g else K q) fr lo fa sty wset wfor x z sy T P C k hP hC hk hL hmo N (by omega)) lk_X7_238 rfl (by omega) (rest := []) rfl (Nat.le_of_ble_eq_true rfl) rfl rfl rfl rfl (fun r w' hq => ?_)
      obtain ⟨rfl, x1, z1, hR1, rfl⟩ := hq
      have hI1 : INV P C (evS sy P C fr lo fa ki mo k sty wset wfor lent N) := evS_inv hL.2.1 hP hC hmo (by omega)
      refine ww_run 15 13 (pc' := 46) (lv' := [(3, .int 0), (0, .ref 0), (1, .int (nI s)), (2, .int (nI N))]) (st' := []) (w' := wMf (wiF fr lo fa) ki mo (hoF sty wset wfor) cd sr (upd so ((nI s).toNatClampNeg) 2) (upd sz ((nI s).toNatClampNeg) (nI P)) (ceF g) z1.2.1 z1.1 x1.2.2.2.2.2.1 x1.2.2.2.2.2.2 x1.1 x1.2.1 x1.2.2.1 x1.2.2.2.1 x1.2.2.2.2.1 z1.2.2 (nI P) (nI C) (nI k) lent J K) (Ps := [vp_in (nI s) 4, vp_in (nI s) 4]) rfl ⟨(vp_in_nI (by omega) (by omega)), (vp_in_nI (by omega) (by omega)), trivial⟩ ?_
      rw [nI_clamp (n := s) (by omega)]
      refine ww_lv [1, 2, 3, 0] (lv' := [(0, .ref 0), (1, .int (nI s)), (2, .int (nI N)), (3, .int 0)]) rfl ?_
      refine l_X7_film_46 (by omega) ki mo cd sr (upd so (s) 2) (upd sz (s) (nI P)) lent J K g fr lo fa sty wset wfor x1 z1 sy T P C k hP hC hk hL hmo s N hs hN hR1 hI1 ?_ 41 0 (ceF g) (by omega) (by omega) (by rw [mixF_0, up_self rfl])
      refine ww_run 51 2 (pc' := 91) (lv' := [(0, .ref 0), (1, .int (nI s)), (2, .int (nI N)), (3, .int (nI 40))]) (st' := [.int (nI P)]) (w' := wMf (wiF fr lo fa) ki mo (hoF sty wset wfor) cd sr (upd so (s) 2) (upd sz (s) (nI P)) (ceF (va_up g s (mixF (g s) (shP s P (toldS (evS sy P C fr lo fa ki mo k sty wset wfor lent N) fr (nI N))) 40))) z1.2.1 z1.1 x1.2.2.2.2.2.1 x1.2.2.2.2.2.2 x1.1 x1.2.1 x1.2.2.1 x1.2.2.2.1 x1.2.2.2.2.1 z1.2.2 (nI P) (nI C) (nI k) lent J K) (Ps := []) rfl trivial ?_
      refine ww_iret 53 rfl rfl ?_
      refine Or.inr (Or.inr ⟨c1, c2, rfl, x1, z1, ?_⟩)
      first | rfl | simp only [nI_clamp (n := s) (by omega), nI_clamp (n := N) (by omega)]
    · rw [b2i_eq0] at c2
      refine ww_run 10 1 (pc' := 21) (lv' := [(0, .ref 0), (1, .int ss), (2, .int nn)]) (st' := [.int (-7)]) (w' := wMf (wiF fr lo fa) ki mo (hoF sty wset wfor) cd sr so sz (ceF g) z.2.1 z.1 x.2.2.2.2.2.1 x.2.2.2.2.2.2 x.1 x.2.1 x.2.2.1 x.2.2.2.1 x.2.2.2.2.1 z.2.2 (nI P) (nI C) (nI k) lent J K) (Ps := []) rfl trivial ?_
      refine ww_iret 11 rfl rfl ?_
      exact Or.inr (Or.inl ⟨c1, c2, rfl, rfl⟩)
  · rw [b2i_eq0] at c1
    refine ww_run 5 1 (pc' := 11) (lv' := [(0, .ref 0), (1, .int ss), (2, .int nn)]) (st' := [.int (-2)]) (w' := wMf (wiF fr lo fa) ki mo (hoF sty wset wfor) cd sr so sz (ceF g) z.2.1 z.1 x.2.2.2.2.2.1 x.2.2.2.2.2.2 x.1 x.2.1 x.2.2.1 x.2.2.2.1 x.2.2.2.2.1 z.2.2 (nI P) (nI C) (nI k) lent J K) (Ps := []) rfl trivial ?_
    refine ww_iret 6 rfl rfl ?_
    exact Or.inl ⟨c1, rfl, rfl⟩
abbrev wMs (so sz ce J : Nat → Int32) (K : Nat → Nat → Int32) : List va_E :=
  [.inr (6, [.int (J 0), .ref 1, .int (J 2), .ref 2, .ref 3, .ref 4, .ref 5, .int (J 7), .ref 6, .ref 7, .int (J 10), .int (J 11), .int (J 12), .int (J 13), .int (J 14), .int (J 15), .ref 8, .ref 9, .ref 10, .ref 11, .ref 12, .ref 13, .ref 14, .int (J 23), .int (J 24), .int (J 25), .int (J 26), .ref 15, .ref 16, .int (J 29), .int (J 30), .int (J 31), .ref 17, .ref 18, .ref 19, .ref 20, .ref 21, .ref 22, .ref 23, .ref 24, .ref 25, .ref 26, .int (J 42), .ref 27, .int (J 44), .int (J 45), .ref 28]),
   iA 15 (K 1),
   iA 6 (K 3),
   iA 6 (K 4),
   iA 3 (K 5),
   iA 160 (K 6),
   iA 1200 (K 8),
   iA 24 (K 9),
   iA 15 (K 16),
   iA 3 (K 17),
   iA 12 (K 18),
   iA 4 so,
   iA 4 sz,
   iA 160 ce,
   iA 50 (K 22),
   iA 96 (K 27),
   iA 200 (K 28),
   iA 200 (K 32),
   iA 6 (K 33),
   iA 6 (K 34),
   iA 6 (K 35),
   iA 5 (K 36),
   iA 5 (K 37),
   iA 5 (K 38),
   iA 5 (K 39),
   iA 5 (K 40),
   iA 5 (K 41),
   iA 5 (K 43),
   iA 20 (K 46)]
set_option maxHeartbeats 4000000 in
set_option maxRecDepth 100000 in
theorem l_X7_sheet_70 {Q : Option Value → List va_E → Prop} {d : Nat} (hd : 0 ≤ d) (so sz J : Nat → Int32) (K : Nat → Nat → Int32) (g : Nat → Nat → Int32) (s : Nat) (sort n0 : Int32) (hs : s < 4) (KK : WW M_X7_sheet d Q xz 96 [(0, .ref 0), (1, .int (nI s)), (2, .int sort), (3, .int n0), (4, .int (nI 40))] [] (wMs so sz (ceF (va_up g s (mixF (g s) (fun _ => 0) 40))) J K)) :
    ∀ (n i : Nat) (cc : Nat → Int32), i ≤ 40 → 40 + 1 ≤ i + n → cc = ceF (va_up g s (mixF (g s) (fun _ => 0) i)) → WW M_X7_sheet d Q xz 70 [(0, .ref 0), (1, .int (nI s)), (2, .int sort), (3, .int n0), (4, .int (nI i))] [] (wMs so sz cc J K) := by
  intro n
  induction n with
  | zero => intro i; intros; omega
  | succ n ih =>
    intro i cc hi hn hcc
    refine ww_run 42 2 (pc' := 74) (lv' := [(0, .ref 0), (1, .int (nI s)), (2, .int sort), (3, .int n0), (4, .int (nI i))]) (st' := [.int 40, .int (nI i)]) (w' := wMs so sz cc J K) (Ps := []) rfl trivial ?_
    refine ww_icmp_ge 44 rfl (tgt := 96) rfl (fun c1 => ?_) (fun c1 => ?_)
    · have c1 : 40 ≤ i := (nI_leI (a := 40) (b := i) (by omega) (by omega)).mp c1
      obtain rfl : i = 40 := by omega
      subst hcc
      exact KK
    · have c1 : ¬ 40 ≤ i := fun q => c1 ((nI_leI (a := 40) (b := i) (by omega) (by omega)).mpr q)
      refine ww_run 45 11 (pc' := 70) (lv' := [(4, .int ((nI i) + 1)), (0, .ref 0), (1, .int (nI s)), (2, .int sort), (3, .int n0)]) (st' := []) (w' := wMs so sz (upd cc (((40 * (nI s)) + (nI i)).toNatClampNeg) 0) J K) (Ps := [vp_in ((40 * (nI s)) + (nI i)) 160]) rfl ⟨(by rw [show (40 : Int32) * nI s = nI (40 * s) from pk_mul 40 s, nI_add (40 * s) i]; exact vp_in_nI (by omega) (by omega)), trivial⟩ ?_
      rw [nI_1 i]
      rw [show (40 : Int32) * nI s = nI (40 * s) from pk_mul 40 s]
      rw [nI_add (40 * s) i]
      rw [nI_clamp (n := (40 * s + i)) (by omega)]
      refine ww_lv [1, 2, 3, 4, 0] (lv' := [(0, .ref 0), (1, .int (nI s)), (2, .int sort), (3, .int n0), (4, .int (nI (i + 1)))]) rfl ?_
      refine ih (i + 1) _ (by omega) (by omega) ?_
      rw [hcc, ce_u (by omega), mixF_s (f := g s) (g := fun _ => 0) (n := i) (v := 0) rfl]
set_option maxHeartbeats 4000000 in
set_option maxRecDepth 100000 in
theorem m_sheet (so sz J : Nat → Int32) (K : Nat → Nat → Int32) (g : Nat → Nat → Int32) (ss sort n0 : Int32) : Co M_X7_sheet 1 0 0 [.ref 0, .int ss, .int sort, .int n0] (wMs so sz (ceF g) J K) (fun r w' => ((¬ (mIn ss 0 3 ∧ mIn sort (-1) 2 ∧ (sort = -1 ∨ n0 ≤ 40))) ∧ r = some (.int (-2)) ∧ w' = wMs so sz (ceF g) J K) ∨ ((mIn ss 0 3 ∧ mIn sort (-1) 2 ∧ ¬ sort = -1 ∧ n0 ≤ 40 ∧ n0 < 0) ∧ r = some (.int (-14)) ∧ w' = wMs so sz (ceF g) J K) ∨ ((mIn ss 0 3 ∧ mIn sort (-1) 2 ∧ (sort = -1 ∨ (0 ≤ n0 ∧ n0 ≤ 40))) ∧ r = some (.int 1) ∧ w' = wMs (upd so ss.toNatClampNeg sort) (upd sz ss.toNatClampNeg (if sort = -1 then 0 else n0)) (ceF (va_up g ss.toNatClampNeg (mixF (g ss.toNatClampNeg) (fun _ => 0) 40))) J K)) := by
  refine Co.of ok_X7_sheet rfl ?_
  refine ww_run 0 3 (pc' := 3) (lv' := [(0, .ref 0), (1, .int ss), (2, .int sort), (3, .int n0)]) (st' := [.int 3, .int 0, .int ss]) (w' := wMs so sz (ceF g) J K) (Ps := []) rfl trivial ?_
  refine ww_cSi 3 ok_X7_in (Co.fr0 (c_X7_in ss 0 3) rfl) lk_X7_108 rfl (by omega) (rest := []) rfl (Nat.le_of_ble_eq_true rfl) rfl ?_
  refine ww_if_eq 4 rfl (tgt := 29) rfl (fun c1 => ?_) (fun c1 => ?_)
  · rw [b2i_eq0] at c1
    refine ww_run 16 1 (pc' := 31) (lv' := [(0, .ref 0), (1, .int ss), (2, .int sort), (3, .int n0)]) (st' := [.int (-2)]) (w' := wMs so sz (ceF g) J K) (Ps := []) rfl trivial ?_
    refine ww_iret 17 rfl rfl ?_
    exact Or.inl ⟨by grind, rfl, rfl⟩
  · rw [b2i_ne0] at c1
    refine ww_run 5 3 (pc' := 12) (lv' := [(0, .ref 0), (1, .int ss), (2, .int sort), (3, .int n0)]) (st' := [.int 2, .int (-1), .int sort]) (w' := wMs so sz (ceF g) J K) (Ps := []) rfl trivial ?_
    refine ww_cSi 8 ok_X7_in (Co.fr0 (c_X7_in sort (-1) 2) rfl) lk_X7_108 rfl (by omega) (rest := []) rfl (Nat.le_of_ble_eq_true rfl) rfl ?_
    refine ww_if_eq 9 rfl (tgt := 29) rfl (fun c2 => ?_) (fun c2 => ?_)
    · rw [b2i_eq0] at c2
      refine ww_run 16 1 (pc' := 31) (lv' := [(0, .ref 0), (1, .int ss), (2, .int sort), (3, .int n0)]) (st' := [.int (-2)]) (w' := wMs so sz (ceF g) J K) (Ps := []) rfl trivial ?_
      refine ww_iret 17 rfl rfl ?_
      exact Or.inl ⟨by grind, rfl, rfl⟩
    · rw [b2i_ne0] at c2
      refine ww_run 10 2 (pc' := 20) (lv' := [(0, .ref 0), (1, .int ss), (2, .int sort), (3, .int n0)]) (st' := [.int (-1), .int sort]) (w' := wMs so sz (ceF g) J K) (Ps := []) rfl trivial ?_
      refine ww_icmp_eq 12 rfl (tgt := 32) rfl (fun c3 => ?_) (fun c3 => ?_)
      · refine ww_run 18 2 (pc' := 34) (lv' := [(0, .ref 0), (1, .int ss), (2, .int sort), (3, .int n0)]) (st' := [.int (-1), .int sort]) (w' := wMs so sz (ceF g) J K) (Ps := []) rfl trivial ?_
        refine ww_icmp_eq 20 rfl (tgt := 44) rfl (fun c4 => ?_) (fun c4 => ?_)
        · obtain ⟨s, hs, rfl⟩ := s4_nI c1
          refine ww_run 25 10 (pc' := 58) (lv' := [(0, .ref 0), (1, .int (nI s)), (2, .int sort), (3, .int n0)]) (st' := [.int (-1), .int sort, .int (nI s), .ref 12]) (w' := wMs (upd so ((nI s).toNatClampNeg) sort) sz (ceF g) J K) (Ps := [vp_in (nI s) 4]) rfl ⟨(vp_in_nI (by omega) (by omega)), trivial⟩ ?_
          rw [nI_clamp (n := s) (by omega)]
          refine ww_icmp_ne 35 rfl (tgt := 65) rfl (fun c5 => ?_) (fun c5 => ?_)
          · exact absurd c4 c5
          · refine ww_run 36 2 (pc' := 66) (lv' := [(0, .ref 0), (1, .int (nI s)), (2, .int sort), (3, .int n0)]) (st' := [.int 0, .int (nI s), .ref 12]) (w' := wMs (upd so (s) sort) sz (ceF g) J K) (Ps := []) rfl trivial ?_
            refine ww_run 39 3 (pc' := 70) (lv' := [(4, .int 0), (0, .ref 0), (1, .int (nI s)), (2, .int sort), (3, .int n0)]) (st' := []) (w' := wMs (upd so (s) sort) (upd sz ((nI s).toNatClampNeg) 0) (ceF g) J K) (Ps := [vp_in (nI s) 4]) rfl ⟨(vp_in_nI (by omega) (by omega)), trivial⟩ ?_
            rw [nI_clamp (n := s) (by omega)]
            refine ww_lv [1, 2, 3, 4, 0] (lv' := [(0, .ref 0), (1, .int (nI s)), (2, .int sort), (3, .int n0), (4, .int 0)]) rfl ?_
            refine l_X7_sheet_70 (by omega) (upd so (s) sort) (upd sz (s) 0) J K g s sort n0 hs ?_ 41 0 (ceF g) (by omega) (by omega) (by rw [mixF_0, up_self rfl])
            refine ww_run 56 1 (pc' := 97) (lv' := [(0, .ref 0), (1, .int (nI s)), (2, .int sort), (3, .int n0), (4, .int (nI 40))]) (st' := [.int 1]) (w' := wMs (upd so (s) sort) (upd sz (s) 0) (ceF (va_up g s (mixF (g s) (fun _ => 0) 40))) J K) (Ps := []) rfl trivial ?_
            refine ww_iret 57 rfl rfl ?_
            refine Or.inr (Or.inr ⟨by grind, rfl, ?_⟩)
            first | rw [if_pos c5] | simp only [nI_clamp (n := s) (by omega), if_pos c5]
        · exact absurd c3 c4
      · refine ww_run 13 2 (pc' := 26) (lv' := [(0, .ref 0), (1, .int ss), (2, .int sort), (3, .int n0)]) (st' := [.int 40, .int n0]) (w' := wMs so sz (ceF g) J K) (Ps := []) rfl trivial ?_
        refine ww_icmp_le 15 rfl (tgt := 32) rfl (fun c6 => ?_) (fun c6 => ?_)
        · refine ww_run 18 2 (pc' := 34) (lv' := [(0, .ref 0), (1, .int ss), (2, .int sort), (3, .int n0)]) (st' := [.int (-1), .int sort]) (w' := wMs so sz (ceF g) J K) (Ps := []) rfl trivial ?_
          refine ww_icmp_eq 20 rfl (tgt := 44) rfl (fun c7 => ?_) (fun c7 => ?_)
          · exact absurd c7 c3
          · refine ww_run 21 1 (pc' := 38) (lv' := [(0, .ref 0), (1, .int ss), (2, .int sort), (3, .int n0)]) (st' := [.int n0]) (w' := wMs so sz (ceF g) J K) (Ps := []) rfl trivial ?_
            refine ww_if_ge 22 rfl (tgt := 44) rfl (fun c8 => ?_) (fun c8 => ?_)
            · obtain ⟨s, hs, rfl⟩ := s4_nI c1
              refine ww_run 25 10 (pc' := 58) (lv' := [(0, .ref 0), (1, .int (nI s)), (2, .int sort), (3, .int n0)]) (st' := [.int (-1), .int sort, .int (nI s), .ref 12]) (w' := wMs (upd so ((nI s).toNatClampNeg) sort) sz (ceF g) J K) (Ps := [vp_in (nI s) 4]) rfl ⟨(vp_in_nI (by omega) (by omega)), trivial⟩ ?_
              rw [nI_clamp (n := s) (by omega)]
              refine ww_icmp_ne 35 rfl (tgt := 65) rfl (fun c9 => ?_) (fun c9 => ?_)
              · refine ww_run 38 4 (pc' := 70) (lv' := [(4, .int 0), (0, .ref 0), (1, .int (nI s)), (2, .int sort), (3, .int n0)]) (st' := []) (w' := wMs (upd so (s) sort) (upd sz ((nI s).toNatClampNeg) n0) (ceF g) J K) (Ps := [vp_in (nI s) 4]) rfl ⟨(vp_in_nI (by omega) (by omega)), trivial⟩ ?_
                rw [nI_clamp (n := s) (by omega)]
                refine ww_lv [1, 2, 3, 4, 0] (lv' := [(0, .ref 0), (1, .int (nI s)), (2, .int sort), (3, .int n0), (4, .int 0)]) rfl ?_
                refine l_X7_sheet_70 (by omega) (upd so (s) sort) (upd sz (s) n0) J K g s sort n0 hs ?_ 41 0 (ceF g) (by omega) (by omega) (by rw [mixF_0, up_self rfl])
                refine ww_run 56 1 (pc' := 97) (lv' := [(0, .ref 0), (1, .int (nI s)), (2, .int sort), (3, .int n0), (4, .int (nI 40))]) (st' := [.int 1]) (w' := wMs (upd so (s) sort) (upd sz (s) n0) (ceF (va_up g s (mixF (g s) (fun _ => 0) 40))) J K) (Ps := []) rfl trivial ?_
                refine ww_iret 57 rfl rfl ?_
                refine Or.inr (Or.inr ⟨by grind, rfl, ?_⟩)
                first | rw [if_neg c9] | simp only [nI_clamp (n := s) (by omega), if_neg c9]
              · exact absurd c9 c7
            · refine ww_run 23 1 (pc' := 43) (lv' := [(0, .ref 0), (1, .int ss), (2, .int sort), (3, .int n0)]) (st' := [.int (-14)]) (w' := wMs so sz (ceF g) J K) (Ps := []) rfl trivial ?_
              refine ww_iret 24 rfl rfl ?_
              exact Or.inr (Or.inl ⟨by grind, rfl, rfl⟩)
        · refine ww_run 16 1 (pc' := 31) (lv' := [(0, .ref 0), (1, .int ss), (2, .int sort), (3, .int n0)]) (st' := [.int (-2)]) (w' := wMs so sz (ceF g) J K) (Ps := []) rfl trivial ?_
          refine ww_iret 17 rfl rfl ?_
          exact Or.inl ⟨by grind, rfl, rfl⟩
theorem cell_in {x n : Int32} (hn : sm 40 n) (h : mIn x 0 (n - 1)) : ∃ i : Nat, i < 40 ∧ x = nI i := by
  obtain ⟨a, ha, rfl⟩ := hn
  have h2 := vp_mIn h (Nat.le_refl a) (by omega)
  obtain ⟨j, hj, e⟩ := vp_in_of h2 (by omega)
  exact ⟨j, by omega, e⟩
set_option maxHeartbeats 4000000 in
set_option maxRecDepth 100000 in
theorem m_cell (so sz J : Nat → Int32) (K : Nat → Nat → Int32) (g : Nat → Nat → Int32) (hsz : ∀ s, s < 4 → sm 40 (sz s)) (ss ii v : Int32) : Co M_X7_cell 1 0 0 [.ref 0, .int ss, .int ii, .int v] (wMs so sz (ceF g) J K) (fun r w' => ((¬ mIn ss 0 3) ∧ r = some (.int (-2)) ∧ w' = wMs so sz (ceF g) J K) ∨ ((mIn ss 0 3 ∧ so ss.toNatClampNeg = -1) ∧ r = some (.int (-11)) ∧ w' = wMs so sz (ceF g) J K) ∨ ((mIn ss 0 3 ∧ ¬ so ss.toNatClampNeg = -1 ∧ ¬ mIn ii 0 (sz ss.toNatClampNeg - 1)) ∧ r = some (.int (-12)) ∧ w' = wMs so sz (ceF g) J K) ∨ ((mIn ss 0 3 ∧ ¬ so ss.toNatClampNeg = -1 ∧ mIn ii 0 (sz ss.toNatClampNeg - 1)) ∧ r = some (.int 1) ∧ w' = wMs so sz (ceF (va_up g ss.toNatClampNeg (upd (g ss.toNatClampNeg) ii.toNatClampNeg (shCut (so ss.toNatClampNeg) v)))) J K)) := by
  refine Co.of ok_X7_cell rfl ?_
  refine ww_run 0 3 (pc' := 3) (lv' := [(0, .ref 0), (1, .int ss), (2, .int ii), (3, .int v)]) (st' := [.int 3, .int 0, .int ss]) (w' := wMs so sz (ceF g) J K) (Ps := []) rfl trivial ?_
  refine ww_cSi 3 ok_X7_in (Co.fr0 (c_X7_in ss 0 3) rfl) lk_X7_108 rfl (by omega) (rest := []) rfl (Nat.le_of_ble_eq_true rfl) rfl ?_
  refine ww_if_ne 4 rfl (tgt := 12) rfl (fun c1 => ?_) (fun c1 => ?_)
  · rw [b2i_ne0] at c1
    obtain ⟨s, hs, rfl⟩ := s4_nI c1
    refine ww_run 7 5 (pc' := 19) (lv' := [(0, .ref 0), (1, .int (nI s)), (2, .int ii), (3, .int v)]) (st' := [.int (-1), .int (so (nI s).toNatClampNeg)]) (w' := wMs so sz (ceF g) J K) (Ps := [vp_in (nI s) 4]) rfl ⟨(vp_in_nI (by omega) (by omega)), trivial⟩ ?_
    rw [nI_clamp (n := s) (by omega)]
    refine ww_icmp_ne 12 rfl (tgt := 25) rfl (fun c2 => ?_) (fun c2 => ?_)
    · refine ww_run 15 8 (pc' := 35) (lv' := [(0, .ref 0), (1, .int (nI s)), (2, .int ii), (3, .int v)]) (st' := [.int ((sz (nI s).toNatClampNeg) - 1), .int 0, .int ii]) (w' := wMs so sz (ceF g) J K) (Ps := [vp_in (nI s) 4]) rfl ⟨(vp_in_nI (by omega) (by omega)), trivial⟩ ?_
      rw [nI_clamp (n := s) (by omega)]
      refine ww_cSi 23 ok_X7_in (Co.fr0 (c_X7_in ii 0 ((sz s) - 1)) rfl) lk_X7_108 rfl (by omega) (rest := []) rfl (Nat.le_of_ble_eq_true rfl) rfl ?_
      refine ww_if_ne 24 rfl (tgt := 44) rfl (fun c3 => ?_) (fun c3 => ?_)
      · rw [b2i_ne0] at c3
        obtain ⟨i, hi, rfl⟩ : ∃ i : Nat, i < 40 ∧ ii = nI i := cell_in (hsz s hs) c3
        rw [ceF_up (g := g) (s := s)]
        refine ww_run 27 11 (pc' := 60) (lv' := [(0, .ref 0), (1, .int (nI s)), (2, .int (nI i)), (3, .int v)]) (st' := [.int (so (nI s).toNatClampNeg), .int ((40 * (nI s)) + (nI i)), .ref 13]) (w' := wMs so sz (ceF (va_up g s (g s))) J K) (Ps := [vp_in (nI s) 4]) rfl ⟨(vp_in_nI (by omega) (by omega)), trivial⟩ ?_
        rw [nI_clamp (n := s) (by omega)]
        rw [show (40 : Int32) * nI s = nI (40 * s) from pk_mul 40 s]
        rw [nI_add (40 * s) i]
        refine ww_if_ne 38 rfl (tgt := 68) rfl (fun c4 => ?_) (fun c4 => ?_)
        · refine ww_run 42 5 (pc' := 75) (lv' := [(0, .ref 0), (1, .int (nI s)), (2, .int (nI i)), (3, .int v)]) (st' := [.int 1, .int (so (nI s).toNatClampNeg), .int (nI (40 * s + i)), .ref 13]) (w' := wMs so sz (ceF (va_up g s (g s))) J K) (Ps := [vp_in (nI s) 4]) rfl ⟨(vp_in_nI (by omega) (by omega)), trivial⟩ ?_
          rw [nI_clamp (n := s) (by omega)]
          refine ww_icmp_ne 47 rfl (tgt := 83) rfl (fun c5 => ?_) (fun c5 => ?_)
          · refine ww_run 51 3 (pc' := 86) (lv' := [(0, .ref 0), (1, .int (nI s)), (2, .int (nI i)), (3, .int v)]) (st' := [.int 1]) (w' := wMs so sz (upd (ceF (va_up g s (g s))) ((nI (40 * s + i)).toNatClampNeg) v) J K) (Ps := [vp_in (nI (40 * s + i)) 160]) rfl ⟨(vp_in_nI (by omega) (by omega)), trivial⟩ ?_
            rw [nI_clamp (n := (40 * s + i)) (by omega)]
            rw [ce_u (by omega)]
            refine ww_iret 54 rfl rfl ?_
            refine Or.inr (Or.inr (Or.inr ⟨by (try simp only [nI_clamp (n := s) (by omega)]); exact ⟨c1, c2, c3⟩, rfl, ?_⟩))
            (try simp only [nI_clamp (n := s) (by omega), nI_clamp (n := i) (by omega)])
            unfold shCut
            rw [if_neg c4, if_neg c5]
          · refine ww_run 48 3 (pc' := 84) (lv' := [(0, .ref 0), (1, .int (nI s)), (2, .int (nI i)), (3, .int v)]) (st' := [.int v.toInt16.toInt32, .int (nI (40 * s + i)), .ref 13]) (w' := wMs so sz (ceF (va_up g s (g s))) J K) (Ps := []) rfl trivial ?_
            refine ww_run 52 2 (pc' := 86) (lv' := [(0, .ref 0), (1, .int (nI s)), (2, .int (nI i)), (3, .int v)]) (st' := [.int 1]) (w' := wMs so sz (upd (ceF (va_up g s (g s))) ((nI (40 * s + i)).toNatClampNeg) v.toInt16.toInt32) J K) (Ps := [vp_in (nI (40 * s + i)) 160]) rfl ⟨(vp_in_nI (by omega) (by omega)), trivial⟩ ?_
            rw [nI_clamp (n := (40 * s + i)) (by omega)]
            rw [ce_u (by omega)]
            refine ww_iret 54 rfl rfl ?_
            refine Or.inr (Or.inr (Or.inr ⟨by (try simp only [nI_clamp (n := s) (by omega)]); exact ⟨c1, c2, c3⟩, rfl, ?_⟩))
            (try simp only [nI_clamp (n := s) (by omega), nI_clamp (n := i) (by omega)])
            unfold shCut
            rw [if_neg c4, if_pos c5]
        · refine ww_run 39 3 (pc' := 84) (lv' := [(0, .ref 0), (1, .int (nI s)), (2, .int (nI i)), (3, .int v)]) (st' := [.int v.toInt8.toInt32, .int (nI (40 * s + i)), .ref 13]) (w' := wMs so sz (ceF (va_up g s (g s))) J K) (Ps := []) rfl trivial ?_
          refine ww_run 52 2 (pc' := 86) (lv' := [(0, .ref 0), (1, .int (nI s)), (2, .int (nI i)), (3, .int v)]) (st' := [.int 1]) (w' := wMs so sz (upd (ceF (va_up g s (g s))) ((nI (40 * s + i)).toNatClampNeg) v.toInt8.toInt32) J K) (Ps := [vp_in (nI (40 * s + i)) 160]) rfl ⟨(vp_in_nI (by omega) (by omega)), trivial⟩ ?_
          rw [nI_clamp (n := (40 * s + i)) (by omega)]
          rw [ce_u (by omega)]
          refine ww_iret 54 rfl rfl ?_
          refine Or.inr (Or.inr (Or.inr ⟨by (try simp only [nI_clamp (n := s) (by omega)]); exact ⟨c1, c2, c3⟩, rfl, ?_⟩))
          (try simp only [nI_clamp (n := s) (by omega), nI_clamp (n := i) (by omega)])
          unfold shCut
          rw [if_pos c4]
      · rw [b2i_eq0] at c3
        refine ww_run 25 1 (pc' := 43) (lv' := [(0, .ref 0), (1, .int (nI s)), (2, .int ii), (3, .int v)]) (st' := [.int (-12)]) (w' := wMs so sz (ceF g) J K) (Ps := []) rfl trivial ?_
        refine ww_iret 26 rfl rfl ?_
        exact Or.inr (Or.inr (Or.inl ⟨by (try simp only [nI_clamp (n := s) (by omega)]); exact ⟨c1, c2, c3⟩, rfl, rfl⟩))
    · refine ww_run 13 1 (pc' := 24) (lv' := [(0, .ref 0), (1, .int (nI s)), (2, .int ii), (3, .int v)]) (st' := [.int (-11)]) (w' := wMs so sz (ceF g) J K) (Ps := []) rfl trivial ?_
      refine ww_iret 14 rfl rfl ?_
      exact Or.inr (Or.inl ⟨by (try simp only [nI_clamp (n := s) (by omega)]); exact ⟨c1, c2⟩, rfl, rfl⟩)
  · rw [b2i_eq0] at c1
    refine ww_run 5 1 (pc' := 11) (lv' := [(0, .ref 0), (1, .int ss), (2, .int ii), (3, .int v)]) (st' := [.int (-2)]) (w' := wMs so sz (ceF g) J K) (Ps := []) rfl trivial ?_
    refine ww_iret 6 rfl rfl ?_
    exact Or.inl ⟨c1, rfl, rfl⟩
