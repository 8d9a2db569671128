/-- lots -/
def lotS (x : Int32) : Nat → Int64
  | 0 => x.toInt64 + 1
  | c + 1 => lotS x c * 48271 - lotS x c * 48271 / 2147483647 * 2147483647
def lotB (x : Int32) : Nat → Bool := fun c => decide (lg_cmp (lotS x (c + 1) - lotS x (c + 1) / 2 * 2) 1 = 0)
set_option maxHeartbeats 4000000 in
set_option maxRecDepth 100000 in
theorem l_X7_risenBy_23 {Q : Option Value → List va_E → Prop} {d : Nat} (hd : 7 ≤ d) (ki mo cd sr : Nat → Int32) (lent : Int32) (J : Nat → Int32) (K : Nat → Nat → Int32) (fr lo fa : Nat → Int32) (sty wset wfor : Int32) (x : MS) (z : Z3) (sy : SY) (T P C k : Nat) (hP : P ≤ 5) (hC : C ≤ 6) (hk : k < T) (hL : ML cd sr T sy) (hmo : MO6 mo) (xx : Int32) (KK : WW M_X7_risenBy d Q xz 75 [(0, .ref 0), (1, .int xx), (2, .long (lotS xx C)), (4, .int wset), (5, .int (nI C))] [] (wMv (wiF fr lo fa) ki mo (hoF sty (setOf (lotB xx) C) wfor) cd sr z.2.1 z.1 x.2.2.2.2.2.1 x.2.2.2.2.2.2 x.1 x.2.1 x.2.2.1 x.2.2.2.1 x.2.2.2.2.1 z.2.2 (nI P) (nI C) (nI k) lent J K)) :
    ∀ (n i : Nat) , i ≤ C → C + 1 ≤ i + n → WW M_X7_risenBy d Q xz 23 [(0, .ref 0), (1, .int xx), (2, .long (lotS xx i)), (4, .int wset), (5, .int (nI i))] [] (wMv (wiF fr lo fa) ki mo (hoF sty (setOf (lotB xx) i) wfor) cd sr z.2.1 z.1 x.2.2.2.2.2.1 x.2.2.2.2.2.2 x.1 x.2.1 x.2.2.1 x.2.2.2.1 x.2.2.2.2.1 z.2.2 (nI P) (nI C) (nI k) lent J K) := by
  intro n
  induction n with
  | zero => intro i; intros; omega
  | succ n ih =>
    intro i  hi hn 
    refine ww_run 17 3 (pc' := 29) (lv' := [(0, .ref 0), (1, .int xx), (2, .long (lotS xx i)), (4, .int wset), (5, .int (nI i))]) (st' := [.int (nI C), .int (nI i)]) (w' := wMv (wiF fr lo fa) ki mo (hoF sty (setOf (lotB xx) i) wfor) cd sr z.2.1 z.1 x.2.2.2.2.2.1 x.2.2.2.2.2.2 x.1 x.2.1 x.2.2.1 x.2.2.2.1 x.2.2.2.2.1 z.2.2 (nI P) (nI C) (nI k) lent J K) (Ps := []) rfl trivial ?_
    refine ww_icmp_ge 20 rfl (tgt := 75) rfl (fun c1 => ?_) (fun c1 => ?_)
    · have c1 : C ≤ i := (nI_leI (a := C) (b := i) (by omega) (by omega)).mp c1
      obtain rfl : i = C := by omega
      exact KK
    · have c1 : ¬ C ≤ i := fun q => c1 ((nI_leI (a := C) (b := i) (by omega) (by omega)).mpr q)
      refine ww_run 21 16 (pc' := 56) (lv' := [(2, .long (((lotS xx i) * 48271) - ((lotS xx i) * 48271) / 2147483647 * 2147483647)), (0, .ref 0), (1, .int xx), (4, .int wset), (5, .int (nI i))]) (st' := [.int (lg_cmp ((((lotS xx i) * 48271) - ((lotS xx i) * 48271) / 2147483647 * 2147483647) - (((lotS xx i) * 48271) - ((lotS xx i) * 48271) / 2147483647 * 2147483647) / 2 * 2) 1), .int (setOf (lotB xx) i), .int 1, .ref 4]) (w' := wMv (wiF fr lo fa) ki mo (hoF sty (setOf (lotB xx) i) wfor) cd sr z.2.1 z.1 x.2.2.2.2.2.1 x.2.2.2.2.2.2 x.1 x.2.1 x.2.2.1 x.2.2.2.1 x.2.2.2.2.1 z.2.2 (nI P) (nI C) (nI k) lent J K) (Ps := [¬ 2147483647 = 0, vp_in 1 3, ¬ 2 = 0]) rfl ⟨(by decide), (vp_in_nI (n := 1) (by decide) (by decide)), (by decide), trivial⟩ ?_
      refine ww_if_ne 37 rfl (tgt := 66) rfl (fun c2 => ?_) (fun c2 => ?_)
      · refine ww_run 42 5 (pc' := 23) (lv' := [(5, .int ((nI i) + 1)), (2, .long (((lotS xx i) * 48271) - ((lotS xx i) * 48271) / 2147483647 * 2147483647)), (0, .ref 0), (1, .int xx), (4, .int wset)]) (st' := []) (w' := wMv (wiF fr lo fa) ki mo (upd (hoF sty (setOf (lotB xx) i) wfor) 1 ((setOf (lotB xx) i) ||| 0)) cd sr z.2.1 z.1 x.2.2.2.2.2.1 x.2.2.2.2.2.2 x.1 x.2.1 x.2.2.1 x.2.2.2.1 x.2.2.2.2.1 z.2.2 (nI P) (nI C) (nI k) lent J K) (Ps := [vp_in 1 3]) rfl ⟨(vp_in_nI (n := 1) (by decide) (by decide)), trivial⟩ ?_
        rw [nI_1 i]
        rw [ho_u1]
        refine ww_lv [2, 3, 1, 4, 0] (lv' := [(0, .ref 0), (1, .int xx), (2, .long (((lotS xx i) * 48271) - ((lotS xx i) * 48271) / 2147483647 * 2147483647)), (4, .int wset), (5, .int (nI (i + 1)))]) rfl ?_
        have hh := ih (i + 1) (by omega) (by omega)
        have e : setOf (lotB xx) (i + 1) = ((setOf (lotB xx) i) ||| 0) := by
          simp only [setOf]
          rw [if_neg (by show ¬ lotB xx i = true; unfold lotB; rw [decide_eq_true_eq]; exact c2), or0_32]
        rw [e] at hh
        exact hh
      · refine ww_run 38 4 (pc' := 67) (lv' := [(2, .long (((lotS xx i) * 48271) - ((lotS xx i) * 48271) / 2147483647 * 2147483647)), (0, .ref 0), (1, .int xx), (4, .int wset), (5, .int (nI i))]) (st' := [.int (1 <<< ((nI i) &&& 31)), .int (setOf (lotB xx) i), .int 1, .ref 4]) (w' := wMv (wiF fr lo fa) ki mo (hoF sty (setOf (lotB xx) i) wfor) cd sr z.2.1 z.1 x.2.2.2.2.2.1 x.2.2.2.2.2.2 x.1 x.2.1 x.2.2.1 x.2.2.2.1 x.2.2.2.2.1 z.2.2 (nI P) (nI C) (nI k) lent J K) (Ps := []) rfl trivial ?_
        refine ww_run 43 4 (pc' := 23) (lv' := [(5, .int ((nI i) + 1)), (2, .long (((lotS xx i) * 48271) - ((lotS xx i) * 48271) / 2147483647 * 2147483647)), (0, .ref 0), (1, .int xx), (4, .int wset)]) (st' := []) (w' := wMv (wiF fr lo fa) ki mo (upd (hoF sty (setOf (lotB xx) i) wfor) 1 ((setOf (lotB xx) i) ||| (1 <<< ((nI i) &&& 31)))) cd sr z.2.1 z.1 x.2.2.2.2.2.1 x.2.2.2.2.2.2 x.1 x.2.1 x.2.2.1 x.2.2.2.1 x.2.2.2.2.1 z.2.2 (nI P) (nI C) (nI k) lent J K) (Ps := [vp_in 1 3]) rfl ⟨(vp_in_nI (n := 1) (by decide) (by decide)), trivial⟩ ?_
        rw [nI_1 i]
        rw [ho_u1]
        refine ww_lv [2, 3, 1, 4, 0] (lv' := [(0, .ref 0), (1, .int xx), (2, .long (((lotS xx i) * 48271) - ((lotS xx i) * 48271) / 2147483647 * 2147483647)), (4, .int wset), (5, .int (nI (i + 1)))]) rfl ?_
        have hh := ih (i + 1) (by omega) (by omega)
        have e : setOf (lotB xx) (i + 1) = ((setOf (lotB xx) i) ||| (1 <<< ((nI i) &&& 31))) := by
          simp only [setOf]
          rw [if_pos (show lotB xx i = true from decide_eq_true c2)]
        rw [e] at hh
        exact hh
set_option maxHeartbeats 4000000 in
set_option maxRecDepth 100000 in
theorem m_risenBy (ki mo cd sr : Nat → Int32) (lent : Int32) (J : Nat → Int32) (K : Nat → Nat → Int32) (fr lo fa : Nat → Int32) (sty wset wfor : Int32) (x : MS) (z : Z3) (sy : SY) (T P C k : Nat) (hP : P ≤ 5) (hC : C ≤ 6) (hk : k < T) (hL : ML cd sr T sy) (hmo : MO6 mo) (xx : Int32) : Co M_X7_risenBy 8 0 0 [.ref 0, .int xx] (wMv (wiF fr lo fa) ki mo (hoF sty wset wfor) cd sr z.2.1 z.1 x.2.2.2.2.2.1 x.2.2.2.2.2.2 x.1 x.2.1 x.2.2.1 x.2.2.2.1 x.2.2.2.2.1 z.2.2 (nI P) (nI C) (nI k) lent J K) (fun r w' => r = some (.int (riS (evS sy P C fr lo fa ki mo k sty (setOf (lotB xx) C) wfor lent 30))) ∧ ∃ (x : MS) (z : Z3), w' = wMv (wiF fr lo fa) ki mo (hoF sty wset wfor) cd sr z.2.1 z.1 x.2.2.2.2.2.1 x.2.2.2.2.2.2 x.1 x.2.1 x.2.2.1 x.2.2.2.1 x.2.2.2.2.1 z.2.2 (nI P) (nI C) (nI k) lent J K) := by
  refine Co.of ok_X7_risenBy rfl ?_
  refine ww_run 0 17 (pc' := 23) (lv' := [(5, .int 0), (4, .int wset), (2, .long (xx.toInt64 + 1)), (0, .ref 0), (1, .int xx)]) (st' := []) (w' := wMv (wiF fr lo fa) ki mo (upd (hoF sty wset wfor) 1 0) cd sr z.2.1 z.1 x.2.2.2.2.2.1 x.2.2.2.2.2.2 x.1 x.2.1 x.2.2.1 x.2.2.2.1 x.2.2.2.2.1 z.2.2 (nI P) (nI C) (nI k) lent J K) (Ps := [vp_in 1 3, vp_in 1 3]) rfl ⟨(vp_in_nI (n := 1) (by decide) (by decide)), (vp_in_nI (n := 1) (by decide) (by decide)), trivial⟩ ?_
  rw [ho_u1]
  refine ww_lv [3, 4, 2, 1, 0] (lv' := [(0, .ref 0), (1, .int xx), (2, .long (xx.toInt64 + 1)), (4, .int wset), (5, .int 0)]) rfl ?_
  refine l_X7_risenBy_23 (by omega) ki mo cd sr lent J K fr lo fa sty wset wfor x z sy T P C k hP hC hk hL hmo xx ?_ (C + 1) 0 (by omega) (by omega)
  refine ww_run 47 2 (pc' := 78) (lv' := [(0, .ref 0), (1, .int xx), (2, .long (lotS xx C)), (4, .int wset), (5, .int (nI C))]) (st' := [.int 30, .ref 0]) (w' := wMv (wiF fr lo fa) ki mo (hoF sty (setOf (lotB xx) C) wfor) cd sr z.2.1 z.1 x.2.2.2.2.2.1 x.2.2.2.2.2.2 x.1 x.2.1 x.2.2.1 x.2.2.2.1 x.2.2.2.2.1 z.2.2 (nI P) (nI C) (nI k) lent J K) (Ps := []) rfl trivial ?_
  refine ww_cV 49 ok_X7_lives (m_lives ki mo cd sr lent J K fr lo fa sty (setOf (lotB xx) C) wfor x z sy T P C k hP hC hk hL hmo 30 (by omega)) lk_X7_238 rfl (by omega) (rest := []) rfl (Nat.le_of_ble_eq_true rfl) rfl rfl rfl rfl (fun r w' hq => ?_)
  obtain ⟨rfl, x1, z1, hR1, rfl⟩ := hq
  have hI1 : INV P C (evS sy P C fr lo fa ki mo k sty (setOf (lotB xx) C) wfor lent 30) := evS_inv hL.2.1 hP hC hmo (by omega)
  refine ww_run 50 6 (pc' := 90) (lv' := [(0, .ref 0), (1, .int xx), (2, .long (lotS xx C)), (4, .int wset), (5, .int (nI C))]) (st' := [.ref 0]) (w' := wMv (wiF fr lo fa) ki mo (upd (hoF sty (setOf (lotB xx) C) wfor) 1 wset) cd sr z1.2.1 z1.1 x1.2.2.2.2.2.1 x1.2.2.2.2.2.2 x1.1 x1.2.1 x1.2.2.1 x1.2.2.2.1 x1.2.2.2.2.1 z1.2.2 (nI P) (nI C) (nI k) lent J K) (Ps := [vp_in 1 3]) rfl ⟨(vp_in_nI (n := 1) (by decide) (by decide)), trivial⟩ ?_
  rw [ho_u1]
  refine ww_cVi 56 ok_X7_risen (c_X7_risen (wiF fr lo fa) ki mo (hoF sty wset wfor) cd sr z1.2.1 z1.1 x1.2.2.2.2.2.1 x1.2.2.2.2.2.2 x1.1 x1.2.1 x1.2.2.1 x1.2.2.2.1 x1.2.2.2.2.1 z1.2.2 (nI C) (nI k) lent J K P hP) lk_X7_241 rfl (by omega) (rest := []) rfl (Nat.le_of_ble_eq_true rfl) rfl rfl rfl rfl ?_
  rw [ob_risen hR1 hI1]
  refine ww_iret 57 rfl rfl ?_
  exact ⟨rfl, x1, z1, rfl⟩
set_option maxHeartbeats 4000000 in
set_option maxRecDepth 100000 in
theorem m_drawn (ki mo cd sr : Nat → Int32) (lent : Int32) (J : Nat → Int32) (K : Nat → Nat → Int32) (fr lo fa : Nat → Int32) (sty wset wfor : Int32) (x : MS) (z : Z3) (sy : SY) (T P C k : Nat) (hP : P ≤ 5) (hC : C ≤ 6) (hk : k < T) (hL : ML cd sr T sy) (hmo : MO6 mo) (xx : Int32) : Co M_X7_drawn 9 0 0 [.ref 0, .int xx] (wMv (wiF fr lo fa) ki mo (hoF sty wset wfor) cd sr z.2.1 z.1 x.2.2.2.2.2.1 x.2.2.2.2.2.2 x.1 x.2.1 x.2.2.1 x.2.2.2.1 x.2.2.2.2.1 z.2.2 (nI P) (nI C) (nI k) lent J K) (fun r w' => r = some (.int (if mIn xx 0 99999 then riS (evS sy P C fr lo fa ki mo k sty (setOf (lotB xx) C) wfor lent 30) else -2)) ∧ ∃ (x : MS) (z : Z3), w' = wMv (wiF fr lo fa) ki mo (hoF sty wset wfor) cd sr z.2.1 z.1 x.2.2.2.2.2.1 x.2.2.2.2.2.2 x.1 x.2.1 x.2.2.1 x.2.2.2.1 x.2.2.2.2.1 z.2.2 (nI P) (nI C) (nI k) lent J K) := by
  refine Co.of ok_X7_drawn rfl ?_
  refine ww_run 0 3 (pc' := 5) (lv' := [(0, .ref 0), (1, .int xx)]) (st' := [.int 99999, .int 0, .int xx]) (w' := wMv (wiF fr lo fa) ki mo (hoF sty wset wfor) cd sr z.2.1 z.1 x.2.2.2.2.2.1 x.2.2.2.2.2.2 x.1 x.2.1 x.2.2.1 x.2.2.2.1 x.2.2.2.2.1 z.2.2 (nI P) (nI C) (nI k) lent J K) (Ps := []) rfl trivial ?_
  refine ww_cSi 3 ok_X7_in (Co.fr0 (c_X7_in xx 0 99999) rfl) lk_X7_108 rfl (by omega) (rest := []) rfl (Nat.le_of_ble_eq_true rfl) rfl ?_
  refine ww_if_eq 4 rfl (tgt := 19) rfl (fun c1 => ?_) (fun c1 => ?_)
  · rw [b2i_eq0] at c1
    refine ww_run 9 1 (pc' := 21) (lv' := [(0, .ref 0), (1, .int xx)]) (st' := [.int (-2)]) (w' := wMv (wiF fr lo fa) ki mo (hoF sty wset wfor) cd sr z.2.1 z.1 x.2.2.2.2.2.1 x.2.2.2.2.2.2 x.1 x.2.1 x.2.2.1 x.2.2.2.1 x.2.2.2.2.1 z.2.2 (nI P) (nI C) (nI k) lent J K) (Ps := []) rfl trivial ?_
    refine ww_iret 10 rfl rfl ?_
    exact ⟨by rw [if_neg c1], x, z, rfl⟩
  · rw [b2i_ne0] at c1
    refine ww_run 5 2 (pc' := 13) (lv' := [(0, .ref 0), (1, .int xx)]) (st' := [.int xx, .ref 0]) (w' := wMv (wiF fr lo fa) ki mo (hoF sty wset wfor) cd sr z.2.1 z.1 x.2.2.2.2.2.1 x.2.2.2.2.2.2 x.1 x.2.1 x.2.2.1 x.2.2.2.1 x.2.2.2.2.1 z.2.2 (nI P) (nI C) (nI k) lent J K) (Ps := []) rfl trivial ?_
    refine ww_cV 7 ok_X7_risenBy (m_risenBy ki mo cd sr lent J K fr lo fa sty wset wfor x z sy T P C k hP hC hk hL hmo xx) lk_X7_316 rfl (by omega) (rest := []) rfl (Nat.le_of_ble_eq_true rfl) rfl rfl rfl rfl (fun r w' hq => ?_)
    obtain ⟨rfl, x1, z1, rfl⟩ := hq
    refine ww_run 8 1 (pc' := 21) (lv' := [(0, .ref 0), (1, .int xx)]) (st' := [.int (riS (evS sy P C fr lo fa ki mo k sty (setOf (lotB xx) C) wfor lent 30))]) (w' := wMv (wiF fr lo fa) ki mo (hoF sty wset wfor) cd sr z1.2.1 z1.1 x1.2.2.2.2.2.1 x1.2.2.2.2.2.2 x1.1 x1.2.1 x1.2.2.1 x1.2.2.2.1 x1.2.2.2.2.1 z1.2.2 (nI P) (nI C) (nI k) lent J K) (Ps := []) rfl trivial ?_
    refine ww_iret 10 rfl rfl ?_
    exact ⟨by rw [if_pos c1], x1, z1, rfl⟩
abbrev Ql (x : Int64) (w0 : List va_E) : Option Value → List va_E → Prop := fun r w' => r = some (.long x) ∧ w' = w0
theorem Co.fr0l {M : XM} {d : Nat} {av : List Value} {w : List va_E} {x : Int64} (h : Co M d 0 0 av [] (Ql x [])) (hv : av.all (xsc 0) = true) : Co M d 0 0 av w (Ql x w) := by
  have h1 := Co.frame (w := w) [] h rfl rfl
  rw [show av.map (xt (xr [])) = av from ?_] at h1
  · exact h1.imp (fun r w' h => by
      obtain ⟨r0, w2, ⟨rfl, rfl⟩, rfl, rfl⟩ := h
      exact ⟨rfl, rfl⟩)
  · rw [List.map_congr_left (g := id)]
    · simp
    · intro v hm
      have h2 := List.all_eq_true.mp hv v hm
      cases v <;> first | rfl | (simp [xsc] at h2)
def lowV (A B : Nat) (part : Int32) : Int64 := if A = 0 then part.toInt64 else lN ((if part = 0 then A else B) / Nat.gcd A B)
def cntB (ok : Nat → Bool) : Nat → Nat
  | 0 => 0
  | n + 1 => if ok n then cntB ok n + 1 else cntB ok n
theorem cntB_le (ok : Nat → Bool) : ∀ n, cntB ok n ≤ n
  | 0 => Nat.le_refl 0
  | n + 1 => by
    have := cntB_le ok n
    simp only [cntB]
    split <;> omega

theorem lN_p0 (x : Int64) : x + 0 = x := by simp
set_option maxHeartbeats 4000000 in
set_option maxRecDepth 100000 in
theorem l_X7_lowest_16 {Q : Option Value → List va_E → Prop} {d : Nat} (A B : Nat) (part : Int32) (KK : WW M_X7_lowest d Q xz 41 [(0, .long (lN A)), (2, .long (lN B)), (4, .int part), (5, .long (lN (Nat.gcd A B)))] [] wZero) :
    ∀ (n a b : Nat), b + 1 ≤ n → n < 1000 → a < 1000 → Nat.gcd a b = Nat.gcd A B → WW M_X7_lowest d Q xz 16 [(0, .long (lN A)), (2, .long (lN B)), (4, .int part), (5, .long (lN a)), (7, .long (lN b))] [] wZero := by
  intro n
  induction n with
  | zero => intros; omega
  | succ n ih =>
    intro a b hbn hn ha hg
    refine ww_run 11 3 (pc' := 20) (lv' := [(0, .long (lN A)), (2, .long (lN B)), (4, .int part), (5, .long (lN a)), (7, .long (lN b))]) (st' := [.int (lg_cmp (lN b) 0)]) (w' := wZero ) (Ps := []) rfl trivial ?_
    refine ww_if_eq 14 rfl (tgt := 41) rfl (fun c1 => ?_) (fun c1 => ?_)
    · obtain rfl : b = 0 := (pk_lEQ (by omega) (by omega)).mp (show lN b = lN 0 from (lg_cmp_eq _ _).mp c1)
      rw [Nat.gcd_zero_right] at hg
      refine ww_lv [0, 1, 2, 3] (lv' := [(0, .long (lN A)), (2, .long (lN B)), (4, .int part), (5, .long (lN a))]) rfl ?_
      rw [hg]
      exact KK
    · refine ww_run 15 9 (pc' := 16) (lv' := [(7, .long ((lN a) - (lN a) / (lN b) * (lN b))), (5, .long (lN b)), (9, .long ((lN a) - (lN a) / (lN b) * (lN b))), (0, .long (lN A)), (2, .long (lN B)), (4, .int part)]) (st' := []) (w' := wZero ) (Ps := [¬ (lN b) = 0]) rfl ⟨(fun q => c1 ((lg_cmp_eq _ _).mpr q)), trivial⟩ ?_
      have hb0 : 0 < b := Nat.pos_of_ne_zero (fun q => c1 (by rw [q]; decide))
      refine ww_lv [3, 4, 5, 1, 0] (lv' := [(0, .long (lN A)), (2, .long (lN B)), (4, .int part), (5, .long (lN b)), (7, .long ((lN a) - (lN a) / (lN b) * (lN b)))]) rfl ?_
      rw [pk_lRem (a := a) (b := b) (by omega) hb0 (by omega)]
      have hm := Nat.mod_lt a hb0
      exact ih b (a % b) (by omega) (by omega) (by omega) (by rw [Nat.gcd_comm, ← Nat.gcd_rec, Nat.gcd_comm]; exact hg)
set_option maxHeartbeats 4000000 in
set_option maxRecDepth 100000 in
theorem c_X7_lowest  (A B : Nat) (part : Int32) (hA : A ≤ 20) (hB : B ≤ 20) : Co M_X7_lowest 0 0 0 [.long (lN A), .long (lN B), .int part] (wZero ) (Ql (lowV A B part) wZero ) := by
  refine Co.of ok_X7_lowest rfl ?_
  refine ww_run 0 3 (pc' := 3) (lv' := [(0, .long (lN A)), (2, .long (lN B)), (4, .int part)]) (st' := [.int (lg_cmp (lN A) 0)]) (w' := wZero ) (Ps := []) rfl trivial ?_
  refine ww_if_ne 3 rfl (tgt := 10) rfl (fun c1 => ?_) (fun c1 => ?_)
  · refine ww_run 7 4 (pc' := 16) (lv' := [(7, .long (lN B)), (5, .long (lN A)), (0, .long (lN A)), (2, .long (lN B)), (4, .int part)]) (st' := []) (w' := wZero ) (Ps := []) rfl trivial ?_
    refine ww_lv [2, 3, 4, 1, 0] (lv' := [(0, .long (lN A)), (2, .long (lN B)), (4, .int part), (5, .long (lN A)), (7, .long (lN B))]) rfl ?_
    have hA0 : ¬ A = 0 := fun q => c1 (by rw [q]; decide)
    have hg0 : 0 < Nat.gcd A B := Nat.gcd_pos_of_pos_left B (by omega)
    have hgB : Nat.gcd A B ≤ A := Nat.gcd_le_left B (by omega)
    refine l_X7_lowest_16 A B part ?_ (B + 1) A B (by omega) (by omega) (by omega) rfl
    refine ww_run 24 1 (pc' := 43) (lv' := [(0, .long (lN A)), (2, .long (lN B)), (4, .int part), (5, .long (lN (Nat.gcd A B)))]) (st' := [.int part]) (w' := wZero ) (Ps := []) rfl trivial ?_
    refine ww_if_ne 25 rfl (tgt := 50) rfl (fun c2 => ?_) (fun c2 => ?_)
    · refine ww_run 28 3 (pc' := 54) (lv' := [(0, .long (lN A)), (2, .long (lN B)), (4, .int part), (5, .long (lN (Nat.gcd A B)))]) (st' := [.long ((lN B) / (lN (Nat.gcd A B)))]) (w' := wZero ) (Ps := [¬ (lN (Nat.gcd A B)) = 0]) rfl ⟨(fun q => absurd ((pk_lEQ (by omega) (by omega)).mp (show lN (Nat.gcd A B) = lN 0 from q)) (by omega)), trivial⟩ ?_
      refine ww_lret 31 rfl rfl ?_
      exact ⟨by unfold lowV; rw [if_neg hA0, if_neg c2, pk_lDiv (by omega) hg0 (by omega)], rfl⟩
    · refine ww_run 26 2 (pc' := 51) (lv' := [(0, .long (lN A)), (2, .long (lN B)), (4, .int part), (5, .long (lN (Nat.gcd A B)))]) (st' := [.long (lN A)]) (w' := wZero ) (Ps := []) rfl trivial ?_
      refine ww_run 29 2 (pc' := 54) (lv' := [(0, .long (lN A)), (2, .long (lN B)), (4, .int part), (5, .long (lN (Nat.gcd A B)))]) (st' := [.long ((lN A) / (lN (Nat.gcd A B)))]) (w' := wZero ) (Ps := [¬ (lN (Nat.gcd A B)) = 0]) rfl ⟨(fun q => absurd ((pk_lEQ (by omega) (by omega)).mp (show lN (Nat.gcd A B) = lN 0 from q)) (by omega)), trivial⟩ ?_
      refine ww_lret 31 rfl rfl ?_
      exact ⟨by unfold lowV; rw [if_neg hA0, if_pos c2, pk_lDiv (by omega) hg0 (by omega)], rfl⟩
  · refine ww_run 4 2 (pc' := 9) (lv' := [(0, .long (lN A)), (2, .long (lN B)), (4, .int part)]) (st' := [.long part.toInt64]) (w' := wZero ) (Ps := []) rfl trivial ?_
    refine ww_lret 6 rfl rfl ?_
    have hA0 : A = 0 := (pk_lEQ (by omega) (by omega)).mp (show lN A = lN 0 from (lg_cmp_eq _ _).mp c1)
    exact ⟨by unfold lowV; rw [if_pos hA0], rfl⟩
set_option maxHeartbeats 4000000 in
set_option maxRecDepth 100000 in
theorem l_X7_odds_50 {Q : Option Value → List va_E → Prop} {d : Nat} (hd : 9 ≤ d) (ki mo cd sr : Nat → Int32) (lent : Int32) (J : Nat → Int32) (K : Nat → Nat → Int32) (fr lo fa : Nat → Int32) (sty wset wfor : Int32) (sy : SY) (T P C k : Nat) (hP : P ≤ 5) (hC : C ≤ 6) (hk : k < T) (hL : ML cd sr T sy) (hmo : MO6 mo) (xx nn part : Int32) (S : Nat) (hS : S ≤ 20) (KK : ∀ (x : MS) (z : Z3), WW M_X7_odds d Q xz 84 [(0, .ref 0), (1, .int xx), (2, .int (nI S)), (3, .int nn), (4, .int part), (5, .long (lN (cntB (fun q => decide (¬ riS (evS sy P C fr lo fa ki mo k sty (setOf (lotB (xx + nI q)) C) wfor lent 30) < nn)) S))), (7, .int (nI S))] [] (wMv (wiF fr lo fa) ki mo (hoF sty wset wfor) cd sr z.2.1 z.1 x.2.2.2.2.2.1 x.2.2.2.2.2.2 x.1 x.2.1 x.2.2.1 x.2.2.2.1 x.2.2.2.2.1 z.2.2 (nI P) (nI C) (nI k) lent J K)) :
    ∀ (n i : Nat) (x : MS) (z : Z3), i ≤ S → S + 1 ≤ i + n → WW M_X7_odds d Q xz 50 [(0, .ref 0), (1, .int xx), (2, .int (nI S)), (3, .int nn), (4, .int part), (5, .long (lN (cntB (fun q => decide (¬ riS (evS sy P C fr lo fa ki mo k sty (setOf (lotB (xx + nI q)) C) wfor lent 30) < nn)) i))), (7, .int (nI i))] [] (wMv (wiF fr lo fa) ki mo (hoF sty wset wfor) cd sr z.2.1 z.1 x.2.2.2.2.2.1 x.2.2.2.2.2.2 x.1 x.2.1 x.2.2.1 x.2.2.2.1 x.2.2.2.2.1 z.2.2 (nI P) (nI C) (nI k) lent J K) := by
  intro n
  induction n with
  | zero => intro i; intros; omega
  | succ n ih =>
    intro i x z hi hn 
    refine ww_run 26 2 (pc' := 53) (lv' := [(0, .ref 0), (1, .int xx), (2, .int (nI S)), (3, .int nn), (4, .int part), (5, .long (lN (cntB (fun q => decide (¬ riS (evS sy P C fr lo fa ki mo k sty (setOf (lotB (xx + nI q)) C) wfor lent 30) < nn)) i))), (7, .int (nI i))]) (st' := [.int (nI S), .int (nI i)]) (w' := wMv (wiF fr lo fa) ki mo (hoF sty wset wfor) cd sr z.2.1 z.1 x.2.2.2.2.2.1 x.2.2.2.2.2.2 x.1 x.2.1 x.2.2.1 x.2.2.2.1 x.2.2.2.2.1 z.2.2 (nI P) (nI C) (nI k) lent J K) (Ps := []) rfl trivial ?_
    refine ww_icmp_ge 28 rfl (tgt := 84) rfl (fun c1 => ?_) (fun c1 => ?_)
    · have c1 : S ≤ i := (nI_leI (a := S) (b := i) (by omega) (by omega)).mp c1
      obtain rfl : i = S := by omega
      exact KK x z
    · have c1 : ¬ S ≤ i := fun q => c1 ((nI_leI (a := S) (b := i) (by omega) (by omega)).mpr q)
      refine ww_run 29 5 (pc' := 63) (lv' := [(0, .ref 0), (1, .int xx), (2, .int (nI S)), (3, .int nn), (4, .int part), (5, .long (lN (cntB (fun q => decide (¬ riS (evS sy P C fr lo fa ki mo k sty (setOf (lotB (xx + nI q)) C) wfor lent 30) < nn)) i))), (7, .int (nI i))]) (st' := [.int (xx + (nI i)), .ref 0, .long (lN (cntB (fun q => decide (¬ riS (evS sy P C fr lo fa ki mo k sty (setOf (lotB (xx + nI q)) C) wfor lent 30) < nn)) i))]) (w' := wMv (wiF fr lo fa) ki mo (hoF sty wset wfor) cd sr z.2.1 z.1 x.2.2.2.2.2.1 x.2.2.2.2.2.2 x.1 x.2.1 x.2.2.1 x.2.2.2.1 x.2.2.2.2.1 z.2.2 (nI P) (nI C) (nI k) lent J K) (Ps := []) rfl trivial ?_
      refine ww_cV 34 ok_X7_risenBy (m_risenBy ki mo cd sr lent J K fr lo fa sty wset wfor x z sy T P C k hP hC hk hL hmo (xx + (nI i))) lk_X7_316 rfl (by omega) (rest := [.long (lN (cntB (fun q => decide (¬ riS (evS sy P C fr lo fa ki mo k sty (setOf (lotB (xx + nI q)) C) wfor lent 30) < nn)) i))]) rfl (Nat.le_of_ble_eq_true rfl) rfl rfl rfl rfl (fun r w' hq => ?_)
      obtain ⟨rfl, x1, z1, rfl⟩ := hq
      refine ww_run 35 1 (pc' := 67) (lv' := [(0, .ref 0), (1, .int xx), (2, .int (nI S)), (3, .int nn), (4, .int part), (5, .long (lN (cntB (fun q => decide (¬ riS (evS sy P C fr lo fa ki mo k sty (setOf (lotB (xx + nI q)) C) wfor lent 30) < nn)) i))), (7, .int (nI i))]) (st' := [.int nn, .int (riS (evS sy P C fr lo fa ki mo k sty (setOf (lotB (xx + (nI i))) C) wfor lent 30)), .long (lN (cntB (fun q => decide (¬ riS (evS sy P C fr lo fa ki mo k sty (setOf (lotB (xx + nI q)) C) wfor lent 30) < nn)) i))]) (w' := wMv (wiF fr lo fa) ki mo (hoF sty wset wfor) cd sr z1.2.1 z1.1 x1.2.2.2.2.2.1 x1.2.2.2.2.2.2 x1.1 x1.2.1 x1.2.2.1 x1.2.2.2.1 x1.2.2.2.2.1 z1.2.2 (nI P) (nI C) (nI k) lent J K) (Ps := []) rfl trivial ?_
      refine ww_icmp_lt 36 rfl (tgt := 74) rfl (fun c2 => ?_) (fun c2 => ?_)
      · refine ww_run 39 5 (pc' := 50) (lv' := [(7, .int ((nI i) + 1)), (5, .long ((lN (cntB (fun q => decide (¬ riS (evS sy P C fr lo fa ki mo k sty (setOf (lotB (xx + nI q)) C) wfor lent 30) < nn)) i)) + 0)), (0, .ref 0), (1, .int xx), (2, .int (nI S)), (3, .int nn), (4, .int part)]) (st' := []) (w' := wMv (wiF fr lo fa) ki mo (hoF sty wset wfor) cd sr z1.2.1 z1.1 x1.2.2.2.2.2.1 x1.2.2.2.2.2.2 x1.1 x1.2.1 x1.2.2.1 x1.2.2.2.1 x1.2.2.2.2.1 z1.2.2 (nI P) (nI C) (nI k) lent J K) (Ps := []) rfl trivial ?_
        rw [nI_1 i]
        refine ww_lv [2, 3, 4, 5, 6, 1, 0] (lv' := [(0, .ref 0), (1, .int xx), (2, .int (nI S)), (3, .int nn), (4, .int part), (5, .long ((lN (cntB (fun q => decide (¬ riS (evS sy P C fr lo fa ki mo k sty (setOf (lotB (xx + nI q)) C) wfor lent 30) < nn)) i)) + 0)), (7, .int (nI (i + 1)))]) rfl ?_
        have hh := ih (i + 1) x1 z1 (by omega) (by omega)
        rw [lN_p0]
        have e : cntB (fun q => decide (¬ riS (evS sy P C fr lo fa ki mo k sty (setOf (lotB (xx + nI q)) C) wfor lent 30) < nn)) (i + 1) = cntB (fun q => decide (¬ riS (evS sy P C fr lo fa ki mo k sty (setOf (lotB (xx + nI q)) C) wfor lent 30) < nn)) i := by simp only [cntB]; rw [if_neg (by rw [decide_eq_true_eq]; exact fun q => q c2)]
        rw [e] at hh
        exact hh
      · refine ww_run 37 2 (pc' := 75) (lv' := [(0, .ref 0), (1, .int xx), (2, .int (nI S)), (3, .int nn), (4, .int part), (5, .long (lN (cntB (fun q => decide (¬ riS (evS sy P C fr lo fa ki mo k sty (setOf (lotB (xx + nI q)) C) wfor lent 30) < nn)) i))), (7, .int (nI i))]) (st' := [.long 1, .long (lN (cntB (fun q => decide (¬ riS (evS sy P C fr lo fa ki mo k sty (setOf (lotB (xx + nI q)) C) wfor lent 30) < nn)) i))]) (w' := wMv (wiF fr lo fa) ki mo (hoF sty wset wfor) cd sr z1.2.1 z1.1 x1.2.2.2.2.2.1 x1.2.2.2.2.2.2 x1.1 x1.2.1 x1.2.2.1 x1.2.2.2.1 x1.2.2.2.2.1 z1.2.2 (nI P) (nI C) (nI k) lent J K) (Ps := []) rfl trivial ?_
        refine ww_run 40 4 (pc' := 50) (lv' := [(7, .int ((nI i) + 1)), (5, .long ((lN (cntB (fun q => decide (¬ riS (evS sy P C fr lo fa ki mo k sty (setOf (lotB (xx + nI q)) C) wfor lent 30) < nn)) i)) + 1)), (0, .ref 0), (1, .int xx), (2, .int (nI S)), (3, .int nn), (4, .int part)]) (st' := []) (w' := wMv (wiF fr lo fa) ki mo (hoF sty wset wfor) cd sr z1.2.1 z1.1 x1.2.2.2.2.2.1 x1.2.2.2.2.2.2 x1.1 x1.2.1 x1.2.2.1 x1.2.2.2.1 x1.2.2.2.2.1 z1.2.2 (nI P) (nI C) (nI k) lent J K) (Ps := []) rfl trivial ?_
        rw [nI_1 i]
        refine ww_lv [2, 3, 4, 5, 6, 1, 0] (lv' := [(0, .ref 0), (1, .int xx), (2, .int (nI S)), (3, .int nn), (4, .int part), (5, .long ((lN (cntB (fun q => decide (¬ riS (evS sy P C fr lo fa ki mo k sty (setOf (lotB (xx + nI q)) C) wfor lent 30) < nn)) i)) + 1)), (7, .int (nI (i + 1)))]) rfl ?_
        have hh := ih (i + 1) x1 z1 (by omega) (by omega)
        rw [lN_1]
        have e : cntB (fun q => decide (¬ riS (evS sy P C fr lo fa ki mo k sty (setOf (lotB (xx + nI q)) C) wfor lent 30) < nn)) (i + 1) = cntB (fun q => decide (¬ riS (evS sy P C fr lo fa ki mo k sty (setOf (lotB (xx + nI q)) C) wfor lent 30) < nn)) i + 1 := by simp only [cntB]; rw [if_pos (decide_eq_true c2)]
        rw [e] at hh
        exact hh
set_option maxHeartbeats 4000000 in
set_option maxRecDepth 100000 in
theorem m_odds (ki mo cd sr : Nat → Int32) (lent : Int32) (J : Nat → Int32) (K : Nat → Nat → Int32) (fr lo fa : Nat → Int32) (sty wset wfor : Int32) (x : MS) (z : Z3) (sy : SY) (T P C k : Nat) (hP : P ≤ 5) (hC : C ≤ 6) (hk : k < T) (hL : ML cd sr T sy) (hmo : MO6 mo) (xx sd nn part : Int32) : Co M_X7_odds 10 0 0 [.ref 0, .int xx, .int sd, .int nn, .int part] (wMv (wiF fr lo fa) ki mo (hoF sty wset wfor) cd sr z.2.1 z.1 x.2.2.2.2.2.1 x.2.2.2.2.2.2 x.1 x.2.1 x.2.2.1 x.2.2.2.1 x.2.2.2.2.1 z.2.2 (nI P) (nI C) (nI k) lent J K) (fun r w' => r = some (.long (if mIn xx 0 99999 ∧ mIn sd 1 20 ∧ mIn nn 0 5 ∧ mIn part 0 1 then lowV (cntB (fun q => decide (¬ riS (evS sy P C fr lo fa ki mo k sty (setOf (lotB (xx + nI q)) C) wfor lent 30) < nn)) sd.toNatClampNeg) sd.toNatClampNeg part else (-4611686018427387904))) ∧ ∃ (x : MS) (z : Z3), w' = wMv (wiF fr lo fa) ki mo (hoF sty wset wfor) cd sr z.2.1 z.1 x.2.2.2.2.2.1 x.2.2.2.2.2.2 x.1 x.2.1 x.2.2.1 x.2.2.2.1 x.2.2.2.2.1 z.2.2 (nI P) (nI C) (nI k) lent J K) := by
  refine Co.of ok_X7_odds rfl ?_
  refine ww_run 0 3 (pc' := 5) (lv' := [(0, .ref 0), (1, .int xx), (2, .int sd), (3, .int nn), (4, .int part)]) (st' := [.int 99999, .int 0, .int xx]) (w' := wMv (wiF fr lo fa) ki mo (hoF sty wset wfor) cd sr z.2.1 z.1 x.2.2.2.2.2.1 x.2.2.2.2.2.2 x.1 x.2.1 x.2.2.1 x.2.2.2.1 x.2.2.2.2.1 z.2.2 (nI P) (nI C) (nI k) lent J K) (Ps := []) rfl trivial ?_
  refine ww_cSi 3 ok_X7_in (Co.fr0 (c_X7_in xx 0 99999) rfl) lk_X7_108 rfl (by omega) (rest := []) rfl (Nat.le_of_ble_eq_true rfl) rfl ?_
  refine ww_if_eq 4 rfl (tgt := 40) rfl (fun c1 => ?_) (fun c1 => ?_)
  · rw [b2i_eq0] at c1
    refine ww_run 20 1 (pc' := 43) (lv' := [(0, .ref 0), (1, .int xx), (2, .int sd), (3, .int nn), (4, .int part)]) (st' := [.long (-4611686018427387904)]) (w' := wMv (wiF fr lo fa) ki mo (hoF sty wset wfor) cd sr z.2.1 z.1 x.2.2.2.2.2.1 x.2.2.2.2.2.2 x.1 x.2.1 x.2.2.1 x.2.2.2.1 x.2.2.2.2.1 z.2.2 (nI P) (nI C) (nI k) lent J K) (Ps := []) rfl trivial ?_
    refine ww_lret 21 rfl rfl ?_
    exact ⟨by rw [if_neg (by grind)], x, z, rfl⟩
  · rw [b2i_ne0] at c1
    refine ww_run 5 3 (pc' := 15) (lv' := [(0, .ref 0), (1, .int xx), (2, .int sd), (3, .int nn), (4, .int part)]) (st' := [.int 20, .int 1, .int sd]) (w' := wMv (wiF fr lo fa) ki mo (hoF sty wset wfor) cd sr z.2.1 z.1 x.2.2.2.2.2.1 x.2.2.2.2.2.2 x.1 x.2.1 x.2.2.1 x.2.2.2.1 x.2.2.2.2.1 z.2.2 (nI P) (nI C) (nI k) lent J K) (Ps := []) rfl trivial ?_
    refine ww_cSi 8 ok_X7_in (Co.fr0 (c_X7_in sd 1 20) rfl) lk_X7_108 rfl (by omega) (rest := []) rfl (Nat.le_of_ble_eq_true rfl) rfl ?_
    refine ww_if_eq 9 rfl (tgt := 40) rfl (fun c2 => ?_) (fun c2 => ?_)
    · rw [b2i_eq0] at c2
      refine ww_run 20 1 (pc' := 43) (lv' := [(0, .ref 0), (1, .int xx), (2, .int sd), (3, .int nn), (4, .int part)]) (st' := [.long (-4611686018427387904)]) (w' := wMv (wiF fr lo fa) ki mo (hoF sty wset wfor) cd sr z.2.1 z.1 x.2.2.2.2.2.1 x.2.2.2.2.2.2 x.1 x.2.1 x.2.2.1 x.2.2.2.1 x.2.2.2.2.1 z.2.2 (nI P) (nI C) (nI k) lent J K) (Ps := []) rfl trivial ?_
      refine ww_lret 21 rfl rfl ?_
      exact ⟨by rw [if_neg (by grind)], x, z, rfl⟩
    · rw [b2i_ne0] at c2
      refine ww_run 10 3 (pc' := 24) (lv' := [(0, .ref 0), (1, .int xx), (2, .int sd), (3, .int nn), (4, .int part)]) (st' := [.int 5, .int 0, .int nn]) (w' := wMv (wiF fr lo fa) ki mo (hoF sty wset wfor) cd sr z.2.1 z.1 x.2.2.2.2.2.1 x.2.2.2.2.2.2 x.1 x.2.1 x.2.2.1 x.2.2.2.1 x.2.2.2.2.1 z.2.2 (nI P) (nI C) (nI k) lent J K) (Ps := []) rfl trivial ?_
      refine ww_cSi 13 ok_X7_in (Co.fr0 (c_X7_in nn 0 5) rfl) lk_X7_108 rfl (by omega) (rest := []) rfl (Nat.le_of_ble_eq_true rfl) rfl ?_
      refine ww_if_eq 14 rfl (tgt := 40) rfl (fun c3 => ?_) (fun c3 => ?_)
      · rw [b2i_eq0] at c3
        refine ww_run 20 1 (pc' := 43) (lv' := [(0, .ref 0), (1, .int xx), (2, .int sd), (3, .int nn), (4, .int part)]) (st' := [.long (-4611686018427387904)]) (w' := wMv (wiF fr lo fa) ki mo (hoF sty wset wfor) cd sr z.2.1 z.1 x.2.2.2.2.2.1 x.2.2.2.2.2.2 x.1 x.2.1 x.2.2.1 x.2.2.2.1 x.2.2.2.2.1 z.2.2 (nI P) (nI C) (nI k) lent J K) (Ps := []) rfl trivial ?_
        refine ww_lret 21 rfl rfl ?_
        exact ⟨by rw [if_neg (by grind)], x, z, rfl⟩
      · rw [b2i_ne0] at c3
        refine ww_run 15 3 (pc' := 34) (lv' := [(0, .ref 0), (1, .int xx), (2, .int sd), (3, .int nn), (4, .int part)]) (st' := [.int 1, .int 0, .int part]) (w' := wMv (wiF fr lo fa) ki mo (hoF sty wset wfor) cd sr z.2.1 z.1 x.2.2.2.2.2.1 x.2.2.2.2.2.2 x.1 x.2.1 x.2.2.1 x.2.2.2.1 x.2.2.2.2.1 z.2.2 (nI P) (nI C) (nI k) lent J K) (Ps := []) rfl trivial ?_
        refine ww_cSi 18 ok_X7_in (Co.fr0 (c_X7_in part 0 1) rfl) lk_X7_108 rfl (by omega) (rest := []) rfl (Nat.le_of_ble_eq_true rfl) rfl ?_
        refine ww_if_ne 19 rfl (tgt := 44) rfl (fun c4 => ?_) (fun c4 => ?_)
        · rw [b2i_ne0] at c4
          obtain ⟨S, hS, rfl⟩ := nI_of2 (M := 20) (n := 20) rfl (Int32.not_lt.mpr (Int32.le_trans (by decide) c2.1)) c2.2
          refine ww_run 22 4 (pc' := 50) (lv' := [(7, .int 0), (5, .long 0), (0, .ref 0), (1, .int xx), (2, .int (nI S)), (3, .int nn), (4, .int part)]) (st' := []) (w' := wMv (wiF fr lo fa) ki mo (hoF sty wset wfor) cd sr z.2.1 z.1 x.2.2.2.2.2.1 x.2.2.2.2.2.2 x.1 x.2.1 x.2.2.1 x.2.2.2.1 x.2.2.2.2.1 z.2.2 (nI P) (nI C) (nI k) lent J K) (Ps := []) rfl trivial ?_
          refine ww_lv [2, 3, 4, 5, 6, 1, 0] (lv' := [(0, .ref 0), (1, .int xx), (2, .int (nI S)), (3, .int nn), (4, .int part), (5, .long 0), (7, .int 0)]) rfl ?_
          have hle := cntB_le (fun q => decide (¬ riS (evS sy P C fr lo fa ki mo k sty (setOf (lotB (xx + nI q)) C) wfor lent 30) < nn)) S
          refine l_X7_odds_50 (by omega) ki mo cd sr lent J K fr lo fa sty wset wfor sy T P C k hP hC hk hL hmo xx nn part S hS (fun x1 z1 => ?_) (S + 1) 0 x z (by omega) (by omega)
          refine ww_run 44 3 (pc' := 88) (lv' := [(0, .ref 0), (1, .int xx), (2, .int (nI S)), (3, .int nn), (4, .int part), (5, .long (lN (cntB (fun q => decide (¬ riS (evS sy P C fr lo fa ki mo k sty (setOf (lotB (xx + nI q)) C) wfor lent 30) < nn)) S))), (7, .int (nI S))]) (st' := [.long ((nI S).toInt64), .long (lN (cntB (fun q => decide (¬ riS (evS sy P C fr lo fa ki mo k sty (setOf (lotB (xx + nI q)) C) wfor lent 30) < nn)) S))]) (w' := wMv (wiF fr lo fa) ki mo (hoF sty wset wfor) cd sr z1.2.1 z1.1 x1.2.2.2.2.2.1 x1.2.2.2.2.2.2 x1.1 x1.2.1 x1.2.2.1 x1.2.2.2.1 x1.2.2.2.2.1 z1.2.2 (nI P) (nI C) (nI k) lent J K) (Ps := []) rfl trivial ?_
          rw [nI_l (by omega)]
          refine ww_run 47 1 (pc' := 90) (lv' := [(0, .ref 0), (1, .int xx), (2, .int (nI S)), (3, .int nn), (4, .int part), (5, .long (lN (cntB (fun q => decide (¬ riS (evS sy P C fr lo fa ki mo k sty (setOf (lotB (xx + nI q)) C) wfor lent 30) < nn)) S))), (7, .int (nI S))]) (st' := [.int part, .long (lN S), .long (lN (cntB (fun q => decide (¬ riS (evS sy P C fr lo fa ki mo k sty (setOf (lotB (xx + nI q)) C) wfor lent 30) < nn)) S))]) (w' := wMv (wiF fr lo fa) ki mo (hoF sty wset wfor) cd sr z1.2.1 z1.1 x1.2.2.2.2.2.1 x1.2.2.2.2.2.2 x1.1 x1.2.1 x1.2.2.1 x1.2.2.2.1 x1.2.2.2.2.1 z1.2.2 (nI P) (nI C) (nI k) lent J K) (Ps := []) rfl trivial ?_
          refine ww_cS 48 ok_X7_lowest (Co.fr0l (c_X7_lowest (cntB (fun q => decide (¬ riS (evS sy P C fr lo fa ki mo k sty (setOf (lotB (xx + nI q)) C) wfor lent 30) < nn)) S) S part (by omega) (by omega)) rfl) lk_X7_319 rfl (by omega) (rest := []) rfl (Nat.le_of_ble_eq_true rfl) rfl (fun r w' hq => ?_)
          obtain ⟨rfl, rfl⟩ := hq
          refine ww_lret 49 rfl rfl ?_
          exact ⟨by simp only [nI_clamp (n := S) (by omega)]; rw [if_pos ⟨c1, c2, c3, c4⟩], x1, z1, rfl⟩
        · rw [b2i_eq0] at c4
          refine ww_run 20 1 (pc' := 43) (lv' := [(0, .ref 0), (1, .int xx), (2, .int sd), (3, .int nn), (4, .int part)]) (st' := [.long (-4611686018427387904)]) (w' := wMv (wiF fr lo fa) ki mo (hoF sty wset wfor) cd sr z.2.1 z.1 x.2.2.2.2.2.1 x.2.2.2.2.2.2 x.1 x.2.1 x.2.2.1 x.2.2.2.1 x.2.2.2.2.1 z.2.2 (nI P) (nI C) (nI k) lent J K) (Ps := []) rfl trivial ?_
          refine ww_lret 21 rfl rfl ?_
          exact ⟨by rw [if_neg (by grind)], x, z, rfl⟩
