theorem bit01 (x : Int32) : x &&& 1 = 0 ∨ x &&& 1 = 1 := by
  obtain ⟨j, hj, h⟩ := pk_andE x (m := 1) 1 rfl
  have : j = 0 ∨ j = 1 := by omega
  rcases this with rfl | rfl
  · exact Or.inl h
  · exact Or.inr h
set_option maxHeartbeats 4000000 in
set_option maxRecDepth 100000 in
theorem l_X7_begins_2 {Q : Option Value → List va_E → Prop} {d : Nat} (wi ki mo cd sr stk names till sitter on was sat stood rose turn : Nat → Int32) (ru lent : Int32) (J : Nat → Int32) (K : Nat → Nat → Int32) (sty wset wfor : Int32) (P C : Nat) (hP : P ≤ 5) (hC : C ≤ 6) (KK : WW M_X7_begins d Q xz 53 [(0, .ref 0), (1, .int (nI C))] [] (wMv wi ki mo (hoF sty wset wfor) cd sr stk names (mixF till (tillS wset wfor) C) (mixF sitter (fun _ => -1) C) on was sat stood rose turn (nI P) (nI C) ru lent J K)) :
    ∀ (n i : Nat), i ≤ C → C + 1 ≤ i + n → WW M_X7_begins d Q xz 2 [(0, .ref 0), (1, .int (nI i))] [] (wMv wi ki mo (hoF sty wset wfor) cd sr stk names (mixF till (tillS wset wfor) i) (mixF sitter (fun _ => -1) i) on was sat stood rose turn (nI P) (nI C) ru lent J K) := by
  intro n
  induction n with
  | zero => intro i; intros; omega
  | succ n ih =>
    intro i hi hn
    refine ww_run 2 3 (pc' := 7) (lv' := [(0, .ref 0), (1, .int (nI i))]) (st' := [.int (nI C), .int (nI i)]) (w' := wMv wi ki mo (hoF sty wset wfor) cd sr stk names (mixF till (tillS wset wfor) i) (mixF sitter (fun _ => -1) i) on was sat stood rose turn (nI P) (nI C) ru lent J K) (Ps := []) rfl trivial ?_
    refine ww_icmp_ge 5 rfl (tgt := 53) rfl (fun c1 => ?_) (fun c1 => ?_)
    · have c1 : C ≤ i := (nI_leI (a := C) (b := i) (by omega) (by omega)).mp c1
      obtain rfl : i = C := by omega
      exact KK
    · have c1 : ¬ C ≤ i := fun q => c1 ((nI_leI (a := C) (b := i) (by omega) (by omega)).mpr q)
      refine ww_run 6 12 (pc' := 26) (lv' := [(0, .ref 0), (1, .int (nI i))]) (st' := [.int 1, .int ((wset >>> ((nI i) &&& 31)) &&& 1), .int (nI i), .ref 19]) (w' := wMv wi ki mo (hoF sty wset wfor) cd sr stk names (mixF till (tillS wset wfor) i) (mixF sitter (fun _ => -1) i) on was sat stood rose turn (nI P) (nI C) ru lent J K) (Ps := [vp_in 1 3]) rfl ⟨(vp_in_nI (n := 1) (by decide) (by decide)), trivial⟩ ?_
      refine ww_icmp_ne 18 rfl (tgt := 38) rfl (fun c2 => ?_) (fun c2 => ?_)
      · refine ww_run 24 9 (pc' := 2) (lv' := [(1, .int ((nI i) + 1)), (0, .ref 0)]) (st' := []) (w' := wMv wi ki mo (hoF sty wset wfor) cd sr stk names (upd (mixF till (tillS wset wfor) i) ((nI i).toNatClampNeg) 0) (upd (mixF sitter (fun _ => -1) i) ((nI i).toNatClampNeg) (-1)) on was sat stood rose turn (nI P) (nI C) ru lent J K) (Ps := [vp_in (nI i) 6, vp_in (nI i) 6]) rfl ⟨(vp_in_nI (by omega) (by omega)), (vp_in_nI (by omega) (by omega)), trivial⟩ ?_
        rw [nI_clamp (n := i) (by omega)]
        rw [nI_1 i]
        refine ww_lv [1, 0] (lv' := [(0, .ref 0), (1, .int (nI (i + 1)))]) rfl ?_
        rw [mixF_s (g := tillS wset wfor) (by unfold tillS; rcases bit01 (wset >>> ((nI i) &&& 31)) with q | q <;> simp_all), mixF_s (g := (fun _ => -1)) rfl]
        exact ih (i + 1) (by omega) (by omega)
      · refine ww_run 19 5 (pc' := 39) (lv' := [(0, .ref 0), (1, .int (nI i))]) (st' := [.int wfor, .int (nI i), .ref 19]) (w' := wMv wi ki mo (hoF sty wset wfor) cd sr stk names (mixF till (tillS wset wfor) i) (mixF sitter (fun _ => -1) i) on was sat stood rose turn (nI P) (nI C) ru lent J K) (Ps := [vp_in 2 3]) rfl ⟨(vp_in_nI (n := 2) (by decide) (by decide)), trivial⟩ ?_
        refine ww_run 25 8 (pc' := 2) (lv' := [(1, .int ((nI i) + 1)), (0, .ref 0)]) (st' := []) (w' := wMv wi ki mo (hoF sty wset wfor) cd sr stk names (upd (mixF till (tillS wset wfor) i) ((nI i).toNatClampNeg) wfor) (upd (mixF sitter (fun _ => -1) i) ((nI i).toNatClampNeg) (-1)) on was sat stood rose turn (nI P) (nI C) ru lent J K) (Ps := [vp_in (nI i) 6, vp_in (nI i) 6]) rfl ⟨(vp_in_nI (by omega) (by omega)), (vp_in_nI (by omega) (by omega)), trivial⟩ ?_
        rw [nI_clamp (n := i) (by omega)]
        rw [nI_1 i]
        refine ww_lv [1, 0] (lv' := [(0, .ref 0), (1, .int (nI (i + 1)))]) rfl ?_
        rw [mixF_s (g := tillS wset wfor) (by unfold tillS; rcases bit01 (wset >>> ((nI i) &&& 31)) with q | q <;> simp_all), mixF_s (g := (fun _ => -1)) rfl]
        exact ih (i + 1) (by omega) (by omega)
set_option maxHeartbeats 4000000 in
set_option maxRecDepth 100000 in
theorem l_X7_begins_55 {Q : Option Value → List va_E → Prop} {d : Nat} (wi ki mo cd sr stk names till sitter on was sat stood rose turn : Nat → Int32) (ru lent : Int32) (J : Nat → Int32) (K : Nat → Nat → Int32) (sty wset wfor : Int32) (P C : Nat) (hP : P ≤ 5) (hC : C ≤ 6) (KK : WW M_X7_begins d Q xz 104 [(0, .ref 0), (1, .int (nI P))] [] (wMv wi ki mo (hoF sty wset wfor) cd sr stk names till sitter (mixF on (fun _ => -1) P) (mixF was (fun _ => -1) P) (mixF sat (fun _ => 0) P) (mixF stood (fun _ => 0) P) (mixF rose (fun _ => -1) P) turn (nI P) (nI C) ru lent J K)) :
    ∀ (n i : Nat), i ≤ P → P + 1 ≤ i + n → WW M_X7_begins d Q xz 55 [(0, .ref 0), (1, .int (nI i))] [] (wMv wi ki mo (hoF sty wset wfor) cd sr stk names till sitter (mixF on (fun _ => -1) i) (mixF was (fun _ => -1) i) (mixF sat (fun _ => 0) i) (mixF stood (fun _ => 0) i) (mixF rose (fun _ => -1) i) turn (nI P) (nI C) ru lent J K) := by
  intro n
  induction n with
  | zero => intro i; intros; omega
  | succ n ih =>
    intro i hi hn
    refine ww_run 35 3 (pc' := 60) (lv' := [(0, .ref 0), (1, .int (nI i))]) (st' := [.int (nI P), .int (nI i)]) (w' := wMv wi ki mo (hoF sty wset wfor) cd sr stk names till sitter (mixF on (fun _ => -1) i) (mixF was (fun _ => -1) i) (mixF sat (fun _ => 0) i) (mixF stood (fun _ => 0) i) (mixF rose (fun _ => -1) i) turn (nI P) (nI C) ru lent J K) (Ps := []) rfl trivial ?_
    refine ww_icmp_ge 38 rfl (tgt := 104) rfl (fun c1 => ?_) (fun c1 => ?_)
    · have c1 : P ≤ i := (nI_leI (a := P) (b := i) (by omega) (by omega)).mp c1
      obtain rfl : i = P := by omega
      exact KK
    · have c1 : ¬ P ≤ i := fun q => c1 ((nI_leI (a := P) (b := i) (by omega) (by omega)).mpr q)
      refine ww_run 39 27 (pc' := 55) (lv' := [(1, .int ((nI i) + 1)), (0, .ref 0)]) (st' := []) (w' := wMv wi ki mo (hoF sty wset wfor) cd sr stk names till sitter (upd (mixF on (fun _ => -1) i) ((nI i).toNatClampNeg) (-1)) (upd (mixF was (fun _ => -1) i) ((nI i).toNatClampNeg) (-1)) (upd (mixF sat (fun _ => 0) i) ((nI i).toNatClampNeg) 0) (upd (mixF stood (fun _ => 0) i) ((nI i).toNatClampNeg) 0) (upd (mixF rose (fun _ => -1) i) ((nI i).toNatClampNeg) (-1)) turn (nI P) (nI C) ru lent J K) (Ps := [vp_in (nI i) 5, vp_in (nI i) 5, vp_in (nI i) 5, vp_in (nI i) 5, vp_in (nI i) 5]) rfl ⟨(vp_in_nI (by omega) (by omega)), (vp_in_nI (by omega) (by omega)), (vp_in_nI (by omega) (by omega)), (vp_in_nI (by omega) (by omega)), (vp_in_nI (by omega) (by omega)), trivial⟩ ?_
      rw [nI_clamp (n := i) (by omega)]
      rw [nI_1 i]
      refine ww_lv [1, 0] (lv' := [(0, .ref 0), (1, .int (nI (i + 1)))]) rfl ?_
      rw [mixF_s (g := (fun _ => -1)) rfl, mixF_s (g := (fun _ => -1)) rfl, mixF_s (g := (fun _ => 0)) rfl, mixF_s (g := (fun _ => 0)) rfl, mixF_s (g := (fun _ => -1)) rfl]
      exact ih (i + 1) (by omega) (by omega)
set_option maxHeartbeats 4000000 in
set_option maxRecDepth 100000 in
theorem c_X7_begins (wi ki mo cd sr stk names till sitter on was sat stood rose turn : Nat → Int32) (ru lent : Int32) (J : Nat → Int32) (K : Nat → Nat → Int32) (sty wset wfor : Int32) (P C : Nat) (hP : P ≤ 5) (hC : C ≤ 6) : Co M_X7_begins 0 0 0 [.ref 0] (wMv wi ki mo (hoF sty wset wfor) cd sr stk names till sitter on was sat stood rose turn (nI P) (nI C) ru lent J K) (Qv (wMv wi ki mo (hoF sty wset wfor) cd sr stk names (mixF till (tillS wset wfor) C) (mixF sitter (fun _ => -1) C) (mixF on (fun _ => -1) P) (mixF was (fun _ => -1) P) (mixF sat (fun _ => 0) P) (mixF stood (fun _ => 0) P) (mixF rose (fun _ => -1) P) turn (nI P) (nI C) ru lent J K)) := by
  generalize hQQ : (Qv (wMv wi ki mo (hoF sty wset wfor) cd sr stk names (mixF till (tillS wset wfor) C) (mixF sitter (fun _ => -1) C) (mixF on (fun _ => -1) P) (mixF was (fun _ => -1) P) (mixF sat (fun _ => 0) P) (mixF stood (fun _ => 0) P) (mixF rose (fun _ => -1) P) turn (nI P) (nI C) ru lent J K)) = QQ
  refine Co.of ok_X7_begins rfl ?_
  refine ww_run 0 2 (pc' := 2) (lv' := [(1, .int 0), (0, .ref 0)]) (st' := []) (w' := wMv wi ki mo (hoF sty wset wfor) cd sr stk names till sitter on was sat stood rose turn (nI P) (nI C) ru lent J K) (Ps := []) rfl trivial ?_
  refine ww_lv [1, 0] (lv' := [(0, .ref 0), (1, .int 0)]) rfl ?_
  have h2 := l_X7_begins_2 (Q := QQ) (d := 0) wi ki mo cd sr stk names till sitter on was sat stood rose turn ru lent J K sty wset wfor P C hP hC ?_ (C + 1) 0 (by omega) (by omega)
  · simp only [mixF_0] at h2
    exact h2
  refine ww_run 33 2 (pc' := 55) (lv' := [(1, .int 0), (0, .ref 0)]) (st' := []) (w' := wMv wi ki mo (hoF sty wset wfor) cd sr stk names (mixF till (tillS wset wfor) C) (mixF sitter (fun _ => -1) C) on was sat stood rose turn (nI P) (nI C) ru lent J K) (Ps := []) rfl trivial ?_
  refine ww_lv [1, 0] (lv' := [(0, .ref 0), (1, .int 0)]) rfl ?_
  have h55 := l_X7_begins_55 (Q := QQ) (d := 0) wi ki mo cd sr stk names (mixF till (tillS wset wfor) C) (mixF sitter (fun _ => -1) C) on was sat stood rose turn ru lent J K sty wset wfor P C hP hC ?_ (P + 1) 0 (by omega) (by omega)
  · simp only [mixF_0] at h55
    exact h55
  refine ww_vret 66 rfl rfl ?_
  rw [← hQQ]
  exact ⟨rfl, rfl⟩
