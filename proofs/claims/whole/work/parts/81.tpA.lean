/-- a run of bytes of one kind -/
def spn (ok : Int32 → Prop) [DecidablePred ok] (B : Nat → Int32) (N : Nat) : Nat → Nat → Nat
  | 0, p => p
  | n + 1, p => if p < N ∧ ok (B p) then spn ok B N n (p + 1) else p
def dgR (B : Nat → Int32) (N : Nat) : Nat → Nat × Int32 → Nat × Int32
  | 0, s => s
  | n + 1, s => if s.1 < N ∧ mIn (B s.1) 48 57 then dgR B N n (s.1 + 1, s.2 * 10 + B s.1 - 48) else s
def sgV (x : Int32) : Int32 := if x = 40 then -3 else if x = 41 then -4 else if x = 42 then 10012 else if x = 43 then 10010 else if x = 45 then 10011 else if x = 59 then -5 else if x = 60 then 10008 else if x = 61 then 10009 else -2
theorem spn_ge {ok : Int32 → Prop} [DecidablePred ok] {B : Nat → Int32} {N : Nat} : ∀ n p, p ≤ spn ok B N n p
  | 0, p => Nat.le_refl p
  | n + 1, p => by
    simp only [spn]
    split
    · exact Nat.le_trans (Nat.le_succ p) (spn_ge n (p + 1))
    · exact Nat.le_refl p
theorem spn_le {ok : Int32 → Prop} [DecidablePred ok] {B : Nat → Int32} {N : Nat} : ∀ n p, p ≤ N → spn ok B N n p ≤ N
  | 0, p, h => h
  | n + 1, p, h => by
    simp only [spn]
    split
    · next q => exact spn_le n (p + 1) q.1
    · exact h
theorem dgR_ge {B : Nat → Int32} {N : Nat} : ∀ n s, s.1 ≤ (dgR B N n s).1
  | 0, s => Nat.le_refl _
  | n + 1, s => by
    simp only [dgR]
    split
    · exact Nat.le_trans (Nat.le_succ s.1) (dgR_ge n (s.1 + 1, s.2 * 10 + B s.1 - 48))
    · exact Nat.le_refl _
theorem dgR_le {B : Nat → Int32} {N : Nat} : ∀ n s, s.1 ≤ N → (dgR B N n s).1 ≤ N
  | 0, s, h => h
  | n + 1, s, h => by
    simp only [dgR]
    split
    · next q => exact dgR_le n (s.1 + 1, s.2 * 10 + B s.1 - 48) q.1
    · exact h
set_option maxHeartbeats 4000000 in
set_option maxRecDepth 100000 in
theorem x_isBlank  (x : Int32) : Co M_X5_isBlank 0 0 0 [.int x] (wZero ) (Qi (b2i (x = 32 ∨ x = 10)) wZero ) := by
  refine Co.of ok_X5_isBlank rfl ?_
  refine ww_run 0 2 (pc' := 3) (lv' := [(0, .int x)]) (st' := [.int 32, .int x]) (w' := wZero ) (Ps := []) rfl trivial ?_
  refine ww_icmp_eq 2 rfl (tgt := 12) rfl (fun c1 => ?_) (fun c1 => ?_)
  · refine ww_run 6 2 (pc' := 17) (lv' := [(0, .int x)]) (st' := [.int 1]) (w' := wZero ) (Ps := []) rfl trivial ?_
    refine ww_zret 9 rfl rfl rfl ?_
    exact ⟨by rw [b2i_t (by grind)], rfl⟩
  · refine ww_run 3 2 (pc' := 9) (lv' := [(0, .int x)]) (st' := [.int 10, .int x]) (w' := wZero ) (Ps := []) rfl trivial ?_
    refine ww_icmp_ne 5 rfl (tgt := 16) rfl (fun c2 => ?_) (fun c2 => ?_)
    · refine ww_run 8 1 (pc' := 17) (lv' := [(0, .int x)]) (st' := [.int 0]) (w' := wZero ) (Ps := []) rfl trivial ?_
      refine ww_zret 9 rfl rfl rfl ?_
      exact ⟨by rw [b2i_f (by grind)], rfl⟩
    · refine ww_run 6 2 (pc' := 17) (lv' := [(0, .int x)]) (st' := [.int 1]) (w' := wZero ) (Ps := []) rfl trivial ?_
      refine ww_zret 9 rfl rfl rfl ?_
      exact ⟨by rw [b2i_t (by grind)], rfl⟩
set_option maxHeartbeats 4000000 in
set_option maxRecDepth 100000 in
theorem x_isLetter  (x : Int32) : Co M_X5_isLetter 0 0 0 [.int x] (wZero ) (Qi (b2i (mIn x 97 122)) wZero ) := by
  refine Co.of ok_X5_isLetter rfl ?_
  refine ww_run 0 2 (pc' := 3) (lv' := [(0, .int x)]) (st' := [.int 97, .int x]) (w' := wZero ) (Ps := []) rfl trivial ?_
  refine ww_icmp_lt 2 rfl (tgt := 16) rfl (fun c1 => ?_) (fun c1 => ?_)
  · refine ww_run 8 1 (pc' := 17) (lv' := [(0, .int x)]) (st' := [.int 0]) (w' := wZero ) (Ps := []) rfl trivial ?_
    refine ww_zret 9 rfl rfl rfl ?_
    exact ⟨by rw [b2i_f (by grind)], rfl⟩
  · refine ww_run 3 2 (pc' := 9) (lv' := [(0, .int x)]) (st' := [.int 122, .int x]) (w' := wZero ) (Ps := []) rfl trivial ?_
    refine ww_icmp_gt 5 rfl (tgt := 16) rfl (fun c2 => ?_) (fun c2 => ?_)
    · refine ww_run 8 1 (pc' := 17) (lv' := [(0, .int x)]) (st' := [.int 0]) (w' := wZero ) (Ps := []) rfl trivial ?_
      refine ww_zret 9 rfl rfl rfl ?_
      exact ⟨by rw [b2i_f (by grind)], rfl⟩
    · refine ww_run 6 2 (pc' := 17) (lv' := [(0, .int x)]) (st' := [.int 1]) (w' := wZero ) (Ps := []) rfl trivial ?_
      refine ww_zret 9 rfl rfl rfl ?_
      exact ⟨by rw [b2i_t (by grind)], rfl⟩
set_option maxHeartbeats 4000000 in
set_option maxRecDepth 100000 in
theorem x_isDigit  (x : Int32) : Co M_X5_isDigit 0 0 0 [.int x] (wZero ) (Qi (b2i (mIn x 48 57)) wZero ) := by
  refine Co.of ok_X5_isDigit rfl ?_
  refine ww_run 0 2 (pc' := 3) (lv' := [(0, .int x)]) (st' := [.int 48, .int x]) (w' := wZero ) (Ps := []) rfl trivial ?_
  refine ww_icmp_lt 2 rfl (tgt := 16) rfl (fun c1 => ?_) (fun c1 => ?_)
  · refine ww_run 8 1 (pc' := 17) (lv' := [(0, .int x)]) (st' := [.int 0]) (w' := wZero ) (Ps := []) rfl trivial ?_
    refine ww_zret 9 rfl rfl rfl ?_
    exact ⟨by rw [b2i_f (by grind)], rfl⟩
  · refine ww_run 3 2 (pc' := 9) (lv' := [(0, .int x)]) (st' := [.int 57, .int x]) (w' := wZero ) (Ps := []) rfl trivial ?_
    refine ww_icmp_gt 5 rfl (tgt := 16) rfl (fun c2 => ?_) (fun c2 => ?_)
    · refine ww_run 8 1 (pc' := 17) (lv' := [(0, .int x)]) (st' := [.int 0]) (w' := wZero ) (Ps := []) rfl trivial ?_
      refine ww_zret 9 rfl rfl rfl ?_
      exact ⟨by rw [b2i_f (by grind)], rfl⟩
    · refine ww_run 6 2 (pc' := 17) (lv' := [(0, .int x)]) (st' := [.int 1]) (w' := wZero ) (Ps := []) rfl trivial ?_
      refine ww_zret 9 rfl rfl rfl ?_
      exact ⟨by rw [b2i_t (by grind)], rfl⟩
set_option maxHeartbeats 4000000 in
set_option maxRecDepth 100000 in
theorem x_tclear (bytes tcodes tends : Nat → Int32) (tsize tat tcn tpl tok : Int32)  : Co M_X5_clear 0 0 0 [.ref 0] (wTp bytes tcodes tends tsize tat tcn tpl tok) (Qv (wTp bytes tcodes tends 0 tat tcn tpl tok)) := by
  refine Co.of ok_X5_clear rfl ?_
  refine ww_run 0 3 (pc' := 5) (lv' := [(0, .ref 0)]) (st' := []) (w' := wTp bytes tcodes tends 0 tat tcn tpl tok) (Ps := []) rfl trivial ?_
  refine ww_vret 3 rfl rfl ?_
  exact ⟨rfl, rfl⟩
set_option maxHeartbeats 4000000 in
set_option maxRecDepth 100000 in
theorem x_emit (bytes tcodes tends : Nat → Int32) (tsize tat tpl tok : Int32) (c : Nat) (hc : c ≤ 160) (v : Int32) : Co M_X5_emit 0 0 0 [.ref 0, .int v] (wTp bytes tcodes tends tsize tat (nI c) tpl tok) (fun r w' => ((c = 160) ∧ r = some (.int 0) ∧ w' = wTp bytes tcodes tends tsize tat (nI c) tpl tok) ∨ ((c < 160) ∧ r = some (.int 1) ∧ w' = wTp bytes (upd tcodes c v) tends tsize tat (nI (c + 1)) tpl tok)) := by
  refine Co.of ok_X5_emit rfl ?_
  refine ww_run 0 3 (pc' := 7) (lv' := [(0, .ref 0), (1, .int v)]) (st' := [.int 160, .int (nI c)]) (w' := wTp bytes tcodes tends tsize tat (nI c) tpl tok) (Ps := []) rfl trivial ?_
  refine ww_icmp_lt 3 rfl (tgt := 12) rfl (fun c1 => ?_) (fun c1 => ?_)
  · have c1 : c < 160 := (nI_ltI (a := c) (b := 160) (by omega) (by omega)).mp c1
    refine ww_run 6 13 (pc' := 33) (lv' := [(0, .ref 0), (1, .int v)]) (st' := [.int 1]) (w' := wTp bytes (upd tcodes ((nI c).toNatClampNeg) v) tends tsize tat ((nI c) + 1) tpl tok) (Ps := [vp_in (nI c) 160]) rfl ⟨(vp_in_nI (by omega) (by omega)), trivial⟩ ?_
    rw [nI_clamp (n := c) (by omega)]
    rw [nI_1 c]
    refine ww_zret 19 rfl rfl rfl ?_
    exact Or.inr ⟨by omega, rfl, rfl⟩
  · have c1 : ¬ c < 160 := fun q => c1 ((nI_ltI (a := c) (b := 160) (by omega) (by omega)).mpr q)
    refine ww_run 4 1 (pc' := 11) (lv' := [(0, .ref 0), (1, .int v)]) (st' := [.int 0]) (w' := wTp bytes tcodes tends tsize tat (nI c) tpl tok) (Ps := []) rfl trivial ?_
    refine ww_zret 5 rfl rfl rfl ?_
    exact Or.inl ⟨by omega, rfl, rfl⟩
set_option maxHeartbeats 4000000 in
set_option maxRecDepth 100000 in
theorem ly_num_2 {Q : Option Value → List va_E → Prop} {d : Nat} (hd : 1 ≤ d) (bytes tcodes tends : Nat → Int32) (tcn tok : Int32)  (N a : Nat) (hN : N ≤ 160) (V : Nat × Int32) (KK : WW M_X5_number d Q xz 59 [(0, .ref 0), (1, .int V.2)] [] (wTp bytes tcodes tends (nI N) (nI a) tcn (nI V.1) tok)) :
    ∀ (n i : Nat) (acc : Int32), i ≤ N → N + 1 ≤ i + n → dgR bytes N (N - i) (i, acc) = V → WW M_X5_number d Q xz 2 [(0, .ref 0), (1, .int acc)] [] (wTp bytes tcodes tends (nI N) (nI a) tcn (nI i) tok) := by
  intro n
  induction n with
  | zero => intro i; intros; omega
  | succ n ih =>
    intro i acc hi hn hv
    refine ww_run 2 4 (pc' := 10) (lv' := [(0, .ref 0), (1, .int acc)]) (st' := [.int (nI N), .int (nI i)]) (w' := wTp bytes tcodes tends (nI N) (nI a) tcn (nI i) tok) (Ps := []) rfl trivial ?_
    refine ww_icmp_ge 6 rfl (tgt := 59) rfl (fun c1 => ?_) (fun c1 => ?_)
    · have c1 : N ≤ i := (nI_leI (a := N) (b := i) (by omega) (by omega)).mp c1
      obtain rfl : i = N := by omega
      rw [Nat.sub_self] at hv
      simp only [dgR] at hv
      subst hv
      exact KK
    · have c1 : ¬ N ≤ i := fun q => c1 ((nI_leI (a := N) (b := i) (by omega) (by omega)).mpr q)
      refine ww_run 7 5 (pc' := 22) (lv' := [(0, .ref 0), (1, .int acc)]) (st' := [.int (bytes (nI i).toNatClampNeg)]) (w' := wTp bytes tcodes tends (nI N) (nI a) tcn (nI i) tok) (Ps := [vp_in (nI i) 160]) rfl ⟨(vp_in_nI (by omega) (by omega)), trivial⟩ ?_
      rw [nI_clamp (n := i) (by omega)]
      refine ww_cSi 12 ok_X5_isDigit (Co.fr0 (x_isDigit (bytes i)) rfl) lk_X5_86 rfl (by omega) (rest := []) rfl (Nat.le_of_ble_eq_true rfl) rfl ?_
      refine ww_if_eq 13 rfl (tgt := 59) rfl (fun c2 => ?_) (fun c2 => ?_)
      · rw [b2i_eq0] at c2
        rw [show N - i = (N - (i + 1)) + 1 by omega] at hv
        simp only [dgR] at hv
        rw [if_neg (fun q => c2 q.2)] at hv
        subst hv
        exact KK
      · rw [b2i_ne0] at c2
        refine ww_run 14 19 (pc' := 2) (lv' := [(1, .int (((acc * 10) + (bytes (nI i).toNatClampNeg)) - 48)), (0, .ref 0)]) (st' := []) (w' := wTp bytes tcodes tends (nI N) (nI a) tcn ((nI i) + 1) tok) (Ps := [vp_in (nI i) 160]) rfl ⟨(vp_in_nI (by omega) (by omega)), trivial⟩ ?_
        rw [nI_clamp (n := i) (by omega)]
        rw [nI_1 i]
        refine ww_lv [1, 0] (lv' := [(0, .ref 0), (1, .int (((acc * 10) + (bytes i)) - 48))]) rfl ?_
        refine ih (i + 1) _ (by omega) (by omega) ?_
        rw [show N - i = (N - (i + 1)) + 1 by omega] at hv
        simp only [dgR] at hv
        rw [if_pos ⟨by omega, c2⟩] at hv
        exact hv
set_option maxHeartbeats 4000000 in
set_option maxRecDepth 100000 in
theorem x_number (bytes tcodes tends : Nat → Int32) (tcn tok : Int32) (N a p : Nat) (hN : N ≤ 160) (hp : p ≤ N) (ha : a ≤ p) : Co M_X5_number 1 0 0 [.ref 0] (wTp bytes tcodes tends (nI N) (nI a) tcn (nI p) tok) (Qi (if 4 < (dgR bytes N (N - p) (p, 0)).1 - a then -2 else (dgR bytes N (N - p) (p, 0)).2) (wTp bytes tcodes tends (nI N) (nI a) tcn (nI ((dgR bytes N (N - p) (p, 0)).1)) tok)) := by
  refine Co.of ok_X5_number rfl ?_
  refine ww_run 0 2 (pc' := 2) (lv' := [(1, .int 0), (0, .ref 0)]) (st' := []) (w' := wTp bytes tcodes tends (nI N) (nI a) tcn (nI p) tok) (Ps := []) rfl trivial ?_
  refine ww_lv [1, 0] (lv' := [(0, .ref 0), (1, .int 0)]) rfl ?_
  have hv1 : p ≤ (dgR bytes N (N - p) (p, 0)).1 := dgR_ge (N - p) (p, 0)
  have hv2 : (dgR bytes N (N - p) (p, 0)).1 ≤ N := dgR_le (N - p) (p, 0) hp
  refine ly_num_2 (by omega) bytes tcodes tends tcn tok N a hN (dgR bytes N (N - p) (p, 0)) ?_ (N + 1) p 0 (by omega) (by omega) rfl
  refine ww_run 33 5 (pc' := 68) (lv' := [(0, .ref 0), (1, .int ((dgR bytes N (N - p) (p, 0)).2))]) (st' := [.int ((nI (dgR bytes N (N - p) (p, 0)).1) - (nI a))]) (w' := wTp bytes tcodes tends (nI N) (nI a) tcn (nI (dgR bytes N (N - p) (p, 0)).1) tok) (Ps := []) rfl trivial ?_
  rw [pk_sub (a := (dgR bytes N (N - p) (p, 0)).1) (b := a) (by omega)]
  refine ww_run 38 1 (pc' := 69) (lv' := [(0, .ref 0), (1, .int ((dgR bytes N (N - p) (p, 0)).2))]) (st' := [.int 4, .int (nI ((dgR bytes N (N - p) (p, 0)).1 - a))]) (w' := wTp bytes tcodes tends (nI N) (nI a) tcn (nI (dgR bytes N (N - p) (p, 0)).1) tok) (Ps := []) rfl trivial ?_
  refine ww_icmp_le 39 rfl (tgt := 77) rfl (fun c1 => ?_) (fun c1 => ?_)
  · have c1 : (dgR bytes N (N - p) (p, 0)).1 - a ≤ 4 := (nI_leI (a := ((dgR bytes N (N - p) (p, 0)).1 - a)) (b := 4) (by omega) (by omega)).mp c1
    refine ww_run 42 1 (pc' := 78) (lv' := [(0, .ref 0), (1, .int ((dgR bytes N (N - p) (p, 0)).2))]) (st' := [.int ((dgR bytes N (N - p) (p, 0)).2)]) (w' := wTp bytes tcodes tends (nI N) (nI a) tcn (nI (dgR bytes N (N - p) (p, 0)).1) tok) (Ps := []) rfl trivial ?_
    refine ww_iret 43 rfl rfl ?_
    exact ⟨by rw [if_neg (by omega)], rfl⟩
  · have c1 : ¬ (dgR bytes N (N - p) (p, 0)).1 - a ≤ 4 := fun q => c1 ((nI_leI (a := ((dgR bytes N (N - p) (p, 0)).1 - a)) (b := 4) (by omega) (by omega)).mpr q)
    refine ww_run 40 2 (pc' := 78) (lv' := [(0, .ref 0), (1, .int ((dgR bytes N (N - p) (p, 0)).2))]) (st' := [.int (-2)]) (w' := wTp bytes tcodes tends (nI N) (nI a) tcn (nI (dgR bytes N (N - p) (p, 0)).1) tok) (Ps := []) rfl trivial ?_
    refine ww_iret 43 rfl rfl ?_
    exact ⟨by rw [if_pos (by omega)], rfl⟩
set_option maxHeartbeats 4000000 in
set_option maxRecDepth 100000 in
theorem x_sign (bytes tcodes tends : Nat → Int32) (tsize tat tcn tok : Int32) (p : Nat) (hp : p < 160) : Co M_X5_sign 0 0 0 [.ref 0] (wTp bytes tcodes tends tsize tat tcn (nI p) tok) (Qi (sgV (bytes p)) (wTp bytes tcodes tends tsize tat tcn (nI (p + 1)) tok)) := by
  refine Co.of ok_X5_sign rfl ?_
  refine ww_run 0 13 (pc' := 21) (lv' := [(1, .int (bytes (nI p).toNatClampNeg)), (0, .ref 0)]) (st' := [.int (bytes (nI p).toNatClampNeg)]) (w' := wTp bytes tcodes tends tsize tat tcn ((nI p) + 1) tok) (Ps := [vp_in (nI p) 160]) rfl ⟨(vp_in_nI (by omega) (by omega)), trivial⟩ ?_
  rw [nI_clamp (n := p) (by omega)]
  rw [nI_1 p]
  by_cases q0 : bytes p = 40
  · refine ww_tabI 13 rfl (by rw [q0]; decide) (by rw [q0]; decide) (off := 103) (by rw [q0]; rfl) (tgt := 124) rfl ?_
    refine ww_run 14 1 (pc' := 126) (lv' := [(1, .int (bytes p)), (0, .ref 0)]) (st' := [.int (-3)]) (w' := wTp bytes tcodes tends tsize tat tcn (nI (p + 1)) tok) (Ps := []) rfl trivial ?_
    refine ww_iret 15 rfl rfl ?_
    exact ⟨by first | (rw [q0]; first | done | rfl) | (rw [q1]; first | done | rfl) | (rw [q2]; first | done | rfl) | (rw [q3]; first | done | rfl) | (rw [q4]; first | done | rfl) | (rw [q5]; first | done | rfl) | (rw [q6]; first | done | rfl) | (rw [q7]; first | done | rfl) | (rw [q8]; first | done | rfl) | (rw [q9]; first | done | rfl) | (rw [q10]; first | done | rfl) | (rw [q11]; first | done | rfl) | (rw [q12]; first | done | rfl) | (rw [q13]; first | done | rfl) | (rw [q14]; first | done | rfl) | (rw [q15]; first | done | rfl) | (rw [q16]; first | done | rfl) | (rw [q17]; first | done | rfl) | (rw [q18]; first | done | rfl) | (rw [q19]; first | done | rfl) | (rw [q20]; first | done | rfl) | (rw [q21]; first | done | rfl) | (unfold sgV; rw [if_neg q0, if_neg q1, if_neg q2, if_neg q3, if_neg q5, if_neg q19, if_neg q20, if_neg q21]), rfl⟩
  by_cases q1 : bytes p = 41
  · refine ww_tabI 13 rfl (by rw [q1]; decide) (by rw [q1]; decide) (off := 106) (by rw [q1]; rfl) (tgt := 127) rfl ?_
    refine ww_run 16 1 (pc' := 129) (lv' := [(1, .int (bytes p)), (0, .ref 0)]) (st' := [.int (-4)]) (w' := wTp bytes tcodes tends tsize tat tcn (nI (p + 1)) tok) (Ps := []) rfl trivial ?_
    refine ww_iret 17 rfl rfl ?_
    exact ⟨by first | (rw [q0]; first | done | rfl) | (rw [q1]; first | done | rfl) | (rw [q2]; first | done | rfl) | (rw [q3]; first | done | rfl) | (rw [q4]; first | done | rfl) | (rw [q5]; first | done | rfl) | (rw [q6]; first | done | rfl) | (rw [q7]; first | done | rfl) | (rw [q8]; first | done | rfl) | (rw [q9]; first | done | rfl) | (rw [q10]; first | done | rfl) | (rw [q11]; first | done | rfl) | (rw [q12]; first | done | rfl) | (rw [q13]; first | done | rfl) | (rw [q14]; first | done | rfl) | (rw [q15]; first | done | rfl) | (rw [q16]; first | done | rfl) | (rw [q17]; first | done | rfl) | (rw [q18]; first | done | rfl) | (rw [q19]; first | done | rfl) | (rw [q20]; first | done | rfl) | (rw [q21]; first | done | rfl) | (unfold sgV; rw [if_neg q0, if_neg q1, if_neg q2, if_neg q3, if_neg q5, if_neg q19, if_neg q20, if_neg q21]), rfl⟩
  by_cases q2 : bytes p = 42
  · refine ww_tabI 13 rfl (by rw [q2]; decide) (by rw [q2]; decide) (off := 120) (by rw [q2]; rfl) (tgt := 141) rfl ?_
    refine ww_run 24 1 (pc' := 144) (lv' := [(1, .int (bytes p)), (0, .ref 0)]) (st' := [.int 10012]) (w' := wTp bytes tcodes tends tsize tat tcn (nI (p + 1)) tok) (Ps := []) rfl trivial ?_
    refine ww_iret 25 rfl rfl ?_
    exact ⟨by first | (rw [q0]; first | done | rfl) | (rw [q1]; first | done | rfl) | (rw [q2]; first | done | rfl) | (rw [q3]; first | done | rfl) | (rw [q4]; first | done | rfl) | (rw [q5]; first | done | rfl) | (rw [q6]; first | done | rfl) | (rw [q7]; first | done | rfl) | (rw [q8]; first | done | rfl) | (rw [q9]; first | done | rfl) | (rw [q10]; first | done | rfl) | (rw [q11]; first | done | rfl) | (rw [q12]; first | done | rfl) | (rw [q13]; first | done | rfl) | (rw [q14]; first | done | rfl) | (rw [q15]; first | done | rfl) | (rw [q16]; first | done | rfl) | (rw [q17]; first | done | rfl) | (rw [q18]; first | done | rfl) | (rw [q19]; first | done | rfl) | (rw [q20]; first | done | rfl) | (rw [q21]; first | done | rfl) | (unfold sgV; rw [if_neg q0, if_neg q1, if_neg q2, if_neg q3, if_neg q5, if_neg q19, if_neg q20, if_neg q21]), rfl⟩
  by_cases q3 : bytes p = 43
  · refine ww_tabI 13 rfl (by rw [q3]; decide) (by rw [q3]; decide) (off := 112) (by rw [q3]; rfl) (tgt := 133) rfl ?_
    refine ww_run 20 1 (pc' := 136) (lv' := [(1, .int (bytes p)), (0, .ref 0)]) (st' := [.int 10010]) (w' := wTp bytes tcodes tends tsize tat tcn (nI (p + 1)) tok) (Ps := []) rfl trivial ?_
    refine ww_iret 21 rfl rfl ?_
    exact ⟨by first | (rw [q0]; first | done | rfl) | (rw [q1]; first | done | rfl) | (rw [q2]; first | done | rfl) | (rw [q3]; first | done | rfl) | (rw [q4]; first | done | rfl) | (rw [q5]; first | done | rfl) | (rw [q6]; first | done | rfl) | (rw [q7]; first | done | rfl) | (rw [q8]; first | done | rfl) | (rw [q9]; first | done | rfl) | (rw [q10]; first | done | rfl) | (rw [q11]; first | done | rfl) | (rw [q12]; first | done | rfl) | (rw [q13]; first | done | rfl) | (rw [q14]; first | done | rfl) | (rw [q15]; first | done | rfl) | (rw [q16]; first | done | rfl) | (rw [q17]; first | done | rfl) | (rw [q18]; first | done | rfl) | (rw [q19]; first | done | rfl) | (rw [q20]; first | done | rfl) | (rw [q21]; first | done | rfl) | (unfold sgV; rw [if_neg q0, if_neg q1, if_neg q2, if_neg q3, if_neg q5, if_neg q19, if_neg q20, if_neg q21]), rfl⟩
  by_cases q4 : bytes p = 44
  · refine ww_tabI 13 rfl (by rw [q4]; decide) (by rw [q4]; decide) (off := 132) (by rw [q4]; rfl) (tgt := 153) rfl ?_
    refine ww_run 30 1 (pc' := 155) (lv' := [(1, .int (bytes p)), (0, .ref 0)]) (st' := [.int (-2)]) (w' := wTp bytes tcodes tends tsize tat tcn (nI (p + 1)) tok) (Ps := []) rfl trivial ?_
    refine ww_iret 31 rfl rfl ?_
    exact ⟨by first | (rw [q0]; first | done | rfl) | (rw [q1]; first | done | rfl) | (rw [q2]; first | done | rfl) | (rw [q3]; first | done | rfl) | (rw [q4]; first | done | rfl) | (rw [q5]; first | done | rfl) | (rw [q6]; first | done | rfl) | (rw [q7]; first | done | rfl) | (rw [q8]; first | done | rfl) | (rw [q9]; first | done | rfl) | (rw [q10]; first | done | rfl) | (rw [q11]; first | done | rfl) | (rw [q12]; first | done | rfl) | (rw [q13]; first | done | rfl) | (rw [q14]; first | done | rfl) | (rw [q15]; first | done | rfl) | (rw [q16]; first | done | rfl) | (rw [q17]; first | done | rfl) | (rw [q18]; first | done | rfl) | (rw [q19]; first | done | rfl) | (rw [q20]; first | done | rfl) | (rw [q21]; first | done | rfl) | (unfold sgV; rw [if_neg q0, if_neg q1, if_neg q2, if_neg q3, if_neg q5, if_neg q19, if_neg q20, if_neg q21]), rfl⟩
  by_cases q5 : bytes p = 45
  · refine ww_tabI 13 rfl (by rw [q5]; decide) (by rw [q5]; decide) (off := 116) (by rw [q5]; rfl) (tgt := 137) rfl ?_
    refine ww_run 22 1 (pc' := 140) (lv' := [(1, .int (bytes p)), (0, .ref 0)]) (st' := [.int 10011]) (w' := wTp bytes tcodes tends tsize tat tcn (nI (p + 1)) tok) (Ps := []) rfl trivial ?_
    refine ww_iret 23 rfl rfl ?_
    exact ⟨by first | (rw [q0]; first | done | rfl) | (rw [q1]; first | done | rfl) | (rw [q2]; first | done | rfl) | (rw [q3]; first | done | rfl) | (rw [q4]; first | done | rfl) | (rw [q5]; first | done | rfl) | (rw [q6]; first | done | rfl) | (rw [q7]; first | done | rfl) | (rw [q8]; first | done | rfl) | (rw [q9]; first | done | rfl) | (rw [q10]; first | done | rfl) | (rw [q11]; first | done | rfl) | (rw [q12]; first | done | rfl) | (rw [q13]; first | done | rfl) | (rw [q14]; first | done | rfl) | (rw [q15]; first | done | rfl) | (rw [q16]; first | done | rfl) | (rw [q17]; first | done | rfl) | (rw [q18]; first | done | rfl) | (rw [q19]; first | done | rfl) | (rw [q20]; first | done | rfl) | (rw [q21]; first | done | rfl) | (unfold sgV; rw [if_neg q0, if_neg q1, if_neg q2, if_neg q3, if_neg q5, if_neg q19, if_neg q20, if_neg q21]), rfl⟩
  by_cases q6 : bytes p = 46
  · refine ww_tabI 13 rfl (by rw [q6]; decide) (by rw [q6]; decide) (off := 132) (by rw [q6]; rfl) (tgt := 153) rfl ?_
    refine ww_run 30 1 (pc' := 155) (lv' := [(1, .int (bytes p)), (0, .ref 0)]) (st' := [.int (-2)]) (w' := wTp bytes tcodes tends tsize tat tcn (nI (p + 1)) tok) (Ps := []) rfl trivial ?_
    refine ww_iret 31 rfl rfl ?_
    exact ⟨by first | (rw [q0]; first | done | rfl) | (rw [q1]; first | done | rfl) | (rw [q2]; first | done | rfl) | (rw [q3]; first | done | rfl) | (rw [q4]; first | done | rfl) | (rw [q5]; first | done | rfl) | (rw [q6]; first | done | rfl) | (rw [q7]; first | done | rfl) | (rw [q8]; first | done | rfl) | (rw [q9]; first | done | rfl) | (rw [q10]; first | done | rfl) | (rw [q11]; first | done | rfl) | (rw [q12]; first | done | rfl) | (rw [q13]; first | done | rfl) | (rw [q14]; first | done | rfl) | (rw [q15]; first | done | rfl) | (rw [q16]; first | done | rfl) | (rw [q17]; first | done | rfl) | (rw [q18]; first | done | rfl) | (rw [q19]; first | done | rfl) | (rw [q20]; first | done | rfl) | (rw [q21]; first | done | rfl) | (unfold sgV; rw [if_neg q0, if_neg q1, if_neg q2, if_neg q3, if_neg q5, if_neg q19, if_neg q20, if_neg q21]), rfl⟩
  by_cases q7 : bytes p = 47
  · refine ww_tabI 13 rfl (by rw [q7]; decide) (by rw [q7]; decide) (off := 132) (by rw [q7]; rfl) (tgt := 153) rfl ?_
    refine ww_run 30 1 (pc' := 155) (lv' := [(1, .int (bytes p)), (0, .ref 0)]) (st' := [.int (-2)]) (w' := wTp bytes tcodes tends tsize tat tcn (nI (p + 1)) tok) (Ps := []) rfl trivial ?_
    refine ww_iret 31 rfl rfl ?_
    exact ⟨by first | (rw [q0]; first | done | rfl) | (rw [q1]; first | done | rfl) | (rw [q2]; first | done | rfl) | (rw [q3]; first | done | rfl) | (rw [q4]; first | done | rfl) | (rw [q5]; first | done | rfl) | (rw [q6]; first | done | rfl) | (rw [q7]; first | done | rfl) | (rw [q8]; first | done | rfl) | (rw [q9]; first | done | rfl) | (rw [q10]; first | done | rfl) | (rw [q11]; first | done | rfl) | (rw [q12]; first | done | rfl) | (rw [q13]; first | done | rfl) | (rw [q14]; first | done | rfl) | (rw [q15]; first | done | rfl) | (rw [q16]; first | done | rfl) | (rw [q17]; first | done | rfl) | (rw [q18]; first | done | rfl) | (rw [q19]; first | done | rfl) | (rw [q20]; first | done | rfl) | (rw [q21]; first | done | rfl) | (unfold sgV; rw [if_neg q0, if_neg q1, if_neg q2, if_neg q3, if_neg q5, if_neg q19, if_neg q20, if_neg q21]), rfl⟩
  by_cases q8 : bytes p = 48
  · refine ww_tabI 13 rfl (by rw [q8]; decide) (by rw [q8]; decide) (off := 132) (by rw [q8]; rfl) (tgt := 153) rfl ?_
    refine ww_run 30 1 (pc' := 155) (lv' := [(1, .int (bytes p)), (0, .ref 0)]) (st' := [.int (-2)]) (w' := wTp bytes tcodes tends tsize tat tcn (nI (p + 1)) tok) (Ps := []) rfl trivial ?_
    refine ww_iret 31 rfl rfl ?_
    exact ⟨by first | (rw [q0]; first | done | rfl) | (rw [q1]; first | done | rfl) | (rw [q2]; first | done | rfl) | (rw [q3]; first | done | rfl) | (rw [q4]; first | done | rfl) | (rw [q5]; first | done | rfl) | (rw [q6]; first | done | rfl) | (rw [q7]; first | done | rfl) | (rw [q8]; first | done | rfl) | (rw [q9]; first | done | rfl) | (rw [q10]; first | done | rfl) | (rw [q11]; first | done | rfl) | (rw [q12]; first | done | rfl) | (rw [q13]; first | done | rfl) | (rw [q14]; first | done | rfl) | (rw [q15]; first | done | rfl) | (rw [q16]; first | done | rfl) | (rw [q17]; first | done | rfl) | (rw [q18]; first | done | rfl) | (rw [q19]; first | done | rfl) | (rw [q20]; first | done | rfl) | (rw [q21]; first | done | rfl) | (unfold sgV; rw [if_neg q0, if_neg q1, if_neg q2, if_neg q3, if_neg q5, if_neg q19, if_neg q20, if_neg q21]), rfl⟩
  by_cases q9 : bytes p = 49
  · refine ww_tabI 13 rfl (by rw [q9]; decide) (by rw [q9]; decide) (off := 132) (by rw [q9]; rfl) (tgt := 153) rfl ?_
    refine ww_run 30 1 (pc' := 155) (lv' := [(1, .int (bytes p)), (0, .ref 0)]) (st' := [.int (-2)]) (w' := wTp bytes tcodes tends tsize tat tcn (nI (p + 1)) tok) (Ps := []) rfl trivial ?_
    refine ww_iret 31 rfl rfl ?_
    exact ⟨by first | (rw [q0]; first | done | rfl) | (rw [q1]; first | done | rfl) | (rw [q2]; first | done | rfl) | (rw [q3]; first | done | rfl) | (rw [q4]; first | done | rfl) | (rw [q5]; first | done | rfl) | (rw [q6]; first | done | rfl) | (rw [q7]; first | done | rfl) | (rw [q8]; first | done | rfl) | (rw [q9]; first | done | rfl) | (rw [q10]; first | done | rfl) | (rw [q11]; first | done | rfl) | (rw [q12]; first | done | rfl) | (rw [q13]; first | done | rfl) | (rw [q14]; first | done | rfl) | (rw [q15]; first | done | rfl) | (rw [q16]; first | done | rfl) | (rw [q17]; first | done | rfl) | (rw [q18]; first | done | rfl) | (rw [q19]; first | done | rfl) | (rw [q20]; first | done | rfl) | (rw [q21]; first | done | rfl) | (unfold sgV; rw [if_neg q0, if_neg q1, if_neg q2, if_neg q3, if_neg q5, if_neg q19, if_neg q20, if_neg q21]), rfl⟩
  by_cases q10 : bytes p = 50
  · refine ww_tabI 13 rfl (by rw [q10]; decide) (by rw [q10]; decide) (off := 132) (by rw [q10]; rfl) (tgt := 153) rfl ?_
    refine ww_run 30 1 (pc' := 155) (lv' := [(1, .int (bytes p)), (0, .ref 0)]) (st' := [.int (-2)]) (w' := wTp bytes tcodes tends tsize tat tcn (nI (p + 1)) tok) (Ps := []) rfl trivial ?_
    refine ww_iret 31 rfl rfl ?_
    exact ⟨by first | (rw [q0]; first | done | rfl) | (rw [q1]; first | done | rfl) | (rw [q2]; first | done | rfl) | (rw [q3]; first | done | rfl) | (rw [q4]; first | done | rfl) | (rw [q5]; first | done | rfl) | (rw [q6]; first | done | rfl) | (rw [q7]; first | done | rfl) | (rw [q8]; first | done | rfl) | (rw [q9]; first | done | rfl) | (rw [q10]; first | done | rfl) | (rw [q11]; first | done | rfl) | (rw [q12]; first | done | rfl) | (rw [q13]; first | done | rfl) | (rw [q14]; first | done | rfl) | (rw [q15]; first | done | rfl) | (rw [q16]; first | done | rfl) | (rw [q17]; first | done | rfl) | (rw [q18]; first | done | rfl) | (rw [q19]; first | done | rfl) | (rw [q20]; first | done | rfl) | (rw [q21]; first | done | rfl) | (unfold sgV; rw [if_neg q0, if_neg q1, if_neg q2, if_neg q3, if_neg q5, if_neg q19, if_neg q20, if_neg q21]), rfl⟩
  by_cases q11 : bytes p = 51
  · refine ww_tabI 13 rfl (by rw [q11]; decide) (by rw [q11]; decide) (off := 132) (by rw [q11]; rfl) (tgt := 153) rfl ?_
    refine ww_run 30 1 (pc' := 155) (lv' := [(1, .int (bytes p)), (0, .ref 0)]) (st' := [.int (-2)]) (w' := wTp bytes tcodes tends tsize tat tcn (nI (p + 1)) tok) (Ps := []) rfl trivial ?_
    refine ww_iret 31 rfl rfl ?_
    exact ⟨by first | (rw [q0]; first | done | rfl) | (rw [q1]; first | done | rfl) | (rw [q2]; first | done | rfl) | (rw [q3]; first | done | rfl) | (rw [q4]; first | done | rfl) | (rw [q5]; first | done | rfl) | (rw [q6]; first | done | rfl) | (rw [q7]; first | done | rfl) | (rw [q8]; first | done | rfl) | (rw [q9]; first | done | rfl) | (rw [q10]; first | done | rfl) | (rw [q11]; first | done | rfl) | (rw [q12]; first | done | rfl) | (rw [q13]; first | done | rfl) | (rw [q14]; first | done | rfl) | (rw [q15]; first | done | rfl) | (rw [q16]; first | done | rfl) | (rw [q17]; first | done | rfl) | (rw [q18]; first | done | rfl) | (rw [q19]; first | done | rfl) | (rw [q20]; first | done | rfl) | (rw [q21]; first | done | rfl) | (unfold sgV; rw [if_neg q0, if_neg q1, if_neg q2, if_neg q3, if_neg q5, if_neg q19, if_neg q20, if_neg q21]), rfl⟩
  by_cases q12 : bytes p = 52
  · refine ww_tabI 13 rfl (by rw [q12]; decide) (by rw [q12]; decide) (off := 132) (by rw [q12]; rfl) (tgt := 153) rfl ?_
    refine ww_run 30 1 (pc' := 155) (lv' := [(1, .int (bytes p)), (0, .ref 0)]) (st' := [.int (-2)]) (w' := wTp bytes tcodes tends tsize tat tcn (nI (p + 1)) tok) (Ps := []) rfl trivial ?_
    refine ww_iret 31 rfl rfl ?_
    exact ⟨by first | (rw [q0]; first | done | rfl) | (rw [q1]; first | done | rfl) | (rw [q2]; first | done | rfl) | (rw [q3]; first | done | rfl) | (rw [q4]; first | done | rfl) | (rw [q5]; first | done | rfl) | (rw [q6]; first | done | rfl) | (rw [q7]; first | done | rfl) | (rw [q8]; first | done | rfl) | (rw [q9]; first | done | rfl) | (rw [q10]; first | done | rfl) | (rw [q11]; first | done | rfl) | (rw [q12]; first | done | rfl) | (rw [q13]; first | done | rfl) | (rw [q14]; first | done | rfl) | (rw [q15]; first | done | rfl) | (rw [q16]; first | done | rfl) | (rw [q17]; first | done | rfl) | (rw [q18]; first | done | rfl) | (rw [q19]; first | done | rfl) | (rw [q20]; first | done | rfl) | (rw [q21]; first | done | rfl) | (unfold sgV; rw [if_neg q0, if_neg q1, if_neg q2, if_neg q3, if_neg q5, if_neg q19, if_neg q20, if_neg q21]), rfl⟩
  by_cases q13 : bytes p = 53
  · refine ww_tabI 13 rfl (by rw [q13]; decide) (by rw [q13]; decide) (off := 132) (by rw [q13]; rfl) (tgt := 153) rfl ?_
    refine ww_run 30 1 (pc' := 155) (lv' := [(1, .int (bytes p)), (0, .ref 0)]) (st' := [.int (-2)]) (w' := wTp bytes tcodes tends tsize tat tcn (nI (p + 1)) tok) (Ps := []) rfl trivial ?_
    refine ww_iret 31 rfl rfl ?_
    exact ⟨by first | (rw [q0]; first | done | rfl) | (rw [q1]; first | done | rfl) | (rw [q2]; first | done | rfl) | (rw [q3]; first | done | rfl) | (rw [q4]; first | done | rfl) | (rw [q5]; first | done | rfl) | (rw [q6]; first | done | rfl) | (rw [q7]; first | done | rfl) | (rw [q8]; first | done | rfl) | (rw [q9]; first | done | rfl) | (rw [q10]; first | done | rfl) | (rw [q11]; first | done | rfl) | (rw [q12]; first | done | rfl) | (rw [q13]; first | done | rfl) | (rw [q14]; first | done | rfl) | (rw [q15]; first | done | rfl) | (rw [q16]; first | done | rfl) | (rw [q17]; first | done | rfl) | (rw [q18]; first | done | rfl) | (rw [q19]; first | done | rfl) | (rw [q20]; first | done | rfl) | (rw [q21]; first | done | rfl) | (unfold sgV; rw [if_neg q0, if_neg q1, if_neg q2, if_neg q3, if_neg q5, if_neg q19, if_neg q20, if_neg q21]), rfl⟩
  by_cases q14 : bytes p = 54
  · refine ww_tabI 13 rfl (by rw [q14]; decide) (by rw [q14]; decide) (off := 132) (by rw [q14]; rfl) (tgt := 153) rfl ?_
    refine ww_run 30 1 (pc' := 155) (lv' := [(1, .int (bytes p)), (0, .ref 0)]) (st' := [.int (-2)]) (w' := wTp bytes tcodes tends tsize tat tcn (nI (p + 1)) tok) (Ps := []) rfl trivial ?_
    refine ww_iret 31 rfl rfl ?_
    exact ⟨by first | (rw [q0]; first | done | rfl) | (rw [q1]; first | done | rfl) | (rw [q2]; first | done | rfl) | (rw [q3]; first | done | rfl) | (rw [q4]; first | done | rfl) | (rw [q5]; first | done | rfl) | (rw [q6]; first | done | rfl) | (rw [q7]; first | done | rfl) | (rw [q8]; first | done | rfl) | (rw [q9]; first | done | rfl) | (rw [q10]; first | done | rfl) | (rw [q11]; first | done | rfl) | (rw [q12]; first | done | rfl) | (rw [q13]; first | done | rfl) | (rw [q14]; first | done | rfl) | (rw [q15]; first | done | rfl) | (rw [q16]; first | done | rfl) | (rw [q17]; first | done | rfl) | (rw [q18]; first | done | rfl) | (rw [q19]; first | done | rfl) | (rw [q20]; first | done | rfl) | (rw [q21]; first | done | rfl) | (unfold sgV; rw [if_neg q0, if_neg q1, if_neg q2, if_neg q3, if_neg q5, if_neg q19, if_neg q20, if_neg q21]), rfl⟩
  by_cases q15 : bytes p = 55
  · refine ww_tabI 13 rfl (by rw [q15]; decide) (by rw [q15]; decide) (off := 132) (by rw [q15]; rfl) (tgt := 153) rfl ?_
    refine ww_run 30 1 (pc' := 155) (lv' := [(1, .int (bytes p)), (0, .ref 0)]) (st' := [.int (-2)]) (w' := wTp bytes tcodes tends tsize tat tcn (nI (p + 1)) tok) (Ps := []) rfl trivial ?_
    refine ww_iret 31 rfl rfl ?_
    exact ⟨by first | (rw [q0]; first | done | rfl) | (rw [q1]; first | done | rfl) | (rw [q2]; first | done | rfl) | (rw [q3]; first | done | rfl) | (rw [q4]; first | done | rfl) | (rw [q5]; first | done | rfl) | (rw [q6]; first | done | rfl) | (rw [q7]; first | done | rfl) | (rw [q8]; first | done | rfl) | (rw [q9]; first | done | rfl) | (rw [q10]; first | done | rfl) | (rw [q11]; first | done | rfl) | (rw [q12]; first | done | rfl) | (rw [q13]; first | done | rfl) | (rw [q14]; first | done | rfl) | (rw [q15]; first | done | rfl) | (rw [q16]; first | done | rfl) | (rw [q17]; first | done | rfl) | (rw [q18]; first | done | rfl) | (rw [q19]; first | done | rfl) | (rw [q20]; first | done | rfl) | (rw [q21]; first | done | rfl) | (unfold sgV; rw [if_neg q0, if_neg q1, if_neg q2, if_neg q3, if_neg q5, if_neg q19, if_neg q20, if_neg q21]), rfl⟩
  by_cases q16 : bytes p = 56
  · refine ww_tabI 13 rfl (by rw [q16]; decide) (by rw [q16]; decide) (off := 132) (by rw [q16]; rfl) (tgt := 153) rfl ?_
    refine ww_run 30 1 (pc' := 155) (lv' := [(1, .int (bytes p)), (0, .ref 0)]) (st' := [.int (-2)]) (w' := wTp bytes tcodes tends tsize tat tcn (nI (p + 1)) tok) (Ps := []) rfl trivial ?_
    refine ww_iret 31 rfl rfl ?_
    exact ⟨by first | (rw [q0]; first | done | rfl) | (rw [q1]; first | done | rfl) | (rw [q2]; first | done | rfl) | (rw [q3]; first | done | rfl) | (rw [q4]; first | done | rfl) | (rw [q5]; first | done | rfl) | (rw [q6]; first | done | rfl) | (rw [q7]; first | done | rfl) | (rw [q8]; first | done | rfl) | (rw [q9]; first | done | rfl) | (rw [q10]; first | done | rfl) | (rw [q11]; first | done | rfl) | (rw [q12]; first | done | rfl) | (rw [q13]; first | done | rfl) | (rw [q14]; first | done | rfl) | (rw [q15]; first | done | rfl) | (rw [q16]; first | done | rfl) | (rw [q17]; first | done | rfl) | (rw [q18]; first | done | rfl) | (rw [q19]; first | done | rfl) | (rw [q20]; first | done | rfl) | (rw [q21]; first | done | rfl) | (unfold sgV; rw [if_neg q0, if_neg q1, if_neg q2, if_neg q3, if_neg q5, if_neg q19, if_neg q20, if_neg q21]), rfl⟩
  by_cases q17 : bytes p = 57
  · refine ww_tabI 13 rfl (by rw [q17]; decide) (by rw [q17]; decide) (off := 132) (by rw [q17]; rfl) (tgt := 153) rfl ?_
    refine ww_run 30 1 (pc' := 155) (lv' := [(1, .int (bytes p)), (0, .ref 0)]) (st' := [.int (-2)]) (w' := wTp bytes tcodes tends tsize tat tcn (nI (p + 1)) tok) (Ps := []) rfl trivial ?_
    refine ww_iret 31 rfl rfl ?_
    exact ⟨by first | (rw [q0]; first | done | rfl) | (rw [q1]; first | done | rfl) | (rw [q2]; first | done | rfl) | (rw [q3]; first | done | rfl) | (rw [q4]; first | done | rfl) | (rw [q5]; first | done | rfl) | (rw [q6]; first | done | rfl) | (rw [q7]; first | done | rfl) | (rw [q8]; first | done | rfl) | (rw [q9]; first | done | rfl) | (rw [q10]; first | done | rfl) | (rw [q11]; first | done | rfl) | (rw [q12]; first | done | rfl) | (rw [q13]; first | done | rfl) | (rw [q14]; first | done | rfl) | (rw [q15]; first | done | rfl) | (rw [q16]; first | done | rfl) | (rw [q17]; first | done | rfl) | (rw [q18]; first | done | rfl) | (rw [q19]; first | done | rfl) | (rw [q20]; first | done | rfl) | (rw [q21]; first | done | rfl) | (unfold sgV; rw [if_neg q0, if_neg q1, if_neg q2, if_neg q3, if_neg q5, if_neg q19, if_neg q20, if_neg q21]), rfl⟩
  by_cases q18 : bytes p = 58
  · refine ww_tabI 13 rfl (by rw [q18]; decide) (by rw [q18]; decide) (off := 132) (by rw [q18]; rfl) (tgt := 153) rfl ?_
    refine ww_run 30 1 (pc' := 155) (lv' := [(1, .int (bytes p)), (0, .ref 0)]) (st' := [.int (-2)]) (w' := wTp bytes tcodes tends tsize tat tcn (nI (p + 1)) tok) (Ps := []) rfl trivial ?_
    refine ww_iret 31 rfl rfl ?_
    exact ⟨by first | (rw [q0]; first | done | rfl) | (rw [q1]; first | done | rfl) | (rw [q2]; first | done | rfl) | (rw [q3]; first | done | rfl) | (rw [q4]; first | done | rfl) | (rw [q5]; first | done | rfl) | (rw [q6]; first | done | rfl) | (rw [q7]; first | done | rfl) | (rw [q8]; first | done | rfl) | (rw [q9]; first | done | rfl) | (rw [q10]; first | done | rfl) | (rw [q11]; first | done | rfl) | (rw [q12]; first | done | rfl) | (rw [q13]; first | done | rfl) | (rw [q14]; first | done | rfl) | (rw [q15]; first | done | rfl) | (rw [q16]; first | done | rfl) | (rw [q17]; first | done | rfl) | (rw [q18]; first | done | rfl) | (rw [q19]; first | done | rfl) | (rw [q20]; first | done | rfl) | (rw [q21]; first | done | rfl) | (unfold sgV; rw [if_neg q0, if_neg q1, if_neg q2, if_neg q3, if_neg q5, if_neg q19, if_neg q20, if_neg q21]), rfl⟩
  by_cases q19 : bytes p = 59
  · refine ww_tabI 13 rfl (by rw [q19]; decide) (by rw [q19]; decide) (off := 109) (by rw [q19]; rfl) (tgt := 130) rfl ?_
    refine ww_run 18 1 (pc' := 132) (lv' := [(1, .int (bytes p)), (0, .ref 0)]) (st' := [.int (-5)]) (w' := wTp bytes tcodes tends tsize tat tcn (nI (p + 1)) tok) (Ps := []) rfl trivial ?_
    refine ww_iret 19 rfl rfl ?_
    exact ⟨by first | (rw [q0]; first | done | rfl) | (rw [q1]; first | done | rfl) | (rw [q2]; first | done | rfl) | (rw [q3]; first | done | rfl) | (rw [q4]; first | done | rfl) | (rw [q5]; first | done | rfl) | (rw [q6]; first | done | rfl) | (rw [q7]; first | done | rfl) | (rw [q8]; first | done | rfl) | (rw [q9]; first | done | rfl) | (rw [q10]; first | done | rfl) | (rw [q11]; first | done | rfl) | (rw [q12]; first | done | rfl) | (rw [q13]; first | done | rfl) | (rw [q14]; first | done | rfl) | (rw [q15]; first | done | rfl) | (rw [q16]; first | done | rfl) | (rw [q17]; first | done | rfl) | (rw [q18]; first | done | rfl) | (rw [q19]; first | done | rfl) | (rw [q20]; first | done | rfl) | (rw [q21]; first | done | rfl) | (unfold sgV; rw [if_neg q0, if_neg q1, if_neg q2, if_neg q3, if_neg q5, if_neg q19, if_neg q20, if_neg q21]), rfl⟩
  by_cases q20 : bytes p = 60
  · refine ww_tabI 13 rfl (by rw [q20]; decide) (by rw [q20]; decide) (off := 124) (by rw [q20]; rfl) (tgt := 145) rfl ?_
    refine ww_run 26 1 (pc' := 148) (lv' := [(1, .int (bytes p)), (0, .ref 0)]) (st' := [.int 10008]) (w' := wTp bytes tcodes tends tsize tat tcn (nI (p + 1)) tok) (Ps := []) rfl trivial ?_
    refine ww_iret 27 rfl rfl ?_
    exact ⟨by first | (rw [q0]; first | done | rfl) | (rw [q1]; first | done | rfl) | (rw [q2]; first | done | rfl) | (rw [q3]; first | done | rfl) | (rw [q4]; first | done | rfl) | (rw [q5]; first | done | rfl) | (rw [q6]; first | done | rfl) | (rw [q7]; first | done | rfl) | (rw [q8]; first | done | rfl) | (rw [q9]; first | done | rfl) | (rw [q10]; first | done | rfl) | (rw [q11]; first | done | rfl) | (rw [q12]; first | done | rfl) | (rw [q13]; first | done | rfl) | (rw [q14]; first | done | rfl) | (rw [q15]; first | done | rfl) | (rw [q16]; first | done | rfl) | (rw [q17]; first | done | rfl) | (rw [q18]; first | done | rfl) | (rw [q19]; first | done | rfl) | (rw [q20]; first | done | rfl) | (rw [q21]; first | done | rfl) | (unfold sgV; rw [if_neg q0, if_neg q1, if_neg q2, if_neg q3, if_neg q5, if_neg q19, if_neg q20, if_neg q21]), rfl⟩
  by_cases q21 : bytes p = 61
  · refine ww_tabI 13 rfl (by rw [q21]; decide) (by rw [q21]; decide) (off := 128) (by rw [q21]; rfl) (tgt := 149) rfl ?_
    refine ww_run 28 1 (pc' := 152) (lv' := [(1, .int (bytes p)), (0, .ref 0)]) (st' := [.int 10009]) (w' := wTp bytes tcodes tends tsize tat tcn (nI (p + 1)) tok) (Ps := []) rfl trivial ?_
    refine ww_iret 29 rfl rfl ?_
    exact ⟨by first | (rw [q0]; first | done | rfl) | (rw [q1]; first | done | rfl) | (rw [q2]; first | done | rfl) | (rw [q3]; first | done | rfl) | (rw [q4]; first | done | rfl) | (rw [q5]; first | done | rfl) | (rw [q6]; first | done | rfl) | (rw [q7]; first | done | rfl) | (rw [q8]; first | done | rfl) | (rw [q9]; first | done | rfl) | (rw [q10]; first | done | rfl) | (rw [q11]; first | done | rfl) | (rw [q12]; first | done | rfl) | (rw [q13]; first | done | rfl) | (rw [q14]; first | done | rfl) | (rw [q15]; first | done | rfl) | (rw [q16]; first | done | rfl) | (rw [q17]; first | done | rfl) | (rw [q18]; first | done | rfl) | (rw [q19]; first | done | rfl) | (rw [q20]; first | done | rfl) | (rw [q21]; first | done | rfl) | (unfold sgV; rw [if_neg q0, if_neg q1, if_neg q2, if_neg q3, if_neg q5, if_neg q19, if_neg q20, if_neg q21]), rfl⟩
  refine ww_tabO 13 rfl (by have z0 := lv_neT q0 (a := 40) rfl; have z1 := lv_neT q1 (a := 41) rfl; have z2 := lv_neT q2 (a := 42) rfl; have z3 := lv_neT q3 (a := 43) rfl; have z4 := lv_neT q4 (a := 44) rfl; have z5 := lv_neT q5 (a := 45) rfl; have z6 := lv_neT q6 (a := 46) rfl; have z7 := lv_neT q7 (a := 47) rfl; have z8 := lv_neT q8 (a := 48) rfl; have z9 := lv_neT q9 (a := 49) rfl; have z10 := lv_neT q10 (a := 50) rfl; have z11 := lv_neT q11 (a := 51) rfl; have z12 := lv_neT q12 (a := 52) rfl; have z13 := lv_neT q13 (a := 53) rfl; have z14 := lv_neT q14 (a := 54) rfl; have z15 := lv_neT q15 (a := 55) rfl; have z16 := lv_neT q16 (a := 56) rfl; have z17 := lv_neT q17 (a := 57) rfl; have z18 := lv_neT q18 (a := 58) rfl; have z19 := lv_neT q19 (a := 59) rfl; have z20 := lv_neT q20 (a := 60) rfl; have z21 := lv_neT q21 (a := 61) rfl; omega) (tgt := 153) rfl ?_
  refine ww_run 30 1 (pc' := 155) (lv' := [(1, .int (bytes p)), (0, .ref 0)]) (st' := [.int (-2)]) (w' := wTp bytes tcodes tends tsize tat tcn (nI (p + 1)) tok) (Ps := []) rfl trivial ?_
  refine ww_iret 31 rfl rfl ?_
  exact ⟨by first | (rw [q0]; first | done | rfl) | (rw [q1]; first | done | rfl) | (rw [q2]; first | done | rfl) | (rw [q3]; first | done | rfl) | (rw [q4]; first | done | rfl) | (rw [q5]; first | done | rfl) | (rw [q6]; first | done | rfl) | (rw [q7]; first | done | rfl) | (rw [q8]; first | done | rfl) | (rw [q9]; first | done | rfl) | (rw [q10]; first | done | rfl) | (rw [q11]; first | done | rfl) | (rw [q12]; first | done | rfl) | (rw [q13]; first | done | rfl) | (rw [q14]; first | done | rfl) | (rw [q15]; first | done | rfl) | (rw [q16]; first | done | rfl) | (rw [q17]; first | done | rfl) | (rw [q18]; first | done | rfl) | (rw [q19]; first | done | rfl) | (rw [q20]; first | done | rfl) | (rw [q21]; first | done | rfl) | (unfold sgV; rw [if_neg q0, if_neg q1, if_neg q2, if_neg q3, if_neg q5, if_neg q19, if_neg q20, if_neg q21]), rfl⟩
