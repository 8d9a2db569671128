abbrev wTp (bytes tcodes tends : Nat → Int32) (tsize tat tcn tpl tok : Int32) : List va_E :=
  [.inr (4, [.int tsize, .int tat, .ref 1, .ref 2, .ref 3, .int tcn, .int tpl, .int tok]),
   iA 160 bytes,
   iA 160 tcodes,
   iA 3 tends]
set_option maxHeartbeats 4000000 in
set_option maxRecDepth 100000 in
theorem x_tput (bytes tcodes tends : Nat → Int32) (tat tcn tpl tok : Int32) (N : Nat) (hN : N < 160) (v : Int32) : Co M_X5_put 0 0 0 [.ref 0, .int v] (wTp bytes tcodes tends (nI N) tat tcn tpl tok) (Qv (wTp (upd bytes N v) tcodes tends (nI (N + 1)) tat tcn tpl tok)) := by
  refine Co.of ok_X5_put rfl ?_
  refine ww_run 0 3 (pc' := 7) (lv' := [(0, .ref 0), (1, .int v)]) (st' := [.int 160, .int (nI N)]) (w' := wTp bytes tcodes tends (nI N) tat tcn tpl tok) (Ps := []) rfl trivial ?_
  refine ww_icmp_lt 3 rfl (tgt := 11) rfl (fun c1 => ?_) (fun c1 => ?_)
  · have c1 : N < 160 := (nI_ltI (a := N) (b := 160) (by omega) (by omega)).mp c1
    refine ww_run 5 12 (pc' := 31) (lv' := [(0, .ref 0), (1, .int v)]) (st' := []) (w' := wTp (upd bytes ((nI N).toNatClampNeg) v) tcodes tends ((nI N) + 1) tat tcn tpl tok) (Ps := [vp_in (nI N) 160]) rfl ⟨(vp_in_nI (by omega) (by omega)), trivial⟩ ?_
    rw [nI_clamp (n := N) (by omega)]
    rw [nI_1 N]
    refine ww_vret 17 rfl rfl ?_
    exact ⟨rfl, rfl⟩
  · have c1 : ¬ N < 160 := fun q => c1 ((nI_ltI (a := N) (b := 160) (by omega) (by omega)).mpr q)
    refine ww_vret 4 rfl rfl ?_
    exfalso
    omega
set_option maxHeartbeats 4000000 in
set_option maxRecDepth 100000 in
theorem x_feed (fr lo fa ki mo : Nat → Int32) (pe ch sty wset wfor law lent : Int32) (pfr plo pfa pki pmo : Nat → Int32) (ppe pch psty pwset pwfor plaw plent : Int32) (bytes tcodes tends : Nat → Int32) (tat tcn tpl tok pict tn brs bst : Int32) (N : Nat) (hN : N ≤ 160) (n a b c d0 e : Int32) : Co M_X6_feed 2 0 0 [.ref 0, .int n, .int a, .int b, .int c, .int d0, .int e] (wC17 fr lo fa ki mo pe ch sty wset wfor law lent pfr plo pfa pki pmo ppe pch psty pwset pwfor plaw plent bytes tcodes tends (nI N) tat tcn tpl tok pict tn brs bst) (fun r w' => ((¬ fdOK n a b c d0 e) ∧ r = some (.int (-2)) ∧ w' = wC17 fr lo fa ki mo pe ch sty wset wfor law lent pfr plo pfa pki pmo ppe pch psty pwset pwfor plaw plent bytes tcodes tends (nI N) tat tcn tpl tok pict tn brs bst) ∨ ((fdOK n a b c d0 e ∧ 160 < N + n.toNatClampNeg) ∧ r = some (.int (-4)) ∧ w' = wC17 fr lo fa ki mo pe ch sty wset wfor law lent pfr plo pfa pki pmo ppe pch psty pwset pwfor plaw plent bytes tcodes tends (nI N) tat tcn tpl tok pict tn brs bst) ∨ ((fdOK n a b c d0 e ∧ N + n.toNatClampNeg ≤ 160) ∧ r = some (.int (nI (N + n.toNatClampNeg))) ∧ w' = wC17 fr lo fa ki mo pe ch sty wset wfor law lent pfr plo pfa pki pmo ppe pch psty pwset pwfor plaw plent (fdT bytes N (fdS a b c d0 e) n.toNatClampNeg) tcodes tends (nI (N + n.toNatClampNeg)) tat tcn tpl tok pict tn brs bst)) := by
  refine Co.of ok_X6_feed rfl ?_
  refine ww_run 0 3 (pc' := 3) (lv' := [(0, .ref 0), (1, .int n), (2, .int a), (3, .int b), (4, .int c), (5, .int d0), (6, .int e)]) (st' := [.int 5, .int 1, .int n]) (w' := wC17 fr lo fa ki mo pe ch sty wset wfor law lent pfr plo pfa pki pmo ppe pch psty pwset pwfor plaw plent bytes tcodes tends (nI N) tat tcn tpl tok pict tn brs bst) (Ps := []) rfl trivial ?_
  refine ww_cSi 3 ok_X6_within (Co.fr0 (c_X6_within n 1 5) rfl) lk_X6_124 rfl (by omega) (rest := []) rfl (Nat.le_of_ble_eq_true rfl) rfl ?_
  refine ww_if_ne 4 rfl (tgt := 12) rfl (fun c1 => ?_) (fun c1 => ?_)
  · rw [b2i_ne0] at c1
    refine ww_run 7 1 (pc' := 13) (lv' := [(0, .ref 0), (1, .int n), (2, .int a), (3, .int b), (4, .int c), (5, .int d0), (6, .int e)]) (st' := [.int a]) (w' := wC17 fr lo fa ki mo pe ch sty wset wfor law lent pfr plo pfa pki pmo ppe pch psty pwset pwfor plaw plent bytes tcodes tends (nI N) tat tcn tpl tok pict tn brs bst) (Ps := []) rfl trivial ?_
    refine ww_cSi 8 ok_X6_isByte (Co.fr0 (c_X6_isByte a) rfl) lk_X6_144 rfl (by omega) (rest := []) rfl (Nat.le_of_ble_eq_true rfl) rfl ?_
    refine ww_if_eq 9 rfl (tgt := 50) rfl (fun c2 => ?_) (fun c2 => ?_)
    · rw [b2i_eq0] at c2
      refine ww_run 22 1 (pc' := 52) (lv' := [(0, .ref 0), (1, .int n), (2, .int a), (3, .int b), (4, .int c), (5, .int d0), (6, .int e)]) (st' := [.int (-2)]) (w' := wC17 fr lo fa ki mo pe ch sty wset wfor law lent pfr plo pfa pki pmo ppe pch psty pwset pwfor plaw plent bytes tcodes tends (nI N) tat tcn tpl tok pict tn brs bst) (Ps := []) rfl trivial ?_
      refine ww_iret 23 rfl rfl ?_
      exact Or.inl ⟨by unfold fdOK; grind, rfl, rfl⟩
    · rw [b2i_ne0] at c2
      refine ww_run 10 1 (pc' := 20) (lv' := [(0, .ref 0), (1, .int n), (2, .int a), (3, .int b), (4, .int c), (5, .int d0), (6, .int e)]) (st' := [.int b]) (w' := wC17 fr lo fa ki mo pe ch sty wset wfor law lent pfr plo pfa pki pmo ppe pch psty pwset pwfor plaw plent bytes tcodes tends (nI N) tat tcn tpl tok pict tn brs bst) (Ps := []) rfl trivial ?_
      refine ww_cSi 11 ok_X6_isByte (Co.fr0 (c_X6_isByte b) rfl) lk_X6_144 rfl (by omega) (rest := []) rfl (Nat.le_of_ble_eq_true rfl) rfl ?_
      refine ww_if_eq 12 rfl (tgt := 50) rfl (fun c3 => ?_) (fun c3 => ?_)
      · rw [b2i_eq0] at c3
        refine ww_run 22 1 (pc' := 52) (lv' := [(0, .ref 0), (1, .int n), (2, .int a), (3, .int b), (4, .int c), (5, .int d0), (6, .int e)]) (st' := [.int (-2)]) (w' := wC17 fr lo fa ki mo pe ch sty wset wfor law lent pfr plo pfa pki pmo ppe pch psty pwset pwfor plaw plent bytes tcodes tends (nI N) tat tcn tpl tok pict tn brs bst) (Ps := []) rfl trivial ?_
        refine ww_iret 23 rfl rfl ?_
        exact Or.inl ⟨by unfold fdOK; grind, rfl, rfl⟩
      · rw [b2i_ne0] at c3
        refine ww_run 13 1 (pc' := 28) (lv' := [(0, .ref 0), (1, .int n), (2, .int a), (3, .int b), (4, .int c), (5, .int d0), (6, .int e)]) (st' := [.int c]) (w' := wC17 fr lo fa ki mo pe ch sty wset wfor law lent pfr plo pfa pki pmo ppe pch psty pwset pwfor plaw plent bytes tcodes tends (nI N) tat tcn tpl tok pict tn brs bst) (Ps := []) rfl trivial ?_
        refine ww_cSi 14 ok_X6_isByte (Co.fr0 (c_X6_isByte c) rfl) lk_X6_144 rfl (by omega) (rest := []) rfl (Nat.le_of_ble_eq_true rfl) rfl ?_
        refine ww_if_eq 15 rfl (tgt := 50) rfl (fun c4 => ?_) (fun c4 => ?_)
        · rw [b2i_eq0] at c4
          refine ww_run 22 1 (pc' := 52) (lv' := [(0, .ref 0), (1, .int n), (2, .int a), (3, .int b), (4, .int c), (5, .int d0), (6, .int e)]) (st' := [.int (-2)]) (w' := wC17 fr lo fa ki mo pe ch sty wset wfor law lent pfr plo pfa pki pmo ppe pch psty pwset pwfor plaw plent bytes tcodes tends (nI N) tat tcn tpl tok pict tn brs bst) (Ps := []) rfl trivial ?_
          refine ww_iret 23 rfl rfl ?_
          exact Or.inl ⟨by unfold fdOK; grind, rfl, rfl⟩
        · rw [b2i_ne0] at c4
          refine ww_run 16 1 (pc' := 36) (lv' := [(0, .ref 0), (1, .int n), (2, .int a), (3, .int b), (4, .int c), (5, .int d0), (6, .int e)]) (st' := [.int d0]) (w' := wC17 fr lo fa ki mo pe ch sty wset wfor law lent pfr plo pfa pki pmo ppe pch psty pwset pwfor plaw plent bytes tcodes tends (nI N) tat tcn tpl tok pict tn brs bst) (Ps := []) rfl trivial ?_
          refine ww_cSi 17 ok_X6_isByte (Co.fr0 (c_X6_isByte d0) rfl) lk_X6_144 rfl (by omega) (rest := []) rfl (Nat.le_of_ble_eq_true rfl) rfl ?_
          refine ww_if_eq 18 rfl (tgt := 50) rfl (fun c5 => ?_) (fun c5 => ?_)
          · rw [b2i_eq0] at c5
            refine ww_run 22 1 (pc' := 52) (lv' := [(0, .ref 0), (1, .int n), (2, .int a), (3, .int b), (4, .int c), (5, .int d0), (6, .int e)]) (st' := [.int (-2)]) (w' := wC17 fr lo fa ki mo pe ch sty wset wfor law lent pfr plo pfa pki pmo ppe pch psty pwset pwfor plaw plent bytes tcodes tends (nI N) tat tcn tpl tok pict tn brs bst) (Ps := []) rfl trivial ?_
            refine ww_iret 23 rfl rfl ?_
            exact Or.inl ⟨by unfold fdOK; grind, rfl, rfl⟩
          · rw [b2i_ne0] at c5
            refine ww_run 19 1 (pc' := 44) (lv' := [(0, .ref 0), (1, .int n), (2, .int a), (3, .int b), (4, .int c), (5, .int d0), (6, .int e)]) (st' := [.int e]) (w' := wC17 fr lo fa ki mo pe ch sty wset wfor law lent pfr plo pfa pki pmo ppe pch psty pwset pwfor plaw plent bytes tcodes tends (nI N) tat tcn tpl tok pict tn brs bst) (Ps := []) rfl trivial ?_
            refine ww_cSi 20 ok_X6_isByte (Co.fr0 (c_X6_isByte e) rfl) lk_X6_144 rfl (by omega) (rest := []) rfl (Nat.le_of_ble_eq_true rfl) rfl ?_
            refine ww_if_ne 21 rfl (tgt := 53) rfl (fun c6 => ?_) (fun c6 => ?_)
            · rw [b2i_ne0] at c6
              have hfd : fdOK n a b c d0 e := ⟨c1, c2, c3, c4, c5, c6⟩
              obtain ⟨k, hk, rfl⟩ := nI_of2 (M := 5) (n := 5) rfl (Int32.not_lt.mpr (Int32.le_trans (by decide) c1.1)) c1.2
              have hk1 : 0 < k := by
                rcases Nat.eq_zero_or_pos k with h0 | h0
                · rw [h0] at hfd; exact absurd hfd.1.1 (by decide)
                · exact h0
              rcases (show k = 1 ∨ k = 2 ∨ k = 3 ∨ k = 4 ∨ k = 5 by omega) with rfl | rfl | rfl | rfl | rfl
              · skip
                refine ww_run 24 6 (pc' := 65) (lv' := [(0, .ref 0), (1, .int (nI 1)), (2, .int a), (3, .int b), (4, .int c), (5, .int d0), (6, .int e)]) (st' := [.int 160, .int ((nI N) + (nI 1))]) (w' := wC17 fr lo fa ki mo pe ch sty wset wfor law lent pfr plo pfa pki pmo ppe pch psty pwset pwfor plaw plent bytes tcodes tends (nI N) tat tcn tpl tok pict tn brs bst) (Ps := []) rfl trivial ?_
                rw [nI_add N 1]
                refine ww_icmp_le 30 rfl (tgt := 71) rfl (fun c7 => ?_) (fun c7 => ?_)
                · have c7 : N + 1 ≤ 160 := (nI_leI (a := (N + 1)) (b := 160) (by omega) (by omega)).mp c7
                  refine ww_run 33 3 (pc' := 76) (lv' := [(0, .ref 0), (1, .int (nI 1)), (2, .int a), (3, .int b), (4, .int c), (5, .int d0), (6, .int e)]) (st' := [.int a, .ref 13]) (w' := wC17 fr lo fa ki mo pe ch sty wset wfor law lent pfr plo pfa pki pmo ppe pch psty pwset pwfor plaw plent bytes tcodes tends (nI N) tat tcn tpl tok pict tn brs bst) (Ps := []) rfl trivial ?_
                  refine ww_cVv 36 (b := 13) (av := [.int a]) (w1 := wC17 fr lo fa ki mo pe ch sty wset wfor law lent pfr plo pfa pki pmo ppe pch psty pwset pwfor plaw plent (upd bytes N a) tcodes tends (nI (N + 1)) tat tcn tpl tok pict tn brs bst) ok_X5_put (Co.frv [13, 14, 15, 16] (x_tput bytes tcodes tends tat tcn tpl tok N (by omega) a) rfl rfl rfl) lk_X6_85 rfl (by omega) (rest := []) rfl (Nat.le_of_ble_eq_true rfl) rfl rfl rfl rfl ?_
                  refine ww_run 37 2 (pc' := 81) (lv' := [(0, .ref 0), (1, .int (nI 1)), (2, .int a), (3, .int b), (4, .int c), (5, .int d0), (6, .int e)]) (st' := [.int 1, .int (nI 1)]) (w' := wC17 fr lo fa ki mo pe ch sty wset wfor law lent pfr plo pfa pki pmo ppe pch psty pwset pwfor plaw plent (upd bytes N a) tcodes tends (nI (N + 1)) tat tcn tpl tok pict tn brs bst) (Ps := []) rfl trivial ?_
                  refine ww_icmp_le 39 rfl (tgt := 92) rfl (fun c8 => ?_) (fun c8 => ?_)
                  · have c8 : 1 ≤ 1 := (nI_leI (a := 1) (b := 1) (by omega) (by omega)).mp c8
                    refine ww_run 44 2 (pc' := 94) (lv' := [(0, .ref 0), (1, .int (nI 1)), (2, .int a), (3, .int b), (4, .int c), (5, .int d0), (6, .int e)]) (st' := [.int 2, .int (nI 1)]) (w' := wC17 fr lo fa ki mo pe ch sty wset wfor law lent pfr plo pfa pki pmo ppe pch psty pwset pwfor plaw plent (upd bytes N a) tcodes tends (nI (N + 1)) tat tcn tpl tok pict tn brs bst) (Ps := []) rfl trivial ?_
                    refine ww_icmp_le 46 rfl (tgt := 106) rfl (fun c9 => ?_) (fun c9 => ?_)
                    · have c9 : 1 ≤ 2 := (nI_leI (a := 1) (b := 2) (by omega) (by omega)).mp c9
                      refine ww_run 51 2 (pc' := 108) (lv' := [(0, .ref 0), (1, .int (nI 1)), (2, .int a), (3, .int b), (4, .int c), (5, .int d0), (6, .int e)]) (st' := [.int 3, .int (nI 1)]) (w' := wC17 fr lo fa ki mo pe ch sty wset wfor law lent pfr plo pfa pki pmo ppe pch psty pwset pwfor plaw plent (upd bytes N a) tcodes tends (nI (N + 1)) tat tcn tpl tok pict tn brs bst) (Ps := []) rfl trivial ?_
                      refine ww_icmp_le 53 rfl (tgt := 120) rfl (fun c10 => ?_) (fun c10 => ?_)
                      · have c10 : 1 ≤ 3 := (nI_leI (a := 1) (b := 3) (by omega) (by omega)).mp c10
                        refine ww_run 58 2 (pc' := 122) (lv' := [(0, .ref 0), (1, .int (nI 1)), (2, .int a), (3, .int b), (4, .int c), (5, .int d0), (6, .int e)]) (st' := [.int 4, .int (nI 1)]) (w' := wC17 fr lo fa ki mo pe ch sty wset wfor law lent pfr plo pfa pki pmo ppe pch psty pwset pwfor plaw plent (upd bytes N a) tcodes tends (nI (N + 1)) tat tcn tpl tok pict tn brs bst) (Ps := []) rfl trivial ?_
                        refine ww_icmp_le 60 rfl (tgt := 134) rfl (fun c11 => ?_) (fun c11 => ?_)
                        · have c11 : 1 ≤ 4 := (nI_leI (a := 1) (b := 4) (by omega) (by omega)).mp c11
                          refine ww_run 65 3 (pc' := 141) (lv' := [(0, .ref 0), (1, .int (nI 1)), (2, .int a), (3, .int b), (4, .int c), (5, .int d0), (6, .int e)]) (st' := [.int (nI (N + 1))]) (w' := wC17 fr lo fa ki mo pe ch sty wset wfor law lent pfr plo pfa pki pmo ppe pch psty pwset pwfor plaw plent (upd bytes N a) tcodes tends (nI (N + 1)) tat tcn tpl tok pict tn brs bst) (Ps := []) rfl trivial ?_
                          refine ww_iret 68 rfl rfl ?_
                          rw [nI_clamp (n := 1) (by decide)]
                          exact Or.inr (Or.inr ⟨⟨hfd, by omega⟩, rfl, rfl⟩)
                        · exact absurd c11 (by decide)
                      · exact absurd c10 (by decide)
                    · exact absurd c9 (by decide)
                  · exact absurd c8 (by decide)
                · have c7 : ¬ N + 1 ≤ 160 := fun q => c7 ((nI_leI (a := (N + 1)) (b := 160) (by omega) (by omega)).mpr q)
                  refine ww_run 31 1 (pc' := 70) (lv' := [(0, .ref 0), (1, .int (nI 1)), (2, .int a), (3, .int b), (4, .int c), (5, .int d0), (6, .int e)]) (st' := [.int (-4)]) (w' := wC17 fr lo fa ki mo pe ch sty wset wfor law lent pfr plo pfa pki pmo ppe pch psty pwset pwfor plaw plent bytes tcodes tends (nI N) tat tcn tpl tok pict tn brs bst) (Ps := []) rfl trivial ?_
                  refine ww_iret 32 rfl rfl ?_
                  refine Or.inr (Or.inl ⟨⟨hfd, ?_⟩, rfl, rfl⟩)
                  rw [nI_clamp (n := 1) (by decide)]
                  omega
              · skip
                refine ww_run 24 6 (pc' := 65) (lv' := [(0, .ref 0), (1, .int (nI 2)), (2, .int a), (3, .int b), (4, .int c), (5, .int d0), (6, .int e)]) (st' := [.int 160, .int ((nI N) + (nI 2))]) (w' := wC17 fr lo fa ki mo pe ch sty wset wfor law lent pfr plo pfa pki pmo ppe pch psty pwset pwfor plaw plent bytes tcodes tends (nI N) tat tcn tpl tok pict tn brs bst) (Ps := []) rfl trivial ?_
                rw [nI_add N 2]
                refine ww_icmp_le 30 rfl (tgt := 71) rfl (fun c12 => ?_) (fun c12 => ?_)
                · have c12 : N + 2 ≤ 160 := (nI_leI (a := (N + 2)) (b := 160) (by omega) (by omega)).mp c12
                  refine ww_run 33 3 (pc' := 76) (lv' := [(0, .ref 0), (1, .int (nI 2)), (2, .int a), (3, .int b), (4, .int c), (5, .int d0), (6, .int e)]) (st' := [.int a, .ref 13]) (w' := wC17 fr lo fa ki mo pe ch sty wset wfor law lent pfr plo pfa pki pmo ppe pch psty pwset pwfor plaw plent bytes tcodes tends (nI N) tat tcn tpl tok pict tn brs bst) (Ps := []) rfl trivial ?_
                  refine ww_cVv 36 (b := 13) (av := [.int a]) (w1 := wC17 fr lo fa ki mo pe ch sty wset wfor law lent pfr plo pfa pki pmo ppe pch psty pwset pwfor plaw plent (upd bytes N a) tcodes tends (nI (N + 1)) tat tcn tpl tok pict tn brs bst) ok_X5_put (Co.frv [13, 14, 15, 16] (x_tput bytes tcodes tends tat tcn tpl tok N (by omega) a) rfl rfl rfl) lk_X6_85 rfl (by omega) (rest := []) rfl (Nat.le_of_ble_eq_true rfl) rfl rfl rfl rfl ?_
                  refine ww_run 37 2 (pc' := 81) (lv' := [(0, .ref 0), (1, .int (nI 2)), (2, .int a), (3, .int b), (4, .int c), (5, .int d0), (6, .int e)]) (st' := [.int 1, .int (nI 2)]) (w' := wC17 fr lo fa ki mo pe ch sty wset wfor law lent pfr plo pfa pki pmo ppe pch psty pwset pwfor plaw plent (upd bytes N a) tcodes tends (nI (N + 1)) tat tcn tpl tok pict tn brs bst) (Ps := []) rfl trivial ?_
                  refine ww_icmp_le 39 rfl (tgt := 92) rfl (fun c13 => ?_) (fun c13 => ?_)
                  · exact absurd c13 (by decide)
                  · have c13 : ¬ 2 ≤ 1 := fun q => c13 ((nI_leI (a := 2) (b := 1) (by omega) (by omega)).mpr q)
                    refine ww_run 40 3 (pc' := 89) (lv' := [(0, .ref 0), (1, .int (nI 2)), (2, .int a), (3, .int b), (4, .int c), (5, .int d0), (6, .int e)]) (st' := [.int b, .ref 13]) (w' := wC17 fr lo fa ki mo pe ch sty wset wfor law lent pfr plo pfa pki pmo ppe pch psty pwset pwfor plaw plent (upd bytes N a) tcodes tends (nI (N + 1)) tat tcn tpl tok pict tn brs bst) (Ps := []) rfl trivial ?_
                    refine ww_cVv 43 (b := 13) (av := [.int b]) (w1 := wC17 fr lo fa ki mo pe ch sty wset wfor law lent pfr plo pfa pki pmo ppe pch psty pwset pwfor plaw plent (upd (upd bytes N a) (N + 1) b) tcodes tends (nI ((N + 1) + 1)) tat tcn tpl tok pict tn brs bst) ok_X5_put (Co.frv [13, 14, 15, 16] (x_tput (upd bytes N a) tcodes tends tat tcn tpl tok (N + 1) (by omega) b) rfl rfl rfl) lk_X6_85 rfl (by omega) (rest := []) rfl (Nat.le_of_ble_eq_true rfl) rfl rfl rfl rfl ?_
                    refine ww_run 44 2 (pc' := 94) (lv' := [(0, .ref 0), (1, .int (nI 2)), (2, .int a), (3, .int b), (4, .int c), (5, .int d0), (6, .int e)]) (st' := [.int 2, .int (nI 2)]) (w' := wC17 fr lo fa ki mo pe ch sty wset wfor law lent pfr plo pfa pki pmo ppe pch psty pwset pwfor plaw plent (upd (upd bytes N a) (N + 1) b) tcodes tends (nI ((N + 1) + 1)) tat tcn tpl tok pict tn brs bst) (Ps := []) rfl trivial ?_
                    refine ww_icmp_le 46 rfl (tgt := 106) rfl (fun c14 => ?_) (fun c14 => ?_)
                    · have c14 : 2 ≤ 2 := (nI_leI (a := 2) (b := 2) (by omega) (by omega)).mp c14
                      refine ww_run 51 2 (pc' := 108) (lv' := [(0, .ref 0), (1, .int (nI 2)), (2, .int a), (3, .int b), (4, .int c), (5, .int d0), (6, .int e)]) (st' := [.int 3, .int (nI 2)]) (w' := wC17 fr lo fa ki mo pe ch sty wset wfor law lent pfr plo pfa pki pmo ppe pch psty pwset pwfor plaw plent (upd (upd bytes N a) (N + 1) b) tcodes tends (nI ((N + 1) + 1)) tat tcn tpl tok pict tn brs bst) (Ps := []) rfl trivial ?_
                      refine ww_icmp_le 53 rfl (tgt := 120) rfl (fun c15 => ?_) (fun c15 => ?_)
                      · have c15 : 2 ≤ 3 := (nI_leI (a := 2) (b := 3) (by omega) (by omega)).mp c15
                        refine ww_run 58 2 (pc' := 122) (lv' := [(0, .ref 0), (1, .int (nI 2)), (2, .int a), (3, .int b), (4, .int c), (5, .int d0), (6, .int e)]) (st' := [.int 4, .int (nI 2)]) (w' := wC17 fr lo fa ki mo pe ch sty wset wfor law lent pfr plo pfa pki pmo ppe pch psty pwset pwfor plaw plent (upd (upd bytes N a) (N + 1) b) tcodes tends (nI ((N + 1) + 1)) tat tcn tpl tok pict tn brs bst) (Ps := []) rfl trivial ?_
                        refine ww_icmp_le 60 rfl (tgt := 134) rfl (fun c16 => ?_) (fun c16 => ?_)
                        · have c16 : 2 ≤ 4 := (nI_leI (a := 2) (b := 4) (by omega) (by omega)).mp c16
                          refine ww_run 65 3 (pc' := 141) (lv' := [(0, .ref 0), (1, .int (nI 2)), (2, .int a), (3, .int b), (4, .int c), (5, .int d0), (6, .int e)]) (st' := [.int (nI ((N + 1) + 1))]) (w' := wC17 fr lo fa ki mo pe ch sty wset wfor law lent pfr plo pfa pki pmo ppe pch psty pwset pwfor plaw plent (upd (upd bytes N a) (N + 1) b) tcodes tends (nI ((N + 1) + 1)) tat tcn tpl tok pict tn brs bst) (Ps := []) rfl trivial ?_
                          refine ww_iret 68 rfl rfl ?_
                          rw [nI_clamp (n := 2) (by decide)]
                          exact Or.inr (Or.inr ⟨⟨hfd, by omega⟩, rfl, rfl⟩)
                        · exact absurd c16 (by decide)
                      · exact absurd c15 (by decide)
                    · exact absurd c14 (by decide)
                · have c12 : ¬ N + 2 ≤ 160 := fun q => c12 ((nI_leI (a := (N + 2)) (b := 160) (by omega) (by omega)).mpr q)
                  refine ww_run 31 1 (pc' := 70) (lv' := [(0, .ref 0), (1, .int (nI 2)), (2, .int a), (3, .int b), (4, .int c), (5, .int d0), (6, .int e)]) (st' := [.int (-4)]) (w' := wC17 fr lo fa ki mo pe ch sty wset wfor law lent pfr plo pfa pki pmo ppe pch psty pwset pwfor plaw plent bytes tcodes tends (nI N) tat tcn tpl tok pict tn brs bst) (Ps := []) rfl trivial ?_
                  refine ww_iret 32 rfl rfl ?_
                  refine Or.inr (Or.inl ⟨⟨hfd, ?_⟩, rfl, rfl⟩)
                  rw [nI_clamp (n := 2) (by decide)]
                  omega
              · skip
                refine ww_run 24 6 (pc' := 65) (lv' := [(0, .ref 0), (1, .int (nI 3)), (2, .int a), (3, .int b), (4, .int c), (5, .int d0), (6, .int e)]) (st' := [.int 160, .int ((nI N) + (nI 3))]) (w' := wC17 fr lo fa ki mo pe ch sty wset wfor law lent pfr plo pfa pki pmo ppe pch psty pwset pwfor plaw plent bytes tcodes tends (nI N) tat tcn tpl tok pict tn brs bst) (Ps := []) rfl trivial ?_
                rw [nI_add N 3]
                refine ww_icmp_le 30 rfl (tgt := 71) rfl (fun c17 => ?_) (fun c17 => ?_)
                · have c17 : N + 3 ≤ 160 := (nI_leI (a := (N + 3)) (b := 160) (by omega) (by omega)).mp c17
                  refine ww_run 33 3 (pc' := 76) (lv' := [(0, .ref 0), (1, .int (nI 3)), (2, .int a), (3, .int b), (4, .int c), (5, .int d0), (6, .int e)]) (st' := [.int a, .ref 13]) (w' := wC17 fr lo fa ki mo pe ch sty wset wfor law lent pfr plo pfa pki pmo ppe pch psty pwset pwfor plaw plent bytes tcodes tends (nI N) tat tcn tpl tok pict tn brs bst) (Ps := []) rfl trivial ?_
                  refine ww_cVv 36 (b := 13) (av := [.int a]) (w1 := wC17 fr lo fa ki mo pe ch sty wset wfor law lent pfr plo pfa pki pmo ppe pch psty pwset pwfor plaw plent (upd bytes N a) tcodes tends (nI (N + 1)) tat tcn tpl tok pict tn brs bst) ok_X5_put (Co.frv [13, 14, 15, 16] (x_tput bytes tcodes tends tat tcn tpl tok N (by omega) a) rfl rfl rfl) lk_X6_85 rfl (by omega) (rest := []) rfl (Nat.le_of_ble_eq_true rfl) rfl rfl rfl rfl ?_
                  refine ww_run 37 2 (pc' := 81) (lv' := [(0, .ref 0), (1, .int (nI 3)), (2, .int a), (3, .int b), (4, .int c), (5, .int d0), (6, .int e)]) (st' := [.int 1, .int (nI 3)]) (w' := wC17 fr lo fa ki mo pe ch sty wset wfor law lent pfr plo pfa pki pmo ppe pch psty pwset pwfor plaw plent (upd bytes N a) tcodes tends (nI (N + 1)) tat tcn tpl tok pict tn brs bst) (Ps := []) rfl trivial ?_
                  refine ww_icmp_le 39 rfl (tgt := 92) rfl (fun c18 => ?_) (fun c18 => ?_)
                  · exact absurd c18 (by decide)
                  · have c18 : ¬ 3 ≤ 1 := fun q => c18 ((nI_leI (a := 3) (b := 1) (by omega) (by omega)).mpr q)
                    refine ww_run 40 3 (pc' := 89) (lv' := [(0, .ref 0), (1, .int (nI 3)), (2, .int a), (3, .int b), (4, .int c), (5, .int d0), (6, .int e)]) (st' := [.int b, .ref 13]) (w' := wC17 fr lo fa ki mo pe ch sty wset wfor law lent pfr plo pfa pki pmo ppe pch psty pwset pwfor plaw plent (upd bytes N a) tcodes tends (nI (N + 1)) tat tcn tpl tok pict tn brs bst) (Ps := []) rfl trivial ?_
                    refine ww_cVv 43 (b := 13) (av := [.int b]) (w1 := wC17 fr lo fa ki mo pe ch sty wset wfor law lent pfr plo pfa pki pmo ppe pch psty pwset pwfor plaw plent (upd (upd bytes N a) (N + 1) b) tcodes tends (nI ((N + 1) + 1)) tat tcn tpl tok pict tn brs bst) ok_X5_put (Co.frv [13, 14, 15, 16] (x_tput (upd bytes N a) tcodes tends tat tcn tpl tok (N + 1) (by omega) b) rfl rfl rfl) lk_X6_85 rfl (by omega) (rest := []) rfl (Nat.le_of_ble_eq_true rfl) rfl rfl rfl rfl ?_
                    refine ww_run 44 2 (pc' := 94) (lv' := [(0, .ref 0), (1, .int (nI 3)), (2, .int a), (3, .int b), (4, .int c), (5, .int d0), (6, .int e)]) (st' := [.int 2, .int (nI 3)]) (w' := wC17 fr lo fa ki mo pe ch sty wset wfor law lent pfr plo pfa pki pmo ppe pch psty pwset pwfor plaw plent (upd (upd bytes N a) (N + 1) b) tcodes tends (nI ((N + 1) + 1)) tat tcn tpl tok pict tn brs bst) (Ps := []) rfl trivial ?_
                    refine ww_icmp_le 46 rfl (tgt := 106) rfl (fun c19 => ?_) (fun c19 => ?_)
                    · exact absurd c19 (by decide)
                    · have c19 : ¬ 3 ≤ 2 := fun q => c19 ((nI_leI (a := 3) (b := 2) (by omega) (by omega)).mpr q)
                      refine ww_run 47 3 (pc' := 103) (lv' := [(0, .ref 0), (1, .int (nI 3)), (2, .int a), (3, .int b), (4, .int c), (5, .int d0), (6, .int e)]) (st' := [.int c, .ref 13]) (w' := wC17 fr lo fa ki mo pe ch sty wset wfor law lent pfr plo pfa pki pmo ppe pch psty pwset pwfor plaw plent (upd (upd bytes N a) (N + 1) b) tcodes tends (nI ((N + 1) + 1)) tat tcn tpl tok pict tn brs bst) (Ps := []) rfl trivial ?_
                      refine ww_cVv 50 (b := 13) (av := [.int c]) (w1 := wC17 fr lo fa ki mo pe ch sty wset wfor law lent pfr plo pfa pki pmo ppe pch psty pwset pwfor plaw plent (upd (upd (upd bytes N a) (N + 1) b) ((N + 1) + 1) c) tcodes tends (nI (((N + 1) + 1) + 1)) tat tcn tpl tok pict tn brs bst) ok_X5_put (Co.frv [13, 14, 15, 16] (x_tput (upd (upd bytes N a) (N + 1) b) tcodes tends tat tcn tpl tok ((N + 1) + 1) (by omega) c) rfl rfl rfl) lk_X6_85 rfl (by omega) (rest := []) rfl (Nat.le_of_ble_eq_true rfl) rfl rfl rfl rfl ?_
                      refine ww_run 51 2 (pc' := 108) (lv' := [(0, .ref 0), (1, .int (nI 3)), (2, .int a), (3, .int b), (4, .int c), (5, .int d0), (6, .int e)]) (st' := [.int 3, .int (nI 3)]) (w' := wC17 fr lo fa ki mo pe ch sty wset wfor law lent pfr plo pfa pki pmo ppe pch psty pwset pwfor plaw plent (upd (upd (upd bytes N a) (N + 1) b) ((N + 1) + 1) c) tcodes tends (nI (((N + 1) + 1) + 1)) tat tcn tpl tok pict tn brs bst) (Ps := []) rfl trivial ?_
                      refine ww_icmp_le 53 rfl (tgt := 120) rfl (fun c20 => ?_) (fun c20 => ?_)
                      · have c20 : 3 ≤ 3 := (nI_leI (a := 3) (b := 3) (by omega) (by omega)).mp c20
                        refine ww_run 58 2 (pc' := 122) (lv' := [(0, .ref 0), (1, .int (nI 3)), (2, .int a), (3, .int b), (4, .int c), (5, .int d0), (6, .int e)]) (st' := [.int 4, .int (nI 3)]) (w' := wC17 fr lo fa ki mo pe ch sty wset wfor law lent pfr plo pfa pki pmo ppe pch psty pwset pwfor plaw plent (upd (upd (upd bytes N a) (N + 1) b) ((N + 1) + 1) c) tcodes tends (nI (((N + 1) + 1) + 1)) tat tcn tpl tok pict tn brs bst) (Ps := []) rfl trivial ?_
                        refine ww_icmp_le 60 rfl (tgt := 134) rfl (fun c21 => ?_) (fun c21 => ?_)
                        · have c21 : 3 ≤ 4 := (nI_leI (a := 3) (b := 4) (by omega) (by omega)).mp c21
                          refine ww_run 65 3 (pc' := 141) (lv' := [(0, .ref 0), (1, .int (nI 3)), (2, .int a), (3, .int b), (4, .int c), (5, .int d0), (6, .int e)]) (st' := [.int (nI (((N + 1) + 1) + 1))]) (w' := wC17 fr lo fa ki mo pe ch sty wset wfor law lent pfr plo pfa pki pmo ppe pch psty pwset pwfor plaw plent (upd (upd (upd bytes N a) (N + 1) b) ((N + 1) + 1) c) tcodes tends (nI (((N + 1) + 1) + 1)) tat tcn tpl tok pict tn brs bst) (Ps := []) rfl trivial ?_
                          refine ww_iret 68 rfl rfl ?_
                          rw [nI_clamp (n := 3) (by decide)]
                          exact Or.inr (Or.inr ⟨⟨hfd, by omega⟩, rfl, rfl⟩)
                        · exact absurd c21 (by decide)
                      · exact absurd c20 (by decide)
                · have c17 : ¬ N + 3 ≤ 160 := fun q => c17 ((nI_leI (a := (N + 3)) (b := 160) (by omega) (by omega)).mpr q)
                  refine ww_run 31 1 (pc' := 70) (lv' := [(0, .ref 0), (1, .int (nI 3)), (2, .int a), (3, .int b), (4, .int c), (5, .int d0), (6, .int e)]) (st' := [.int (-4)]) (w' := wC17 fr lo fa ki mo pe ch sty wset wfor law lent pfr plo pfa pki pmo ppe pch psty pwset pwfor plaw plent bytes tcodes tends (nI N) tat tcn tpl tok pict tn brs bst) (Ps := []) rfl trivial ?_
                  refine ww_iret 32 rfl rfl ?_
                  refine Or.inr (Or.inl ⟨⟨hfd, ?_⟩, rfl, rfl⟩)
                  rw [nI_clamp (n := 3) (by decide)]
                  omega
              · skip
                refine ww_run 24 6 (pc' := 65) (lv' := [(0, .ref 0), (1, .int (nI 4)), (2, .int a), (3, .int b), (4, .int c), (5, .int d0), (6, .int e)]) (st' := [.int 160, .int ((nI N) + (nI 4))]) (w' := wC17 fr lo fa ki mo pe ch sty wset wfor law lent pfr plo pfa pki pmo ppe pch psty pwset pwfor plaw plent bytes tcodes tends (nI N) tat tcn tpl tok pict tn brs bst) (Ps := []) rfl trivial ?_
                rw [nI_add N 4]
                refine ww_icmp_le 30 rfl (tgt := 71) rfl (fun c22 => ?_) (fun c22 => ?_)
                · have c22 : N + 4 ≤ 160 := (nI_leI (a := (N + 4)) (b := 160) (by omega) (by omega)).mp c22
                  refine ww_run 33 3 (pc' := 76) (lv' := [(0, .ref 0), (1, .int (nI 4)), (2, .int a), (3, .int b), (4, .int c), (5, .int d0), (6, .int e)]) (st' := [.int a, .ref 13]) (w' := wC17 fr lo fa ki mo pe ch sty wset wfor law lent pfr plo pfa pki pmo ppe pch psty pwset pwfor plaw plent bytes tcodes tends (nI N) tat tcn tpl tok pict tn brs bst) (Ps := []) rfl trivial ?_
                  refine ww_cVv 36 (b := 13) (av := [.int a]) (w1 := wC17 fr lo fa ki mo pe ch sty wset wfor law lent pfr plo pfa pki pmo ppe pch psty pwset pwfor plaw plent (upd bytes N a) tcodes tends (nI (N + 1)) tat tcn tpl tok pict tn brs bst) ok_X5_put (Co.frv [13, 14, 15, 16] (x_tput bytes tcodes tends tat tcn tpl tok N (by omega) a) rfl rfl rfl) lk_X6_85 rfl (by omega) (rest := []) rfl (Nat.le_of_ble_eq_true rfl) rfl rfl rfl rfl ?_
                  refine ww_run 37 2 (pc' := 81) (lv' := [(0, .ref 0), (1, .int (nI 4)), (2, .int a), (3, .int b), (4, .int c), (5, .int d0), (6, .int e)]) (st' := [.int 1, .int (nI 4)]) (w' := wC17 fr lo fa ki mo pe ch sty wset wfor law lent pfr plo pfa pki pmo ppe pch psty pwset pwfor plaw plent (upd bytes N a) tcodes tends (nI (N + 1)) tat tcn tpl tok pict tn brs bst) (Ps := []) rfl trivial ?_
                  refine ww_icmp_le 39 rfl (tgt := 92) rfl (fun c23 => ?_) (fun c23 => ?_)
                  · exact absurd c23 (by decide)
                  · have c23 : ¬ 4 ≤ 1 := fun q => c23 ((nI_leI (a := 4) (b := 1) (by omega) (by omega)).mpr q)
                    refine ww_run 40 3 (pc' := 89) (lv' := [(0, .ref 0), (1, .int (nI 4)), (2, .int a), (3, .int b), (4, .int c), (5, .int d0), (6, .int e)]) (st' := [.int b, .ref 13]) (w' := wC17 fr lo fa ki mo pe ch sty wset wfor law lent pfr plo pfa pki pmo ppe pch psty pwset pwfor plaw plent (upd bytes N a) tcodes tends (nI (N + 1)) tat tcn tpl tok pict tn brs bst) (Ps := []) rfl trivial ?_
                    refine ww_cVv 43 (b := 13) (av := [.int b]) (w1 := wC17 fr lo fa ki mo pe ch sty wset wfor law lent pfr plo pfa pki pmo ppe pch psty pwset pwfor plaw plent (upd (upd bytes N a) (N + 1) b) tcodes tends (nI ((N + 1) + 1)) tat tcn tpl tok pict tn brs bst) ok_X5_put (Co.frv [13, 14, 15, 16] (x_tput (upd bytes N a) tcodes tends tat tcn tpl tok (N + 1) (by omega) b) rfl rfl rfl) lk_X6_85 rfl (by omega) (rest := []) rfl (Nat.le_of_ble_eq_true rfl) rfl rfl rfl rfl ?_
                    refine ww_run 44 2 (pc' := 94) (lv' := [(0, .ref 0), (1, .int (nI 4)), (2, .int a), (3, .int b), (4, .int c), (5, .int d0), (6, .int e)]) (st' := [.int 2, .int (nI 4)]) (w' := wC17 fr lo fa ki mo pe ch sty wset wfor law lent pfr plo pfa pki pmo ppe pch psty pwset pwfor plaw plent (upd (upd bytes N a) (N + 1) b) tcodes tends (nI ((N + 1) + 1)) tat tcn tpl tok pict tn brs bst) (Ps := []) rfl trivial ?_
                    refine ww_icmp_le 46 rfl (tgt := 106) rfl (fun c24 => ?_) (fun c24 => ?_)
                    · exact absurd c24 (by decide)
                    · have c24 : ¬ 4 ≤ 2 := fun q => c24 ((nI_leI (a := 4) (b := 2) (by omega) (by omega)).mpr q)
                      refine ww_run 47 3 (pc' := 103) (lv' := [(0, .ref 0), (1, .int (nI 4)), (2, .int a), (3, .int b), (4, .int c), (5, .int d0), (6, .int e)]) (st' := [.int c, .ref 13]) (w' := wC17 fr lo fa ki mo pe ch sty wset wfor law lent pfr plo pfa pki pmo ppe pch psty pwset pwfor plaw plent (upd (upd bytes N a) (N + 1) b) tcodes tends (nI ((N + 1) + 1)) tat tcn tpl tok pict tn brs bst) (Ps := []) rfl trivial ?_
                      refine ww_cVv 50 (b := 13) (av := [.int c]) (w1 := wC17 fr lo fa ki mo pe ch sty wset wfor law lent pfr plo pfa pki pmo ppe pch psty pwset pwfor plaw plent (upd (upd (upd bytes N a) (N + 1) b) ((N + 1) + 1) c) tcodes tends (nI (((N + 1) + 1) + 1)) tat tcn tpl tok pict tn brs bst) ok_X5_put (Co.frv [13, 14, 15, 16] (x_tput (upd (upd bytes N a) (N + 1) b) tcodes tends tat tcn tpl tok ((N + 1) + 1) (by omega) c) rfl rfl rfl) lk_X6_85 rfl (by omega) (rest := []) rfl (Nat.le_of_ble_eq_true rfl) rfl rfl rfl rfl ?_
                      refine ww_run 51 2 (pc' := 108) (lv' := [(0, .ref 0), (1, .int (nI 4)), (2, .int a), (3, .int b), (4, .int c), (5, .int d0), (6, .int e)]) (st' := [.int 3, .int (nI 4)]) (w' := wC17 fr lo fa ki mo pe ch sty wset wfor law lent pfr plo pfa pki pmo ppe pch psty pwset pwfor plaw plent (upd (upd (upd bytes N a) (N + 1) b) ((N + 1) + 1) c) tcodes tends (nI (((N + 1) + 1) + 1)) tat tcn tpl tok pict tn brs bst) (Ps := []) rfl trivial ?_
                      refine ww_icmp_le 53 rfl (tgt := 120) rfl (fun c25 => ?_) (fun c25 => ?_)
                      · exact absurd c25 (by decide)
                      · have c25 : ¬ 4 ≤ 3 := fun q => c25 ((nI_leI (a := 4) (b := 3) (by omega) (by omega)).mpr q)
                        refine ww_run 54 3 (pc' := 117) (lv' := [(0, .ref 0), (1, .int (nI 4)), (2, .int a), (3, .int b), (4, .int c), (5, .int d0), (6, .int e)]) (st' := [.int d0, .ref 13]) (w' := wC17 fr lo fa ki mo pe ch sty wset wfor law lent pfr plo pfa pki pmo ppe pch psty pwset pwfor plaw plent (upd (upd (upd bytes N a) (N + 1) b) ((N + 1) + 1) c) tcodes tends (nI (((N + 1) + 1) + 1)) tat tcn tpl tok pict tn brs bst) (Ps := []) rfl trivial ?_
                        refine ww_cVv 57 (b := 13) (av := [.int d0]) (w1 := wC17 fr lo fa ki mo pe ch sty wset wfor law lent pfr plo pfa pki pmo ppe pch psty pwset pwfor plaw plent (upd (upd (upd (upd bytes N a) (N + 1) b) ((N + 1) + 1) c) (((N + 1) + 1) + 1) d0) tcodes tends (nI ((((N + 1) + 1) + 1) + 1)) tat tcn tpl tok pict tn brs bst) ok_X5_put (Co.frv [13, 14, 15, 16] (x_tput (upd (upd (upd bytes N a) (N + 1) b) ((N + 1) + 1) c) tcodes tends tat tcn tpl tok (((N + 1) + 1) + 1) (by omega) d0) rfl rfl rfl) lk_X6_85 rfl (by omega) (rest := []) rfl (Nat.le_of_ble_eq_true rfl) rfl rfl rfl rfl ?_
                        refine ww_run 58 2 (pc' := 122) (lv' := [(0, .ref 0), (1, .int (nI 4)), (2, .int a), (3, .int b), (4, .int c), (5, .int d0), (6, .int e)]) (st' := [.int 4, .int (nI 4)]) (w' := wC17 fr lo fa ki mo pe ch sty wset wfor law lent pfr plo pfa pki pmo ppe pch psty pwset pwfor plaw plent (upd (upd (upd (upd bytes N a) (N + 1) b) ((N + 1) + 1) c) (((N + 1) + 1) + 1) d0) tcodes tends (nI ((((N + 1) + 1) + 1) + 1)) tat tcn tpl tok pict tn brs bst) (Ps := []) rfl trivial ?_
                        refine ww_icmp_le 60 rfl (tgt := 134) rfl (fun c26 => ?_) (fun c26 => ?_)
                        · have c26 : 4 ≤ 4 := (nI_leI (a := 4) (b := 4) (by omega) (by omega)).mp c26
                          refine ww_run 65 3 (pc' := 141) (lv' := [(0, .ref 0), (1, .int (nI 4)), (2, .int a), (3, .int b), (4, .int c), (5, .int d0), (6, .int e)]) (st' := [.int (nI ((((N + 1) + 1) + 1) + 1))]) (w' := wC17 fr lo fa ki mo pe ch sty wset wfor law lent pfr plo pfa pki pmo ppe pch psty pwset pwfor plaw plent (upd (upd (upd (upd bytes N a) (N + 1) b) ((N + 1) + 1) c) (((N + 1) + 1) + 1) d0) tcodes tends (nI ((((N + 1) + 1) + 1) + 1)) tat tcn tpl tok pict tn brs bst) (Ps := []) rfl trivial ?_
                          refine ww_iret 68 rfl rfl ?_
                          rw [nI_clamp (n := 4) (by decide)]
                          exact Or.inr (Or.inr ⟨⟨hfd, by omega⟩, rfl, rfl⟩)
                        · exact absurd c26 (by decide)
                · have c22 : ¬ N + 4 ≤ 160 := fun q => c22 ((nI_leI (a := (N + 4)) (b := 160) (by omega) (by omega)).mpr q)
                  refine ww_run 31 1 (pc' := 70) (lv' := [(0, .ref 0), (1, .int (nI 4)), (2, .int a), (3, .int b), (4, .int c), (5, .int d0), (6, .int e)]) (st' := [.int (-4)]) (w' := wC17 fr lo fa ki mo pe ch sty wset wfor law lent pfr plo pfa pki pmo ppe pch psty pwset pwfor plaw plent bytes tcodes tends (nI N) tat tcn tpl tok pict tn brs bst) (Ps := []) rfl trivial ?_
                  refine ww_iret 32 rfl rfl ?_
                  refine Or.inr (Or.inl ⟨⟨hfd, ?_⟩, rfl, rfl⟩)
                  rw [nI_clamp (n := 4) (by decide)]
                  omega
              · skip
                refine ww_run 24 6 (pc' := 65) (lv' := [(0, .ref 0), (1, .int (nI 5)), (2, .int a), (3, .int b), (4, .int c), (5, .int d0), (6, .int e)]) (st' := [.int 160, .int ((nI N) + (nI 5))]) (w' := wC17 fr lo fa ki mo pe ch sty wset wfor law lent pfr plo pfa pki pmo ppe pch psty pwset pwfor plaw plent bytes tcodes tends (nI N) tat tcn tpl tok pict tn brs bst) (Ps := []) rfl trivial ?_
                rw [nI_add N 5]
                refine ww_icmp_le 30 rfl (tgt := 71) rfl (fun c27 => ?_) (fun c27 => ?_)
                · have c27 : N + 5 ≤ 160 := (nI_leI (a := (N + 5)) (b := 160) (by omega) (by omega)).mp c27
                  refine ww_run 33 3 (pc' := 76) (lv' := [(0, .ref 0), (1, .int (nI 5)), (2, .int a), (3, .int b), (4, .int c), (5, .int d0), (6, .int e)]) (st' := [.int a, .ref 13]) (w' := wC17 fr lo fa ki mo pe ch sty wset wfor law lent pfr plo pfa pki pmo ppe pch psty pwset pwfor plaw plent bytes tcodes tends (nI N) tat tcn tpl tok pict tn brs bst) (Ps := []) rfl trivial ?_
                  refine ww_cVv 36 (b := 13) (av := [.int a]) (w1 := wC17 fr lo fa ki mo pe ch sty wset wfor law lent pfr plo pfa pki pmo ppe pch psty pwset pwfor plaw plent (upd bytes N a) tcodes tends (nI (N + 1)) tat tcn tpl tok pict tn brs bst) ok_X5_put (Co.frv [13, 14, 15, 16] (x_tput bytes tcodes tends tat tcn tpl tok N (by omega) a) rfl rfl rfl) lk_X6_85 rfl (by omega) (rest := []) rfl (Nat.le_of_ble_eq_true rfl) rfl rfl rfl rfl ?_
                  refine ww_run 37 2 (pc' := 81) (lv' := [(0, .ref 0), (1, .int (nI 5)), (2, .int a), (3, .int b), (4, .int c), (5, .int d0), (6, .int e)]) (st' := [.int 1, .int (nI 5)]) (w' := wC17 fr lo fa ki mo pe ch sty wset wfor law lent pfr plo pfa pki pmo ppe pch psty pwset pwfor plaw plent (upd bytes N a) tcodes tends (nI (N + 1)) tat tcn tpl tok pict tn brs bst) (Ps := []) rfl trivial ?_
                  refine ww_icmp_le 39 rfl (tgt := 92) rfl (fun c28 => ?_) (fun c28 => ?_)
                  · exact absurd c28 (by decide)
                  · have c28 : ¬ 5 ≤ 1 := fun q => c28 ((nI_leI (a := 5) (b := 1) (by omega) (by omega)).mpr q)
                    refine ww_run 40 3 (pc' := 89) (lv' := [(0, .ref 0), (1, .int (nI 5)), (2, .int a), (3, .int b), (4, .int c), (5, .int d0), (6, .int e)]) (st' := [.int b, .ref 13]) (w' := wC17 fr lo fa ki mo pe ch sty wset wfor law lent pfr plo pfa pki pmo ppe pch psty pwset pwfor plaw plent (upd bytes N a) tcodes tends (nI (N + 1)) tat tcn tpl tok pict tn brs bst) (Ps := []) rfl trivial ?_
                    refine ww_cVv 43 (b := 13) (av := [.int b]) (w1 := wC17 fr lo fa ki mo pe ch sty wset wfor law lent pfr plo pfa pki pmo ppe pch psty pwset pwfor plaw plent (upd (upd bytes N a) (N + 1) b) tcodes tends (nI ((N + 1) + 1)) tat tcn tpl tok pict tn brs bst) ok_X5_put (Co.frv [13, 14, 15, 16] (x_tput (upd bytes N a) tcodes tends tat tcn tpl tok (N + 1) (by omega) b) rfl rfl rfl) lk_X6_85 rfl (by omega) (rest := []) rfl (Nat.le_of_ble_eq_true rfl) rfl rfl rfl rfl ?_
                    refine ww_run 44 2 (pc' := 94) (lv' := [(0, .ref 0), (1, .int (nI 5)), (2, .int a), (3, .int b), (4, .int c), (5, .int d0), (6, .int e)]) (st' := [.int 2, .int (nI 5)]) (w' := wC17 fr lo fa ki mo pe ch sty wset wfor law lent pfr plo pfa pki pmo ppe pch psty pwset pwfor plaw plent (upd (upd bytes N a) (N + 1) b) tcodes tends (nI ((N + 1) + 1)) tat tcn tpl tok pict tn brs bst) (Ps := []) rfl trivial ?_
                    refine ww_icmp_le 46 rfl (tgt := 106) rfl (fun c29 => ?_) (fun c29 => ?_)
                    · exact absurd c29 (by decide)
                    · have c29 : ¬ 5 ≤ 2 := fun q => c29 ((nI_leI (a := 5) (b := 2) (by omega) (by omega)).mpr q)
                      refine ww_run 47 3 (pc' := 103) (lv' := [(0, .ref 0), (1, .int (nI 5)), (2, .int a), (3, .int b), (4, .int c), (5, .int d0), (6, .int e)]) (st' := [.int c, .ref 13]) (w' := wC17 fr lo fa ki mo pe ch sty wset wfor law lent pfr plo pfa pki pmo ppe pch psty pwset pwfor plaw plent (upd (upd bytes N a) (N + 1) b) tcodes tends (nI ((N + 1) + 1)) tat tcn tpl tok pict tn brs bst) (Ps := []) rfl trivial ?_
                      refine ww_cVv 50 (b := 13) (av := [.int c]) (w1 := wC17 fr lo fa ki mo pe ch sty wset wfor law lent pfr plo pfa pki pmo ppe pch psty pwset pwfor plaw plent (upd (upd (upd bytes N a) (N + 1) b) ((N + 1) + 1) c) tcodes tends (nI (((N + 1) + 1) + 1)) tat tcn tpl tok pict tn brs bst) ok_X5_put (Co.frv [13, 14, 15, 16] (x_tput (upd (upd bytes N a) (N + 1) b) tcodes tends tat tcn tpl tok ((N + 1) + 1) (by omega) c) rfl rfl rfl) lk_X6_85 rfl (by omega) (rest := []) rfl (Nat.le_of_ble_eq_true rfl) rfl rfl rfl rfl ?_
                      refine ww_run 51 2 (pc' := 108) (lv' := [(0, .ref 0), (1, .int (nI 5)), (2, .int a), (3, .int b), (4, .int c), (5, .int d0), (6, .int e)]) (st' := [.int 3, .int (nI 5)]) (w' := wC17 fr lo fa ki mo pe ch sty wset wfor law lent pfr plo pfa pki pmo ppe pch psty pwset pwfor plaw plent (upd (upd (upd bytes N a) (N + 1) b) ((N + 1) + 1) c) tcodes tends (nI (((N + 1) + 1) + 1)) tat tcn tpl tok pict tn brs bst) (Ps := []) rfl trivial ?_
                      refine ww_icmp_le 53 rfl (tgt := 120) rfl (fun c30 => ?_) (fun c30 => ?_)
                      · exact absurd c30 (by decide)
                      · have c30 : ¬ 5 ≤ 3 := fun q => c30 ((nI_leI (a := 5) (b := 3) (by omega) (by omega)).mpr q)
                        refine ww_run 54 3 (pc' := 117) (lv' := [(0, .ref 0), (1, .int (nI 5)), (2, .int a), (3, .int b), (4, .int c), (5, .int d0), (6, .int e)]) (st' := [.int d0, .ref 13]) (w' := wC17 fr lo fa ki mo pe ch sty wset wfor law lent pfr plo pfa pki pmo ppe pch psty pwset pwfor plaw plent (upd (upd (upd bytes N a) (N + 1) b) ((N + 1) + 1) c) tcodes tends (nI (((N + 1) + 1) + 1)) tat tcn tpl tok pict tn brs bst) (Ps := []) rfl trivial ?_
                        refine ww_cVv 57 (b := 13) (av := [.int d0]) (w1 := wC17 fr lo fa ki mo pe ch sty wset wfor law lent pfr plo pfa pki pmo ppe pch psty pwset pwfor plaw plent (upd (upd (upd (upd bytes N a) (N + 1) b) ((N + 1) + 1) c) (((N + 1) + 1) + 1) d0) tcodes tends (nI ((((N + 1) + 1) + 1) + 1)) tat tcn tpl tok pict tn brs bst) ok_X5_put (Co.frv [13, 14, 15, 16] (x_tput (upd (upd (upd bytes N a) (N + 1) b) ((N + 1) + 1) c) tcodes tends tat tcn tpl tok (((N + 1) + 1) + 1) (by omega) d0) rfl rfl rfl) lk_X6_85 rfl (by omega) (rest := []) rfl (Nat.le_of_ble_eq_true rfl) rfl rfl rfl rfl ?_
                        refine ww_run 58 2 (pc' := 122) (lv' := [(0, .ref 0), (1, .int (nI 5)), (2, .int a), (3, .int b), (4, .int c), (5, .int d0), (6, .int e)]) (st' := [.int 4, .int (nI 5)]) (w' := wC17 fr lo fa ki mo pe ch sty wset wfor law lent pfr plo pfa pki pmo ppe pch psty pwset pwfor plaw plent (upd (upd (upd (upd bytes N a) (N + 1) b) ((N + 1) + 1) c) (((N + 1) + 1) + 1) d0) tcodes tends (nI ((((N + 1) + 1) + 1) + 1)) tat tcn tpl tok pict tn brs bst) (Ps := []) rfl trivial ?_
                        refine ww_icmp_le 60 rfl (tgt := 134) rfl (fun c31 => ?_) (fun c31 => ?_)
                        · exact absurd c31 (by decide)
                        · have c31 : ¬ 5 ≤ 4 := fun q => c31 ((nI_leI (a := 5) (b := 4) (by omega) (by omega)).mpr q)
                          refine ww_run 61 3 (pc' := 131) (lv' := [(0, .ref 0), (1, .int (nI 5)), (2, .int a), (3, .int b), (4, .int c), (5, .int d0), (6, .int e)]) (st' := [.int e, .ref 13]) (w' := wC17 fr lo fa ki mo pe ch sty wset wfor law lent pfr plo pfa pki pmo ppe pch psty pwset pwfor plaw plent (upd (upd (upd (upd bytes N a) (N + 1) b) ((N + 1) + 1) c) (((N + 1) + 1) + 1) d0) tcodes tends (nI ((((N + 1) + 1) + 1) + 1)) tat tcn tpl tok pict tn brs bst) (Ps := []) rfl trivial ?_
                          refine ww_cVv 64 (b := 13) (av := [.int e]) (w1 := wC17 fr lo fa ki mo pe ch sty wset wfor law lent pfr plo pfa pki pmo ppe pch psty pwset pwfor plaw plent (upd (upd (upd (upd (upd bytes N a) (N + 1) b) ((N + 1) + 1) c) (((N + 1) + 1) + 1) d0) ((((N + 1) + 1) + 1) + 1) e) tcodes tends (nI (((((N + 1) + 1) + 1) + 1) + 1)) tat tcn tpl tok pict tn brs bst) ok_X5_put (Co.frv [13, 14, 15, 16] (x_tput (upd (upd (upd (upd bytes N a) (N + 1) b) ((N + 1) + 1) c) (((N + 1) + 1) + 1) d0) tcodes tends tat tcn tpl tok ((((N + 1) + 1) + 1) + 1) (by omega) e) rfl rfl rfl) lk_X6_85 rfl (by omega) (rest := []) rfl (Nat.le_of_ble_eq_true rfl) rfl rfl rfl rfl ?_
                          refine ww_run 65 3 (pc' := 141) (lv' := [(0, .ref 0), (1, .int (nI 5)), (2, .int a), (3, .int b), (4, .int c), (5, .int d0), (6, .int e)]) (st' := [.int (nI (((((N + 1) + 1) + 1) + 1) + 1))]) (w' := wC17 fr lo fa ki mo pe ch sty wset wfor law lent pfr plo pfa pki pmo ppe pch psty pwset pwfor plaw plent (upd (upd (upd (upd (upd bytes N a) (N + 1) b) ((N + 1) + 1) c) (((N + 1) + 1) + 1) d0) ((((N + 1) + 1) + 1) + 1) e) tcodes tends (nI (((((N + 1) + 1) + 1) + 1) + 1)) tat tcn tpl tok pict tn brs bst) (Ps := []) rfl trivial ?_
                          refine ww_iret 68 rfl rfl ?_
                          rw [nI_clamp (n := 5) (by decide)]
                          exact Or.inr (Or.inr ⟨⟨hfd, by omega⟩, rfl, rfl⟩)
                · have c27 : ¬ N + 5 ≤ 160 := fun q => c27 ((nI_leI (a := (N + 5)) (b := 160) (by omega) (by omega)).mpr q)
                  refine ww_run 31 1 (pc' := 70) (lv' := [(0, .ref 0), (1, .int (nI 5)), (2, .int a), (3, .int b), (4, .int c), (5, .int d0), (6, .int e)]) (st' := [.int (-4)]) (w' := wC17 fr lo fa ki mo pe ch sty wset wfor law lent pfr plo pfa pki pmo ppe pch psty pwset pwfor plaw plent bytes tcodes tends (nI N) tat tcn tpl tok pict tn brs bst) (Ps := []) rfl trivial ?_
                  refine ww_iret 32 rfl rfl ?_
                  refine Or.inr (Or.inl ⟨⟨hfd, ?_⟩, rfl, rfl⟩)
                  rw [nI_clamp (n := 5) (by decide)]
                  omega
            · rw [b2i_eq0] at c6
              refine ww_run 22 1 (pc' := 52) (lv' := [(0, .ref 0), (1, .int n), (2, .int a), (3, .int b), (4, .int c), (5, .int d0), (6, .int e)]) (st' := [.int (-2)]) (w' := wC17 fr lo fa ki mo pe ch sty wset wfor law lent pfr plo pfa pki pmo ppe pch psty pwset pwfor plaw plent bytes tcodes tends (nI N) tat tcn tpl tok pict tn brs bst) (Ps := []) rfl trivial ?_
              refine ww_iret 23 rfl rfl ?_
              exact Or.inl ⟨by unfold fdOK; grind, rfl, rfl⟩
  · rw [b2i_eq0] at c1
    refine ww_run 5 1 (pc' := 11) (lv' := [(0, .ref 0), (1, .int n), (2, .int a), (3, .int b), (4, .int c), (5, .int d0), (6, .int e)]) (st' := [.int (-2)]) (w' := wC17 fr lo fa ki mo pe ch sty wset wfor law lent pfr plo pfa pki pmo ppe pch psty pwset pwfor plaw plent bytes tcodes tends (nI N) tat tcn tpl tok pict tn brs bst) (Ps := []) rfl trivial ?_
    refine ww_iret 6 rfl rfl ?_
    exact Or.inl ⟨by unfold fdOK; grind, rfl, rfl⟩
set_option maxHeartbeats 4000000 in
set_option maxRecDepth 100000 in
theorem x_count (fr lo fa ki mo : Nat → Int32) (pe ch sty wset wfor law lent : Int32) (pfr plo pfa pki pmo : Nat → Int32) (ppe pch psty pwset pwfor plaw plent : Int32) (bytes tcodes tends : Nat → Int32) (tsize tat tcn tpl tok pict tn brs bst : Int32) (what : Int32) : Co M_X6_count 1 0 0 [.ref 0, .int what] (wC17 fr lo fa ki mo pe ch sty wset wfor law lent pfr plo pfa pki pmo ppe pch psty pwset pwfor plaw plent bytes tcodes tends tsize tat tcn tpl tok pict tn brs bst) (Qi (cntV sty wset wfor pe ch tn law tsize what) (wC17 fr lo fa ki mo pe ch sty wset wfor law lent pfr plo pfa pki pmo ppe pch psty pwset pwfor plaw plent bytes tcodes tends tsize tat tcn tpl tok pict tn brs bst)) := by
  refine Co.of ok_X6_count rfl ?_
  refine ww_run 0 1 (pc' := 1) (lv' := [(0, .ref 0), (1, .int what)]) (st' := [.int what]) (w' := wC17 fr lo fa ki mo pe ch sty wset wfor law lent pfr plo pfa pki pmo ppe pch psty pwset pwfor plaw plent bytes tcodes tends tsize tat tcn tpl tok pict tn brs bst) (Ps := []) rfl trivial ?_
  by_cases q0 : what = 0
  · refine ww_tabI 1 rfl (by rw [q0]; decide) (by rw [q0]; decide) (off := 47) (by rw [q0]; rfl) (tgt := 48) rfl ?_
    refine ww_run 2 3 (pc' := 53) (lv' := [(0, .ref 0), (1, .int what)]) (st' := [.int what, .ref 1]) (w' := wC17 fr lo fa ki mo pe ch sty wset wfor law lent pfr plo pfa pki pmo ppe pch psty pwset pwfor plaw plent bytes tcodes tends tsize tat tcn tpl tok pict tn brs bst) (Ps := []) rfl trivial ?_
    refine ww_cVi 5 (b := 1) (av := [.int what]) (w1 := wC17 fr lo fa ki mo pe ch sty wset wfor law lent pfr plo pfa pki pmo ppe pch psty pwset pwfor plaw plent bytes tcodes tends tsize tat tcn tpl tok pict tn brs bst) ok_X1_setting (Co.fri [1, 2, 3, 4, 5, 6] (c_X1_setting fr lo fa ki mo pe ch sty wset wfor law lent what) rfl rfl rfl) lk_X6_128 rfl (by omega) (rest := []) rfl (Nat.le_of_ble_eq_true rfl) rfl rfl rfl rfl ?_
    refine ww_iret 6 rfl rfl ?_
    exact ⟨by subst_vars; rfl, rfl⟩
  by_cases q1 : what = 1
  · refine ww_tabI 1 rfl (by rw [q1]; decide) (by rw [q1]; decide) (off := 47) (by rw [q1]; rfl) (tgt := 48) rfl ?_
    refine ww_run 2 3 (pc' := 53) (lv' := [(0, .ref 0), (1, .int what)]) (st' := [.int what, .ref 1]) (w' := wC17 fr lo fa ki mo pe ch sty wset wfor law lent pfr plo pfa pki pmo ppe pch psty pwset pwfor plaw plent bytes tcodes tends tsize tat tcn tpl tok pict tn brs bst) (Ps := []) rfl trivial ?_
    refine ww_cVi 5 (b := 1) (av := [.int what]) (w1 := wC17 fr lo fa ki mo pe ch sty wset wfor law lent pfr plo pfa pki pmo ppe pch psty pwset pwfor plaw plent bytes tcodes tends tsize tat tcn tpl tok pict tn brs bst) ok_X1_setting (Co.fri [1, 2, 3, 4, 5, 6] (c_X1_setting fr lo fa ki mo pe ch sty wset wfor law lent what) rfl rfl rfl) lk_X6_128 rfl (by omega) (rest := []) rfl (Nat.le_of_ble_eq_true rfl) rfl rfl rfl rfl ?_
    refine ww_iret 6 rfl rfl ?_
    exact ⟨by subst_vars; rfl, rfl⟩
  by_cases q2 : what = 2
  · refine ww_tabI 1 rfl (by rw [q2]; decide) (by rw [q2]; decide) (off := 47) (by rw [q2]; rfl) (tgt := 48) rfl ?_
    refine ww_run 2 3 (pc' := 53) (lv' := [(0, .ref 0), (1, .int what)]) (st' := [.int what, .ref 1]) (w' := wC17 fr lo fa ki mo pe ch sty wset wfor law lent pfr plo pfa pki pmo ppe pch psty pwset pwfor plaw plent bytes tcodes tends tsize tat tcn tpl tok pict tn brs bst) (Ps := []) rfl trivial ?_
    refine ww_cVi 5 (b := 1) (av := [.int what]) (w1 := wC17 fr lo fa ki mo pe ch sty wset wfor law lent pfr plo pfa pki pmo ppe pch psty pwset pwfor plaw plent bytes tcodes tends tsize tat tcn tpl tok pict tn brs bst) ok_X1_setting (Co.fri [1, 2, 3, 4, 5, 6] (c_X1_setting fr lo fa ki mo pe ch sty wset wfor law lent what) rfl rfl rfl) lk_X6_128 rfl (by omega) (rest := []) rfl (Nat.le_of_ble_eq_true rfl) rfl rfl rfl rfl ?_
    refine ww_iret 6 rfl rfl ?_
    exact ⟨by subst_vars; rfl, rfl⟩
  by_cases q3 : what = 3
  · refine ww_tabI 1 rfl (by rw [q3]; decide) (by rw [q3]; decide) (off := 56) (by rw [q3]; rfl) (tgt := 57) rfl ?_
    refine ww_run 7 3 (pc' := 64) (lv' := [(0, .ref 0), (1, .int what)]) (st' := [.int pe]) (w' := wC17 fr lo fa ki mo pe ch sty wset wfor law lent pfr plo pfa pki pmo ppe pch psty pwset pwfor plaw plent bytes tcodes tends tsize tat tcn tpl tok pict tn brs bst) (Ps := []) rfl trivial ?_
    refine ww_iret 10 rfl rfl ?_
    exact ⟨by subst_vars; rfl, rfl⟩
  by_cases q4 : what = 4
  · refine ww_tabI 1 rfl (by rw [q4]; decide) (by rw [q4]; decide) (off := 64) (by rw [q4]; rfl) (tgt := 65) rfl ?_
    refine ww_run 11 3 (pc' := 72) (lv' := [(0, .ref 0), (1, .int what)]) (st' := [.int ch]) (w' := wC17 fr lo fa ki mo pe ch sty wset wfor law lent pfr plo pfa pki pmo ppe pch psty pwset pwfor plaw plent bytes tcodes tends tsize tat tcn tpl tok pict tn brs bst) (Ps := []) rfl trivial ?_
    refine ww_iret 14 rfl rfl ?_
    exact ⟨by subst_vars; rfl, rfl⟩
  by_cases q5 : what = 5
  · refine ww_tabI 1 rfl (by rw [q5]; decide) (by rw [q5]; decide) (off := 72) (by rw [q5]; rfl) (tgt := 73) rfl ?_
    refine ww_run 15 2 (pc' := 77) (lv' := [(0, .ref 0), (1, .int what)]) (st' := [.int tn]) (w' := wC17 fr lo fa ki mo pe ch sty wset wfor law lent pfr plo pfa pki pmo ppe pch psty pwset pwfor plaw plent bytes tcodes tends tsize tat tcn tpl tok pict tn brs bst) (Ps := []) rfl trivial ?_
    refine ww_iret 17 rfl rfl ?_
    exact ⟨by subst_vars; rfl, rfl⟩
  by_cases q6 : what = 6
  · refine ww_tabI 1 rfl (by rw [q6]; decide) (by rw [q6]; decide) (off := 77) (by rw [q6]; rfl) (tgt := 78) rfl ?_
    refine ww_run 18 3 (pc' := 85) (lv' := [(0, .ref 0), (1, .int what)]) (st' := [.int law]) (w' := wC17 fr lo fa ki mo pe ch sty wset wfor law lent pfr plo pfa pki pmo ppe pch psty pwset pwfor plaw plent bytes tcodes tends tsize tat tcn tpl tok pict tn brs bst) (Ps := []) rfl trivial ?_
    refine ww_iret 21 rfl rfl ?_
    exact ⟨by subst_vars; rfl, rfl⟩
  by_cases q7 : what = 7
  · refine ww_tabI 1 rfl (by rw [q7]; decide) (by rw [q7]; decide) (off := 85) (by rw [q7]; rfl) (tgt := 86) rfl ?_
    refine ww_run 22 3 (pc' := 93) (lv' := [(0, .ref 0), (1, .int what)]) (st' := [.int tsize]) (w' := wC17 fr lo fa ki mo pe ch sty wset wfor law lent pfr plo pfa pki pmo ppe pch psty pwset pwfor plaw plent bytes tcodes tends tsize tat tcn tpl tok pict tn brs bst) (Ps := []) rfl trivial ?_
    refine ww_iret 25 rfl rfl ?_
    exact ⟨by subst_vars; rfl, rfl⟩
  refine ww_tabO 1 rfl (by have z0 := lv_neT q0 (a := 0) rfl; have z1 := lv_neT q1 (a := 1) rfl; have z2 := lv_neT q2 (a := 2) rfl; have z3 := lv_neT q3 (a := 3) rfl; have z4 := lv_neT q4 (a := 4) rfl; have z5 := lv_neT q5 (a := 5) rfl; have z6 := lv_neT q6 (a := 6) rfl; have z7 := lv_neT q7 (a := 7) rfl; omega) (tgt := 94) rfl ?_
  refine ww_run 26 1 (pc' := 96) (lv' := [(0, .ref 0), (1, .int what)]) (st' := [.int (-2)]) (w' := wC17 fr lo fa ki mo pe ch sty wset wfor law lent pfr plo pfa pki pmo ppe pch psty pwset pwfor plaw plent bytes tcodes tends tsize tat tcn tpl tok pict tn brs bst) (Ps := []) rfl trivial ?_
  refine ww_iret 27 rfl rfl ?_
  have hno : ¬ mIn what 0 2 := by
    intro h
    rcases in3 h with h | h | h
    · exact q0 h
    · exact q1 h
    · exact q2 h
  exact ⟨by unfold cntV; rw [if_neg q3, if_neg q4, if_neg q5, if_neg q6, if_neg q7, if_neg hno], rfl⟩
set_option maxHeartbeats 4000000 in
set_option maxRecDepth 100000 in
theorem x_isA0  (w : Int32) : Co M_X2_isA 1 0 0 [.int 0, .int w] (wZero ) (Qi (b2i (w = 0 ∨ 0 = w ∨ (w = 1 ∧ (0 : Int32) = 3) ∨ (w = 2 ∧ (0 : Int32) = 4))) wZero ) := by
  refine Co.of ok_X2_isA rfl ?_
  refine ww_run 0 6 (pc' := 7) (lv' := [(3, .int 0), (2, .int 0), (0, .int 0), (1, .int w)]) (st' := [.int 6, .int 0]) (w' := wZero ) (Ps := []) rfl trivial ?_
  refine ww_icmp_ge 6 rfl (tgt := 38) rfl (fun c1 => ?_) (fun c1 => ?_)
  · exact absurd c1 (by decide)
  · refine ww_run 7 3 (pc' := 13) (lv' := [(3, .int 0), (2, .int 0), (0, .int 0), (1, .int w)]) (st' := [.int 5, .int 0, .int 0]) (w' := wZero ) (Ps := []) rfl trivial ?_
    refine ww_cSNi 10 (n := 3) ok_X6_within (Co.fr0 (c_X6_within 0 0 5) rfl) (by decide +kernel) rfl (by omega) (rest := []) rfl (Nat.le_of_ble_eq_true rfl) rfl ?_
    rw [show b2i (mIn 0 0 5) = 1 from by decide]
    refine ww_if_eq 11 rfl (tgt := 38) rfl (fun c2 => ?_) (fun c2 => ?_)
    · exact absurd c2 (by decide)
    · refine ww_run 12 2 (pc' := 21) (lv' := [(3, .int 0), (2, .int 0), (0, .int 0), (1, .int w)]) (st' := [.int w, .int 0]) (w' := wZero ) (Ps := []) rfl trivial ?_
      refine ww_icmp_ne 14 rfl (tgt := 26) rfl (fun c3 => ?_) (fun c3 => ?_)
      · refine ww_above 17 (i := 0) (by decide +kernel) rfl rfl rfl rfl (by unfold vp_in; decide) ?_
        rw [show aboveF (0 : Int32).toNatClampNeg = (-1) from by decide]
        refine ww_run 20 2 (pc' := 35) (lv' := [(3, .int (0 + 1)), (2, .int (-1)), (0, .int 0), (1, .int w)]) (st' := []) (w' := wZero ) (Ps := []) rfl trivial ?_
        rw [show (0 : Int32) + 1 = 1 from by decide]
        refine ww_run 22 1 (pc' := 4) (lv' := [(3, .int 1), (2, .int (-1)), (0, .int 0), (1, .int w)]) (st' := []) (w' := wZero ) (Ps := []) rfl trivial ?_
        refine ww_run 4 2 (pc' := 7) (lv' := [(3, .int 1), (2, .int (-1)), (0, .int 0), (1, .int w)]) (st' := [.int 6, .int 1]) (w' := wZero ) (Ps := []) rfl trivial ?_
        refine ww_icmp_ge 6 rfl (tgt := 38) rfl (fun c4 => ?_) (fun c4 => ?_)
        · exact absurd c4 (by decide)
        · refine ww_run 7 3 (pc' := 13) (lv' := [(3, .int 1), (2, .int (-1)), (0, .int 0), (1, .int w)]) (st' := [.int 5, .int 0, .int (-1)]) (w' := wZero ) (Ps := []) rfl trivial ?_
          refine ww_cSNi 10 (n := 3) ok_X6_within (Co.fr0 (c_X6_within (-1) 0 5) rfl) (by decide +kernel) rfl (by omega) (rest := []) rfl (Nat.le_of_ble_eq_true rfl) rfl ?_
          rw [show b2i (mIn (-1) 0 5) = 0 from by decide]
          refine ww_if_eq 11 rfl (tgt := 38) rfl (fun c5 => ?_) (fun c5 => ?_)
          · refine ww_run 23 1 (pc' := 39) (lv' := [(3, .int 1), (2, .int (-1)), (0, .int 0), (1, .int w)]) (st' := [.int 0]) (w' := wZero ) (Ps := []) rfl trivial ?_
            refine ww_zret 24 rfl rfl rfl ?_
            exact ⟨by unfold b2i; grind, rfl⟩
          · exact absurd c5 (by decide)
      · refine ww_run 15 1 (pc' := 25) (lv' := [(3, .int 0), (2, .int 0), (0, .int 0), (1, .int w)]) (st' := [.int 1]) (w' := wZero ) (Ps := []) rfl trivial ?_
        refine ww_zret 16 rfl rfl rfl ?_
        exact ⟨by unfold b2i; grind, rfl⟩
set_option maxHeartbeats 4000000 in
set_option maxRecDepth 100000 in
theorem x_isA1  (w : Int32) : Co M_X2_isA 1 0 0 [.int 1, .int w] (wZero ) (Qi (b2i (w = 0 ∨ 1 = w ∨ (w = 1 ∧ (1 : Int32) = 3) ∨ (w = 2 ∧ (1 : Int32) = 4))) wZero ) := by
  refine Co.of ok_X2_isA rfl ?_
  refine ww_run 0 6 (pc' := 7) (lv' := [(3, .int 0), (2, .int 1), (0, .int 1), (1, .int w)]) (st' := [.int 6, .int 0]) (w' := wZero ) (Ps := []) rfl trivial ?_
  refine ww_icmp_ge 6 rfl (tgt := 38) rfl (fun c1 => ?_) (fun c1 => ?_)
  · exact absurd c1 (by decide)
  · refine ww_run 7 3 (pc' := 13) (lv' := [(3, .int 0), (2, .int 1), (0, .int 1), (1, .int w)]) (st' := [.int 5, .int 0, .int 1]) (w' := wZero ) (Ps := []) rfl trivial ?_
    refine ww_cSNi 10 (n := 3) ok_X6_within (Co.fr0 (c_X6_within 1 0 5) rfl) (by decide +kernel) rfl (by omega) (rest := []) rfl (Nat.le_of_ble_eq_true rfl) rfl ?_
    rw [show b2i (mIn 1 0 5) = 1 from by decide]
    refine ww_if_eq 11 rfl (tgt := 38) rfl (fun c2 => ?_) (fun c2 => ?_)
    · exact absurd c2 (by decide)
    · refine ww_run 12 2 (pc' := 21) (lv' := [(3, .int 0), (2, .int 1), (0, .int 1), (1, .int w)]) (st' := [.int w, .int 1]) (w' := wZero ) (Ps := []) rfl trivial ?_
      refine ww_icmp_ne 14 rfl (tgt := 26) rfl (fun c3 => ?_) (fun c3 => ?_)
      · refine ww_above 17 (i := 1) (by decide +kernel) rfl rfl rfl rfl (by unfold vp_in; decide) ?_
        rw [show aboveF (1 : Int32).toNatClampNeg = 0 from by decide]
        refine ww_run 20 2 (pc' := 35) (lv' := [(3, .int (0 + 1)), (2, .int 0), (0, .int 1), (1, .int w)]) (st' := []) (w' := wZero ) (Ps := []) rfl trivial ?_
        rw [show (0 : Int32) + 1 = 1 from by decide]
        refine ww_run 22 1 (pc' := 4) (lv' := [(3, .int 1), (2, .int 0), (0, .int 1), (1, .int w)]) (st' := []) (w' := wZero ) (Ps := []) rfl trivial ?_
        refine ww_run 4 2 (pc' := 7) (lv' := [(3, .int 1), (2, .int 0), (0, .int 1), (1, .int w)]) (st' := [.int 6, .int 1]) (w' := wZero ) (Ps := []) rfl trivial ?_
        refine ww_icmp_ge 6 rfl (tgt := 38) rfl (fun c4 => ?_) (fun c4 => ?_)
        · exact absurd c4 (by decide)
        · refine ww_run 7 3 (pc' := 13) (lv' := [(3, .int 1), (2, .int 0), (0, .int 1), (1, .int w)]) (st' := [.int 5, .int 0, .int 0]) (w' := wZero ) (Ps := []) rfl trivial ?_
          refine ww_cSNi 10 (n := 3) ok_X6_within (Co.fr0 (c_X6_within 0 0 5) rfl) (by decide +kernel) rfl (by omega) (rest := []) rfl (Nat.le_of_ble_eq_true rfl) rfl ?_
          rw [show b2i (mIn 0 0 5) = 1 from by decide]
          refine ww_if_eq 11 rfl (tgt := 38) rfl (fun c5 => ?_) (fun c5 => ?_)
          · exact absurd c5 (by decide)
          · refine ww_run 12 2 (pc' := 21) (lv' := [(3, .int 1), (2, .int 0), (0, .int 1), (1, .int w)]) (st' := [.int w, .int 0]) (w' := wZero ) (Ps := []) rfl trivial ?_
            refine ww_icmp_ne 14 rfl (tgt := 26) rfl (fun c6 => ?_) (fun c6 => ?_)
            · refine ww_above 17 (i := 0) (by decide +kernel) rfl rfl rfl rfl (by unfold vp_in; decide) ?_
              rw [show aboveF (0 : Int32).toNatClampNeg = (-1) from by decide]
              refine ww_run 20 2 (pc' := 35) (lv' := [(3, .int (1 + 1)), (2, .int (-1)), (0, .int 1), (1, .int w)]) (st' := []) (w' := wZero ) (Ps := []) rfl trivial ?_
              rw [show (1 : Int32) + 1 = 2 from by decide]
              refine ww_run 22 1 (pc' := 4) (lv' := [(3, .int 2), (2, .int (-1)), (0, .int 1), (1, .int w)]) (st' := []) (w' := wZero ) (Ps := []) rfl trivial ?_
              refine ww_run 4 2 (pc' := 7) (lv' := [(3, .int 2), (2, .int (-1)), (0, .int 1), (1, .int w)]) (st' := [.int 6, .int 2]) (w' := wZero ) (Ps := []) rfl trivial ?_
              refine ww_icmp_ge 6 rfl (tgt := 38) rfl (fun c7 => ?_) (fun c7 => ?_)
              · exact absurd c7 (by decide)
              · refine ww_run 7 3 (pc' := 13) (lv' := [(3, .int 2), (2, .int (-1)), (0, .int 1), (1, .int w)]) (st' := [.int 5, .int 0, .int (-1)]) (w' := wZero ) (Ps := []) rfl trivial ?_
                refine ww_cSNi 10 (n := 3) ok_X6_within (Co.fr0 (c_X6_within (-1) 0 5) rfl) (by decide +kernel) rfl (by omega) (rest := []) rfl (Nat.le_of_ble_eq_true rfl) rfl ?_
                rw [show b2i (mIn (-1) 0 5) = 0 from by decide]
                refine ww_if_eq 11 rfl (tgt := 38) rfl (fun c8 => ?_) (fun c8 => ?_)
                · refine ww_run 23 1 (pc' := 39) (lv' := [(3, .int 2), (2, .int (-1)), (0, .int 1), (1, .int w)]) (st' := [.int 0]) (w' := wZero ) (Ps := []) rfl trivial ?_
                  refine ww_zret 24 rfl rfl rfl ?_
                  exact ⟨by unfold b2i; grind, rfl⟩
                · exact absurd c8 (by decide)
            · refine ww_run 15 1 (pc' := 25) (lv' := [(3, .int 1), (2, .int 0), (0, .int 1), (1, .int w)]) (st' := [.int 1]) (w' := wZero ) (Ps := []) rfl trivial ?_
              refine ww_zret 16 rfl rfl rfl ?_
              exact ⟨by unfold b2i; grind, rfl⟩
      · refine ww_run 15 1 (pc' := 25) (lv' := [(3, .int 0), (2, .int 1), (0, .int 1), (1, .int w)]) (st' := [.int 1]) (w' := wZero ) (Ps := []) rfl trivial ?_
        refine ww_zret 16 rfl rfl rfl ?_
        exact ⟨by unfold b2i; grind, rfl⟩
set_option maxHeartbeats 4000000 in
set_option maxRecDepth 100000 in
theorem x_isA2  (w : Int32) : Co M_X2_isA 1 0 0 [.int 2, .int w] (wZero ) (Qi (b2i (w = 0 ∨ 2 = w ∨ (w = 1 ∧ (2 : Int32) = 3) ∨ (w = 2 ∧ (2 : Int32) = 4))) wZero ) := by
  refine Co.of ok_X2_isA rfl ?_
  refine ww_run 0 6 (pc' := 7) (lv' := [(3, .int 0), (2, .int 2), (0, .int 2), (1, .int w)]) (st' := [.int 6, .int 0]) (w' := wZero ) (Ps := []) rfl trivial ?_
  refine ww_icmp_ge 6 rfl (tgt := 38) rfl (fun c1 => ?_) (fun c1 => ?_)
  · exact absurd c1 (by decide)
  · refine ww_run 7 3 (pc' := 13) (lv' := [(3, .int 0), (2, .int 2), (0, .int 2), (1, .int w)]) (st' := [.int 5, .int 0, .int 2]) (w' := wZero ) (Ps := []) rfl trivial ?_
    refine ww_cSNi 10 (n := 3) ok_X6_within (Co.fr0 (c_X6_within 2 0 5) rfl) (by decide +kernel) rfl (by omega) (rest := []) rfl (Nat.le_of_ble_eq_true rfl) rfl ?_
    rw [show b2i (mIn 2 0 5) = 1 from by decide]
    refine ww_if_eq 11 rfl (tgt := 38) rfl (fun c2 => ?_) (fun c2 => ?_)
    · exact absurd c2 (by decide)
    · refine ww_run 12 2 (pc' := 21) (lv' := [(3, .int 0), (2, .int 2), (0, .int 2), (1, .int w)]) (st' := [.int w, .int 2]) (w' := wZero ) (Ps := []) rfl trivial ?_
      refine ww_icmp_ne 14 rfl (tgt := 26) rfl (fun c3 => ?_) (fun c3 => ?_)
      · refine ww_above 17 (i := 2) (by decide +kernel) rfl rfl rfl rfl (by unfold vp_in; decide) ?_
        rw [show aboveF (2 : Int32).toNatClampNeg = 0 from by decide]
        refine ww_run 20 2 (pc' := 35) (lv' := [(3, .int (0 + 1)), (2, .int 0), (0, .int 2), (1, .int w)]) (st' := []) (w' := wZero ) (Ps := []) rfl trivial ?_
        rw [show (0 : Int32) + 1 = 1 from by decide]
        refine ww_run 22 1 (pc' := 4) (lv' := [(3, .int 1), (2, .int 0), (0, .int 2), (1, .int w)]) (st' := []) (w' := wZero ) (Ps := []) rfl trivial ?_
        refine ww_run 4 2 (pc' := 7) (lv' := [(3, .int 1), (2, .int 0), (0, .int 2), (1, .int w)]) (st' := [.int 6, .int 1]) (w' := wZero ) (Ps := []) rfl trivial ?_
        refine ww_icmp_ge 6 rfl (tgt := 38) rfl (fun c4 => ?_) (fun c4 => ?_)
        · exact absurd c4 (by decide)
        · refine ww_run 7 3 (pc' := 13) (lv' := [(3, .int 1), (2, .int 0), (0, .int 2), (1, .int w)]) (st' := [.int 5, .int 0, .int 0]) (w' := wZero ) (Ps := []) rfl trivial ?_
          refine ww_cSNi 10 (n := 3) ok_X6_within (Co.fr0 (c_X6_within 0 0 5) rfl) (by decide +kernel) rfl (by omega) (rest := []) rfl (Nat.le_of_ble_eq_true rfl) rfl ?_
          rw [show b2i (mIn 0 0 5) = 1 from by decide]
          refine ww_if_eq 11 rfl (tgt := 38) rfl (fun c5 => ?_) (fun c5 => ?_)
          · exact absurd c5 (by decide)
          · refine ww_run 12 2 (pc' := 21) (lv' := [(3, .int 1), (2, .int 0), (0, .int 2), (1, .int w)]) (st' := [.int w, .int 0]) (w' := wZero ) (Ps := []) rfl trivial ?_
            refine ww_icmp_ne 14 rfl (tgt := 26) rfl (fun c6 => ?_) (fun c6 => ?_)
            · refine ww_above 17 (i := 0) (by decide +kernel) rfl rfl rfl rfl (by unfold vp_in; decide) ?_
              rw [show aboveF (0 : Int32).toNatClampNeg = (-1) from by decide]
              refine ww_run 20 2 (pc' := 35) (lv' := [(3, .int (1 + 1)), (2, .int (-1)), (0, .int 2), (1, .int w)]) (st' := []) (w' := wZero ) (Ps := []) rfl trivial ?_
              rw [show (1 : Int32) + 1 = 2 from by decide]
              refine ww_run 22 1 (pc' := 4) (lv' := [(3, .int 2), (2, .int (-1)), (0, .int 2), (1, .int w)]) (st' := []) (w' := wZero ) (Ps := []) rfl trivial ?_
              refine ww_run 4 2 (pc' := 7) (lv' := [(3, .int 2), (2, .int (-1)), (0, .int 2), (1, .int w)]) (st' := [.int 6, .int 2]) (w' := wZero ) (Ps := []) rfl trivial ?_
              refine ww_icmp_ge 6 rfl (tgt := 38) rfl (fun c7 => ?_) (fun c7 => ?_)
              · exact absurd c7 (by decide)
              · refine ww_run 7 3 (pc' := 13) (lv' := [(3, .int 2), (2, .int (-1)), (0, .int 2), (1, .int w)]) (st' := [.int 5, .int 0, .int (-1)]) (w' := wZero ) (Ps := []) rfl trivial ?_
                refine ww_cSNi 10 (n := 3) ok_X6_within (Co.fr0 (c_X6_within (-1) 0 5) rfl) (by decide +kernel) rfl (by omega) (rest := []) rfl (Nat.le_of_ble_eq_true rfl) rfl ?_
                rw [show b2i (mIn (-1) 0 5) = 0 from by decide]
                refine ww_if_eq 11 rfl (tgt := 38) rfl (fun c8 => ?_) (fun c8 => ?_)
                · refine ww_run 23 1 (pc' := 39) (lv' := [(3, .int 2), (2, .int (-1)), (0, .int 2), (1, .int w)]) (st' := [.int 0]) (w' := wZero ) (Ps := []) rfl trivial ?_
                  refine ww_zret 24 rfl rfl rfl ?_
                  exact ⟨by unfold b2i; grind, rfl⟩
                · exact absurd c8 (by decide)
            · refine ww_run 15 1 (pc' := 25) (lv' := [(3, .int 1), (2, .int 0), (0, .int 2), (1, .int w)]) (st' := [.int 1]) (w' := wZero ) (Ps := []) rfl trivial ?_
              refine ww_zret 16 rfl rfl rfl ?_
              exact ⟨by unfold b2i; grind, rfl⟩
      · refine ww_run 15 1 (pc' := 25) (lv' := [(3, .int 0), (2, .int 2), (0, .int 2), (1, .int w)]) (st' := [.int 1]) (w' := wZero ) (Ps := []) rfl trivial ?_
        refine ww_zret 16 rfl rfl rfl ?_
        exact ⟨by unfold b2i; grind, rfl⟩
set_option maxHeartbeats 4000000 in
set_option maxRecDepth 100000 in
theorem x_isA3  (w : Int32) : Co M_X2_isA 1 0 0 [.int 3, .int w] (wZero ) (Qi (b2i (w = 0 ∨ 3 = w ∨ (w = 1 ∧ (3 : Int32) = 3) ∨ (w = 2 ∧ (3 : Int32) = 4))) wZero ) := by
  refine Co.of ok_X2_isA rfl ?_
  refine ww_run 0 6 (pc' := 7) (lv' := [(3, .int 0), (2, .int 3), (0, .int 3), (1, .int w)]) (st' := [.int 6, .int 0]) (w' := wZero ) (Ps := []) rfl trivial ?_
  refine ww_icmp_ge 6 rfl (tgt := 38) rfl (fun c1 => ?_) (fun c1 => ?_)
  · exact absurd c1 (by decide)
  · refine ww_run 7 3 (pc' := 13) (lv' := [(3, .int 0), (2, .int 3), (0, .int 3), (1, .int w)]) (st' := [.int 5, .int 0, .int 3]) (w' := wZero ) (Ps := []) rfl trivial ?_
    refine ww_cSNi 10 (n := 3) ok_X6_within (Co.fr0 (c_X6_within 3 0 5) rfl) (by decide +kernel) rfl (by omega) (rest := []) rfl (Nat.le_of_ble_eq_true rfl) rfl ?_
    rw [show b2i (mIn 3 0 5) = 1 from by decide]
    refine ww_if_eq 11 rfl (tgt := 38) rfl (fun c2 => ?_) (fun c2 => ?_)
    · exact absurd c2 (by decide)
    · refine ww_run 12 2 (pc' := 21) (lv' := [(3, .int 0), (2, .int 3), (0, .int 3), (1, .int w)]) (st' := [.int w, .int 3]) (w' := wZero ) (Ps := []) rfl trivial ?_
      refine ww_icmp_ne 14 rfl (tgt := 26) rfl (fun c3 => ?_) (fun c3 => ?_)
      · refine ww_above 17 (i := 3) (by decide +kernel) rfl rfl rfl rfl (by unfold vp_in; decide) ?_
        rw [show aboveF (3 : Int32).toNatClampNeg = 1 from by decide]
        refine ww_run 20 2 (pc' := 35) (lv' := [(3, .int (0 + 1)), (2, .int 1), (0, .int 3), (1, .int w)]) (st' := []) (w' := wZero ) (Ps := []) rfl trivial ?_
        rw [show (0 : Int32) + 1 = 1 from by decide]
        refine ww_run 22 1 (pc' := 4) (lv' := [(3, .int 1), (2, .int 1), (0, .int 3), (1, .int w)]) (st' := []) (w' := wZero ) (Ps := []) rfl trivial ?_
        refine ww_run 4 2 (pc' := 7) (lv' := [(3, .int 1), (2, .int 1), (0, .int 3), (1, .int w)]) (st' := [.int 6, .int 1]) (w' := wZero ) (Ps := []) rfl trivial ?_
        refine ww_icmp_ge 6 rfl (tgt := 38) rfl (fun c4 => ?_) (fun c4 => ?_)
        · exact absurd c4 (by decide)
        · refine ww_run 7 3 (pc' := 13) (lv' := [(3, .int 1), (2, .int 1), (0, .int 3), (1, .int w)]) (st' := [.int 5, .int 0, .int 1]) (w' := wZero ) (Ps := []) rfl trivial ?_
          refine ww_cSNi 10 (n := 3) ok_X6_within (Co.fr0 (c_X6_within 1 0 5) rfl) (by decide +kernel) rfl (by omega) (rest := []) rfl (Nat.le_of_ble_eq_true rfl) rfl ?_
          rw [show b2i (mIn 1 0 5) = 1 from by decide]
          refine ww_if_eq 11 rfl (tgt := 38) rfl (fun c5 => ?_) (fun c5 => ?_)
          · exact absurd c5 (by decide)
          · refine ww_run 12 2 (pc' := 21) (lv' := [(3, .int 1), (2, .int 1), (0, .int 3), (1, .int w)]) (st' := [.int w, .int 1]) (w' := wZero ) (Ps := []) rfl trivial ?_
            refine ww_icmp_ne 14 rfl (tgt := 26) rfl (fun c6 => ?_) (fun c6 => ?_)
            · refine ww_above 17 (i := 1) (by decide +kernel) rfl rfl rfl rfl (by unfold vp_in; decide) ?_
              rw [show aboveF (1 : Int32).toNatClampNeg = 0 from by decide]
              refine ww_run 20 2 (pc' := 35) (lv' := [(3, .int (1 + 1)), (2, .int 0), (0, .int 3), (1, .int w)]) (st' := []) (w' := wZero ) (Ps := []) rfl trivial ?_
              rw [show (1 : Int32) + 1 = 2 from by decide]
              refine ww_run 22 1 (pc' := 4) (lv' := [(3, .int 2), (2, .int 0), (0, .int 3), (1, .int w)]) (st' := []) (w' := wZero ) (Ps := []) rfl trivial ?_
              refine ww_run 4 2 (pc' := 7) (lv' := [(3, .int 2), (2, .int 0), (0, .int 3), (1, .int w)]) (st' := [.int 6, .int 2]) (w' := wZero ) (Ps := []) rfl trivial ?_
              refine ww_icmp_ge 6 rfl (tgt := 38) rfl (fun c7 => ?_) (fun c7 => ?_)
              · exact absurd c7 (by decide)
              · refine ww_run 7 3 (pc' := 13) (lv' := [(3, .int 2), (2, .int 0), (0, .int 3), (1, .int w)]) (st' := [.int 5, .int 0, .int 0]) (w' := wZero ) (Ps := []) rfl trivial ?_
                refine ww_cSNi 10 (n := 3) ok_X6_within (Co.fr0 (c_X6_within 0 0 5) rfl) (by decide +kernel) rfl (by omega) (rest := []) rfl (Nat.le_of_ble_eq_true rfl) rfl ?_
                rw [show b2i (mIn 0 0 5) = 1 from by decide]
                refine ww_if_eq 11 rfl (tgt := 38) rfl (fun c8 => ?_) (fun c8 => ?_)
                · exact absurd c8 (by decide)
                · refine ww_run 12 2 (pc' := 21) (lv' := [(3, .int 2), (2, .int 0), (0, .int 3), (1, .int w)]) (st' := [.int w, .int 0]) (w' := wZero ) (Ps := []) rfl trivial ?_
                  refine ww_icmp_ne 14 rfl (tgt := 26) rfl (fun c9 => ?_) (fun c9 => ?_)
                  · refine ww_above 17 (i := 0) (by decide +kernel) rfl rfl rfl rfl (by unfold vp_in; decide) ?_
                    rw [show aboveF (0 : Int32).toNatClampNeg = (-1) from by decide]
                    refine ww_run 20 2 (pc' := 35) (lv' := [(3, .int (2 + 1)), (2, .int (-1)), (0, .int 3), (1, .int w)]) (st' := []) (w' := wZero ) (Ps := []) rfl trivial ?_
                    rw [show (2 : Int32) + 1 = 3 from by decide]
                    refine ww_run 22 1 (pc' := 4) (lv' := [(3, .int 3), (2, .int (-1)), (0, .int 3), (1, .int w)]) (st' := []) (w' := wZero ) (Ps := []) rfl trivial ?_
                    refine ww_run 4 2 (pc' := 7) (lv' := [(3, .int 3), (2, .int (-1)), (0, .int 3), (1, .int w)]) (st' := [.int 6, .int 3]) (w' := wZero ) (Ps := []) rfl trivial ?_
                    refine ww_icmp_ge 6 rfl (tgt := 38) rfl (fun c10 => ?_) (fun c10 => ?_)
                    · exact absurd c10 (by decide)
                    · refine ww_run 7 3 (pc' := 13) (lv' := [(3, .int 3), (2, .int (-1)), (0, .int 3), (1, .int w)]) (st' := [.int 5, .int 0, .int (-1)]) (w' := wZero ) (Ps := []) rfl trivial ?_
                      refine ww_cSNi 10 (n := 3) ok_X6_within (Co.fr0 (c_X6_within (-1) 0 5) rfl) (by decide +kernel) rfl (by omega) (rest := []) rfl (Nat.le_of_ble_eq_true rfl) rfl ?_
                      rw [show b2i (mIn (-1) 0 5) = 0 from by decide]
                      refine ww_if_eq 11 rfl (tgt := 38) rfl (fun c11 => ?_) (fun c11 => ?_)
                      · refine ww_run 23 1 (pc' := 39) (lv' := [(3, .int 3), (2, .int (-1)), (0, .int 3), (1, .int w)]) (st' := [.int 0]) (w' := wZero ) (Ps := []) rfl trivial ?_
                        refine ww_zret 24 rfl rfl rfl ?_
                        exact ⟨by unfold b2i; grind, rfl⟩
                      · exact absurd c11 (by decide)
                  · refine ww_run 15 1 (pc' := 25) (lv' := [(3, .int 2), (2, .int 0), (0, .int 3), (1, .int w)]) (st' := [.int 1]) (w' := wZero ) (Ps := []) rfl trivial ?_
                    refine ww_zret 16 rfl rfl rfl ?_
                    exact ⟨by unfold b2i; grind, rfl⟩
            · refine ww_run 15 1 (pc' := 25) (lv' := [(3, .int 1), (2, .int 1), (0, .int 3), (1, .int w)]) (st' := [.int 1]) (w' := wZero ) (Ps := []) rfl trivial ?_
              refine ww_zret 16 rfl rfl rfl ?_
              exact ⟨by unfold b2i; grind, rfl⟩
      · refine ww_run 15 1 (pc' := 25) (lv' := [(3, .int 0), (2, .int 3), (0, .int 3), (1, .int w)]) (st' := [.int 1]) (w' := wZero ) (Ps := []) rfl trivial ?_
        refine ww_zret 16 rfl rfl rfl ?_
        exact ⟨by unfold b2i; grind, rfl⟩
set_option maxHeartbeats 4000000 in
set_option maxRecDepth 100000 in
theorem x_isA4  (w : Int32) : Co M_X2_isA 1 0 0 [.int 4, .int w] (wZero ) (Qi (b2i (w = 0 ∨ 4 = w ∨ (w = 1 ∧ (4 : Int32) = 3) ∨ (w = 2 ∧ (4 : Int32) = 4))) wZero ) := by
  refine Co.of ok_X2_isA rfl ?_
  refine ww_run 0 6 (pc' := 7) (lv' := [(3, .int 0), (2, .int 4), (0, .int 4), (1, .int w)]) (st' := [.int 6, .int 0]) (w' := wZero ) (Ps := []) rfl trivial ?_
  refine ww_icmp_ge 6 rfl (tgt := 38) rfl (fun c1 => ?_) (fun c1 => ?_)
  · exact absurd c1 (by decide)
  · refine ww_run 7 3 (pc' := 13) (lv' := [(3, .int 0), (2, .int 4), (0, .int 4), (1, .int w)]) (st' := [.int 5, .int 0, .int 4]) (w' := wZero ) (Ps := []) rfl trivial ?_
    refine ww_cSNi 10 (n := 3) ok_X6_within (Co.fr0 (c_X6_within 4 0 5) rfl) (by decide +kernel) rfl (by omega) (rest := []) rfl (Nat.le_of_ble_eq_true rfl) rfl ?_
    rw [show b2i (mIn 4 0 5) = 1 from by decide]
    refine ww_if_eq 11 rfl (tgt := 38) rfl (fun c2 => ?_) (fun c2 => ?_)
    · exact absurd c2 (by decide)
    · refine ww_run 12 2 (pc' := 21) (lv' := [(3, .int 0), (2, .int 4), (0, .int 4), (1, .int w)]) (st' := [.int w, .int 4]) (w' := wZero ) (Ps := []) rfl trivial ?_
      refine ww_icmp_ne 14 rfl (tgt := 26) rfl (fun c3 => ?_) (fun c3 => ?_)
      · refine ww_above 17 (i := 4) (by decide +kernel) rfl rfl rfl rfl (by unfold vp_in; decide) ?_
        rw [show aboveF (4 : Int32).toNatClampNeg = 2 from by decide]
        refine ww_run 20 2 (pc' := 35) (lv' := [(3, .int (0 + 1)), (2, .int 2), (0, .int 4), (1, .int w)]) (st' := []) (w' := wZero ) (Ps := []) rfl trivial ?_
        rw [show (0 : Int32) + 1 = 1 from by decide]
        refine ww_run 22 1 (pc' := 4) (lv' := [(3, .int 1), (2, .int 2), (0, .int 4), (1, .int w)]) (st' := []) (w' := wZero ) (Ps := []) rfl trivial ?_
        refine ww_run 4 2 (pc' := 7) (lv' := [(3, .int 1), (2, .int 2), (0, .int 4), (1, .int w)]) (st' := [.int 6, .int 1]) (w' := wZero ) (Ps := []) rfl trivial ?_
        refine ww_icmp_ge 6 rfl (tgt := 38) rfl (fun c4 => ?_) (fun c4 => ?_)
        · exact absurd c4 (by decide)
        · refine ww_run 7 3 (pc' := 13) (lv' := [(3, .int 1), (2, .int 2), (0, .int 4), (1, .int w)]) (st' := [.int 5, .int 0, .int 2]) (w' := wZero ) (Ps := []) rfl trivial ?_
          refine ww_cSNi 10 (n := 3) ok_X6_within (Co.fr0 (c_X6_within 2 0 5) rfl) (by decide +kernel) rfl (by omega) (rest := []) rfl (Nat.le_of_ble_eq_true rfl) rfl ?_
          rw [show b2i (mIn 2 0 5) = 1 from by decide]
          refine ww_if_eq 11 rfl (tgt := 38) rfl (fun c5 => ?_) (fun c5 => ?_)
          · exact absurd c5 (by decide)
          · refine ww_run 12 2 (pc' := 21) (lv' := [(3, .int 1), (2, .int 2), (0, .int 4), (1, .int w)]) (st' := [.int w, .int 2]) (w' := wZero ) (Ps := []) rfl trivial ?_
            refine ww_icmp_ne 14 rfl (tgt := 26) rfl (fun c6 => ?_) (fun c6 => ?_)
            · refine ww_above 17 (i := 2) (by decide +kernel) rfl rfl rfl rfl (by unfold vp_in; decide) ?_
              rw [show aboveF (2 : Int32).toNatClampNeg = 0 from by decide]
              refine ww_run 20 2 (pc' := 35) (lv' := [(3, .int (1 + 1)), (2, .int 0), (0, .int 4), (1, .int w)]) (st' := []) (w' := wZero ) (Ps := []) rfl trivial ?_
              rw [show (1 : Int32) + 1 = 2 from by decide]
              refine ww_run 22 1 (pc' := 4) (lv' := [(3, .int 2), (2, .int 0), (0, .int 4), (1, .int w)]) (st' := []) (w' := wZero ) (Ps := []) rfl trivial ?_
              refine ww_run 4 2 (pc' := 7) (lv' := [(3, .int 2), (2, .int 0), (0, .int 4), (1, .int w)]) (st' := [.int 6, .int 2]) (w' := wZero ) (Ps := []) rfl trivial ?_
              refine ww_icmp_ge 6 rfl (tgt := 38) rfl (fun c7 => ?_) (fun c7 => ?_)
              · exact absurd c7 (by decide)
              · refine ww_run 7 3 (pc' := 13) (lv' := [(3, .int 2), (2, .int 0), (0, .int 4), (1, .int w)]) (st' := [.int 5, .int 0, .int 0]) (w' := wZero ) (Ps := []) rfl trivial ?_
                refine ww_cSNi 10 (n := 3) ok_X6_within (Co.fr0 (c_X6_within 0 0 5) rfl) (by decide +kernel) rfl (by omega) (rest := []) rfl (Nat.le_of_ble_eq_true rfl) rfl ?_
                rw [show b2i (mIn 0 0 5) = 1 from by decide]
                refine ww_if_eq 11 rfl (tgt := 38) rfl (fun c8 => ?_) (fun c8 => ?_)
                · exact absurd c8 (by decide)
                · refine ww_run 12 2 (pc' := 21) (lv' := [(3, .int 2), (2, .int 0), (0, .int 4), (1, .int w)]) (st' := [.int w, .int 0]) (w' := wZero ) (Ps := []) rfl trivial ?_
                  refine ww_icmp_ne 14 rfl (tgt := 26) rfl (fun c9 => ?_) (fun c9 => ?_)
                  · refine ww_above 17 (i := 0) (by decide +kernel) rfl rfl rfl rfl (by unfold vp_in; decide) ?_
                    rw [show aboveF (0 : Int32).toNatClampNeg = (-1) from by decide]
                    refine ww_run 20 2 (pc' := 35) (lv' := [(3, .int (2 + 1)), (2, .int (-1)), (0, .int 4), (1, .int w)]) (st' := []) (w' := wZero ) (Ps := []) rfl trivial ?_
                    rw [show (2 : Int32) + 1 = 3 from by decide]
                    refine ww_run 22 1 (pc' := 4) (lv' := [(3, .int 3), (2, .int (-1)), (0, .int 4), (1, .int w)]) (st' := []) (w' := wZero ) (Ps := []) rfl trivial ?_
                    refine ww_run 4 2 (pc' := 7) (lv' := [(3, .int 3), (2, .int (-1)), (0, .int 4), (1, .int w)]) (st' := [.int 6, .int 3]) (w' := wZero ) (Ps := []) rfl trivial ?_
                    refine ww_icmp_ge 6 rfl (tgt := 38) rfl (fun c10 => ?_) (fun c10 => ?_)
                    · exact absurd c10 (by decide)
                    · refine ww_run 7 3 (pc' := 13) (lv' := [(3, .int 3), (2, .int (-1)), (0, .int 4), (1, .int w)]) (st' := [.int 5, .int 0, .int (-1)]) (w' := wZero ) (Ps := []) rfl trivial ?_
                      refine ww_cSNi 10 (n := 3) ok_X6_within (Co.fr0 (c_X6_within (-1) 0 5) rfl) (by decide +kernel) rfl (by omega) (rest := []) rfl (Nat.le_of_ble_eq_true rfl) rfl ?_
                      rw [show b2i (mIn (-1) 0 5) = 0 from by decide]
                      refine ww_if_eq 11 rfl (tgt := 38) rfl (fun c11 => ?_) (fun c11 => ?_)
                      · refine ww_run 23 1 (pc' := 39) (lv' := [(3, .int 3), (2, .int (-1)), (0, .int 4), (1, .int w)]) (st' := [.int 0]) (w' := wZero ) (Ps := []) rfl trivial ?_
                        refine ww_zret 24 rfl rfl rfl ?_
                        exact ⟨by unfold b2i; grind, rfl⟩
                      · exact absurd c11 (by decide)
                  · refine ww_run 15 1 (pc' := 25) (lv' := [(3, .int 2), (2, .int 0), (0, .int 4), (1, .int w)]) (st' := [.int 1]) (w' := wZero ) (Ps := []) rfl trivial ?_
                    refine ww_zret 16 rfl rfl rfl ?_
                    exact ⟨by unfold b2i; grind, rfl⟩
            · refine ww_run 15 1 (pc' := 25) (lv' := [(3, .int 1), (2, .int 2), (0, .int 4), (1, .int w)]) (st' := [.int 1]) (w' := wZero ) (Ps := []) rfl trivial ?_
              refine ww_zret 16 rfl rfl rfl ?_
              exact ⟨by unfold b2i; grind, rfl⟩
      · refine ww_run 15 1 (pc' := 25) (lv' := [(3, .int 0), (2, .int 4), (0, .int 4), (1, .int w)]) (st' := [.int 1]) (w' := wZero ) (Ps := []) rfl trivial ?_
        refine ww_zret 16 rfl rfl rfl ?_
        exact ⟨by unfold b2i; grind, rfl⟩
set_option maxHeartbeats 4000000 in
set_option maxRecDepth 100000 in
theorem x_isA5  (w : Int32) : Co M_X2_isA 1 0 0 [.int 5, .int w] (wZero ) (Qi (b2i (w = 0 ∨ 5 = w ∨ (w = 1 ∧ (5 : Int32) = 3) ∨ (w = 2 ∧ (5 : Int32) = 4))) wZero ) := by
  refine Co.of ok_X2_isA rfl ?_
  refine ww_run 0 6 (pc' := 7) (lv' := [(3, .int 0), (2, .int 5), (0, .int 5), (1, .int w)]) (st' := [.int 6, .int 0]) (w' := wZero ) (Ps := []) rfl trivial ?_
  refine ww_icmp_ge 6 rfl (tgt := 38) rfl (fun c1 => ?_) (fun c1 => ?_)
  · exact absurd c1 (by decide)
  · refine ww_run 7 3 (pc' := 13) (lv' := [(3, .int 0), (2, .int 5), (0, .int 5), (1, .int w)]) (st' := [.int 5, .int 0, .int 5]) (w' := wZero ) (Ps := []) rfl trivial ?_
    refine ww_cSNi 10 (n := 3) ok_X6_within (Co.fr0 (c_X6_within 5 0 5) rfl) (by decide +kernel) rfl (by omega) (rest := []) rfl (Nat.le_of_ble_eq_true rfl) rfl ?_
    rw [show b2i (mIn 5 0 5) = 1 from by decide]
    refine ww_if_eq 11 rfl (tgt := 38) rfl (fun c2 => ?_) (fun c2 => ?_)
    · exact absurd c2 (by decide)
    · refine ww_run 12 2 (pc' := 21) (lv' := [(3, .int 0), (2, .int 5), (0, .int 5), (1, .int w)]) (st' := [.int w, .int 5]) (w' := wZero ) (Ps := []) rfl trivial ?_
      refine ww_icmp_ne 14 rfl (tgt := 26) rfl (fun c3 => ?_) (fun c3 => ?_)
      · refine ww_above 17 (i := 5) (by decide +kernel) rfl rfl rfl rfl (by unfold vp_in; decide) ?_
        rw [show aboveF (5 : Int32).toNatClampNeg = 0 from by decide]
        refine ww_run 20 2 (pc' := 35) (lv' := [(3, .int (0 + 1)), (2, .int 0), (0, .int 5), (1, .int w)]) (st' := []) (w' := wZero ) (Ps := []) rfl trivial ?_
        rw [show (0 : Int32) + 1 = 1 from by decide]
        refine ww_run 22 1 (pc' := 4) (lv' := [(3, .int 1), (2, .int 0), (0, .int 5), (1, .int w)]) (st' := []) (w' := wZero ) (Ps := []) rfl trivial ?_
        refine ww_run 4 2 (pc' := 7) (lv' := [(3, .int 1), (2, .int 0), (0, .int 5), (1, .int w)]) (st' := [.int 6, .int 1]) (w' := wZero ) (Ps := []) rfl trivial ?_
        refine ww_icmp_ge 6 rfl (tgt := 38) rfl (fun c4 => ?_) (fun c4 => ?_)
        · exact absurd c4 (by decide)
        · refine ww_run 7 3 (pc' := 13) (lv' := [(3, .int 1), (2, .int 0), (0, .int 5), (1, .int w)]) (st' := [.int 5, .int 0, .int 0]) (w' := wZero ) (Ps := []) rfl trivial ?_
          refine ww_cSNi 10 (n := 3) ok_X6_within (Co.fr0 (c_X6_within 0 0 5) rfl) (by decide +kernel) rfl (by omega) (rest := []) rfl (Nat.le_of_ble_eq_true rfl) rfl ?_
          rw [show b2i (mIn 0 0 5) = 1 from by decide]
          refine ww_if_eq 11 rfl (tgt := 38) rfl (fun c5 => ?_) (fun c5 => ?_)
          · exact absurd c5 (by decide)
          · refine ww_run 12 2 (pc' := 21) (lv' := [(3, .int 1), (2, .int 0), (0, .int 5), (1, .int w)]) (st' := [.int w, .int 0]) (w' := wZero ) (Ps := []) rfl trivial ?_
            refine ww_icmp_ne 14 rfl (tgt := 26) rfl (fun c6 => ?_) (fun c6 => ?_)
            · refine ww_above 17 (i := 0) (by decide +kernel) rfl rfl rfl rfl (by unfold vp_in; decide) ?_
              rw [show aboveF (0 : Int32).toNatClampNeg = (-1) from by decide]
              refine ww_run 20 2 (pc' := 35) (lv' := [(3, .int (1 + 1)), (2, .int (-1)), (0, .int 5), (1, .int w)]) (st' := []) (w' := wZero ) (Ps := []) rfl trivial ?_
              rw [show (1 : Int32) + 1 = 2 from by decide]
              refine ww_run 22 1 (pc' := 4) (lv' := [(3, .int 2), (2, .int (-1)), (0, .int 5), (1, .int w)]) (st' := []) (w' := wZero ) (Ps := []) rfl trivial ?_
              refine ww_run 4 2 (pc' := 7) (lv' := [(3, .int 2), (2, .int (-1)), (0, .int 5), (1, .int w)]) (st' := [.int 6, .int 2]) (w' := wZero ) (Ps := []) rfl trivial ?_
              refine ww_icmp_ge 6 rfl (tgt := 38) rfl (fun c7 => ?_) (fun c7 => ?_)
              · exact absurd c7 (by decide)
              · refine ww_run 7 3 (pc' := 13) (lv' := [(3, .int 2), (2, .int (-1)), (0, .int 5), (1, .int w)]) (st' := [.int 5, .int 0, .int (-1)]) (w' := wZero ) (Ps := []) rfl trivial ?_
                refine ww_cSNi 10 (n := 3) ok_X6_within (Co.fr0 (c_X6_within (-1) 0 5) rfl) (by decide +kernel) rfl (by omega) (rest := []) rfl (Nat.le_of_ble_eq_true rfl) rfl ?_
                rw [show b2i (mIn (-1) 0 5) = 0 from by decide]
                refine ww_if_eq 11 rfl (tgt := 38) rfl (fun c8 => ?_) (fun c8 => ?_)
                · refine ww_run 23 1 (pc' := 39) (lv' := [(3, .int 2), (2, .int (-1)), (0, .int 5), (1, .int w)]) (st' := [.int 0]) (w' := wZero ) (Ps := []) rfl trivial ?_
                  refine ww_zret 24 rfl rfl rfl ?_
                  exact ⟨by unfold b2i; grind, rfl⟩
                · exact absurd c8 (by decide)
            · refine ww_run 15 1 (pc' := 25) (lv' := [(3, .int 1), (2, .int 0), (0, .int 5), (1, .int w)]) (st' := [.int 1]) (w' := wZero ) (Ps := []) rfl trivial ?_
              refine ww_zret 16 rfl rfl rfl ?_
              exact ⟨by unfold b2i; grind, rfl⟩
      · refine ww_run 15 1 (pc' := 25) (lv' := [(3, .int 0), (2, .int 5), (0, .int 5), (1, .int w)]) (st' := [.int 1]) (w' := wZero ) (Ps := []) rfl trivial ?_
        refine ww_zret 16 rfl rfl rfl ?_
        exact ⟨by unfold b2i; grind, rfl⟩
theorem x_isA {k : Nat} (hk : k < 6) (w : Int32) : Co M_X2_isA 1 0 0 [.int (nI k), .int w] [] (Qi (b2i (w = 0 ∨ nI k = w ∨ (w = 1 ∧ nI k = 3) ∨ (w = 2 ∧ nI k = 4))) []) := by
  rcases (show k = 0 ∨ k = 1 ∨ k = 2 ∨ k = 3 ∨ k = 4 ∨ k = 5 by omega) with rfl | rfl | rfl | rfl | rfl | rfl
  · exact x_isA0 w
  · exact x_isA1 w
  · exact x_isA2 w
  · exact x_isA3 w
  · exact x_isA4 w
  · exact x_isA5 w
theorem kk_lt {x : Int32} (h : mIn x 0 6) : x < 6 ↔ ¬ x = 6 := by
  obtain ⟨j, hj, rfl⟩ := nI_of2 (M := 6) (n := 6) rfl (Int32.not_lt.mpr h.1) h.2
  rw [show (6 : Int32) = nI 6 from rfl, nI_ltI (by omega) (by omega), nI_eq (by omega) (by omega)]
  omega
set_option maxHeartbeats 4000000 in
set_option maxRecDepth 100000 in
theorem x_taken (fr lo fa ki mo : Nat → Int32) (sty wset wfor law lent pict tn brs bst : Int32) (P C : Nat) (hP : P ≤ 5) (hC : C ≤ 6) (hki : ∀ c, c < 6 → sm 5 (ki c)) (ii kk : Int32) : Co M_X6_taken 2 0 0 [.ref 0, .int ii, .int kk] (wC7 fr lo fa ki mo (nI P) (nI C) sty wset wfor law lent pict tn brs bst) (Qi (takV lo ki P C ii kk) (wC7 fr lo fa ki mo (nI P) (nI C) sty wset wfor law lent pict tn brs bst)) := by
  refine Co.of ok_X6_taken rfl ?_
  refine ww_run 0 3 (pc' := 4) (lv' := [(0, .ref 0), (1, .int ii), (2, .int kk)]) (st' := [.int 6, .int 0, .int kk]) (w' := wC7 fr lo fa ki mo (nI P) (nI C) sty wset wfor law lent pict tn brs bst) (Ps := []) rfl trivial ?_
  refine ww_cSi 3 ok_X6_within (Co.fr0 (c_X6_within kk 0 6) rfl) lk_X6_124 rfl (by omega) (rest := []) rfl (Nat.le_of_ble_eq_true rfl) rfl ?_
  refine ww_if_ne 4 rfl (tgt := 13) rfl (fun c1 => ?_) (fun c1 => ?_)
  · rw [b2i_ne0] at c1
    refine ww_run 7 3 (pc' := 17) (lv' := [(0, .ref 0), (1, .int ii), (2, .int kk)]) (st' := [.int 10, .int 0, .int ii]) (w' := wC7 fr lo fa ki mo (nI P) (nI C) sty wset wfor law lent pict tn brs bst) (Ps := []) rfl trivial ?_
    refine ww_cSi 10 ok_X6_within (Co.fr0 (c_X6_within ii 0 10) rfl) lk_X6_124 rfl (by omega) (rest := []) rfl (Nat.le_of_ble_eq_true rfl) rfl ?_
    refine ww_if_ne 11 rfl (tgt := 26) rfl (fun c2 => ?_) (fun c2 => ?_)
    · rw [b2i_ne0] at c2
      refine ww_run 14 4 (pc' := 30) (lv' := [(3, .int (ii - 5)), (0, .ref 0), (1, .int ii), (2, .int kk)]) (st' := []) (w' := wC7 fr lo fa ki mo (nI P) (nI C) sty wset wfor law lent pict tn brs bst) (Ps := []) rfl trivial ?_
      obtain ⟨j, hj, rfl⟩ := nI_of2 (M := 10) (n := 10) rfl (Int32.not_lt.mpr c2.1) c2.2
      obtain ⟨i, hi5, rfl⟩ | ⟨i, hi, rfl⟩ : (∃ i, i < 5 ∧ i = j) ∨ (∃ i, i ≤ 5 ∧ j = i + 5) := by
        by_cases h : j < 5
        · exact Or.inl ⟨j, h, rfl⟩
        · exact Or.inr ⟨j - 5, by omega, by omega⟩
      · have e5 : nI i - 5 < 0 := by rw [show (5 : Int32) = nI 5 from rfl]; exact pk_sneg (by omega) hi5
        refine ww_run 18 1 (pc' := 31) (lv' := [(3, .int ((nI i) - 5)), (0, .ref 0), (1, .int (nI i)), (2, .int kk)]) (st' := [.int ((nI i) - 5)]) (w' := wC7 fr lo fa ki mo (nI P) (nI C) sty wset wfor law lent pict tn brs bst) (Ps := []) rfl trivial ?_
        refine ww_if_ge 19 rfl (tgt := 69) rfl (fun c3 => ?_) (fun c3 => ?_)
        · exact absurd e5 (Int32.not_lt.mpr c3)
        · refine ww_run 20 4 (pc' := 42) (lv' := [(3, .int ((nI i) - 5)), (0, .ref 0), (1, .int (nI i)), (2, .int kk)]) (st' := [.int (nI P), .int (nI i)]) (w' := wC7 fr lo fa ki mo (nI P) (nI C) sty wset wfor law lent pict tn brs bst) (Ps := []) rfl trivial ?_
          refine ww_icmp_lt 24 rfl (tgt := 48) rfl (fun c4 => ?_) (fun c4 => ?_)
          · have c4 : i < P := (nI_ltI (a := i) (b := P) (by omega) (by omega)).mp c4
            refine ww_run 27 2 (pc' := 51) (lv' := [(3, .int ((nI i) - 5)), (0, .ref 0), (1, .int (nI i)), (2, .int kk)]) (st' := [.int 6, .int kk]) (w' := wC7 fr lo fa ki mo (nI P) (nI C) sty wset wfor law lent pict tn brs bst) (Ps := []) rfl trivial ?_
            refine ww_icmp_ne 29 rfl (tgt := 66) rfl (fun c5 => ?_) (fun c5 => ?_)
            · refine ww_run 36 1 (pc' := 68) (lv' := [(3, .int ((nI i) - 5)), (0, .ref 0), (1, .int (nI i)), (2, .int kk)]) (st' := [.int (-13)]) (w' := wC7 fr lo fa ki mo (nI P) (nI C) sty wset wfor law lent pict tn brs bst) (Ps := []) rfl trivial ?_
              refine ww_iret 37 rfl rfl ?_
              have hlt : nI i < (5 : Int32) := by rw [show (5 : Int32) = nI 5 from rfl]; exact nI_lt hi5 (by omega)
              exact ⟨by unfold takV; rw [if_neg (fun q => q c1), if_neg (fun q => q c2), if_pos hlt]; simp only [nI_leI (a := P) (b := i) (by omega) (by omega), nI_clamp (n := i) (by omega)]; rw [if_neg (by omega), if_neg c5], rfl⟩
            · refine ww_run 30 6 (pc' := 68) (lv' := [(3, .int ((nI i) - 5)), (0, .ref 0), (1, .int (nI i)), (2, .int kk)]) (st' := [.int (lo (nI i).toNatClampNeg)]) (w' := wC7 fr lo fa ki mo (nI P) (nI C) sty wset wfor law lent pict tn brs bst) (Ps := [vp_in (nI i) 5]) rfl ⟨(vp_in_nI (by omega) (by omega)), trivial⟩ ?_
              rw [nI_clamp (n := i) (by omega)]
              refine ww_iret 37 rfl rfl ?_
              have hlt : nI i < (5 : Int32) := by rw [show (5 : Int32) = nI 5 from rfl]; exact nI_lt hi5 (by omega)
              exact ⟨by unfold takV; rw [if_neg (fun q => q c1), if_neg (fun q => q c2), if_pos hlt]; simp only [nI_leI (a := P) (b := i) (by omega) (by omega), nI_clamp (n := i) (by omega)]; rw [if_neg (by omega), if_pos c5], rfl⟩
          · have c4 : ¬ i < P := fun q => c4 ((nI_ltI (a := i) (b := P) (by omega) (by omega)).mpr q)
            refine ww_run 25 1 (pc' := 47) (lv' := [(3, .int ((nI i) - 5)), (0, .ref 0), (1, .int (nI i)), (2, .int kk)]) (st' := [.int (-11)]) (w' := wC7 fr lo fa ki mo (nI P) (nI C) sty wset wfor law lent pict tn brs bst) (Ps := []) rfl trivial ?_
            refine ww_iret 26 rfl rfl ?_
            have hlt : nI i < (5 : Int32) := by rw [show (5 : Int32) = nI 5 from rfl]; exact nI_lt hi5 (by omega)
            exact ⟨by unfold takV; rw [if_neg (fun q => q c1), if_neg (fun q => q c2), if_pos hlt]; simp only [nI_leI (a := P) (b := i) (by omega) (by omega), nI_clamp (n := i) (by omega)]; rw [if_pos (by omega)], rfl⟩
      · have e5 : nI (i + 5) - 5 = nI i := by rw [show (5 : Int32) = nI 5 from rfl, pk_sub (by omega)]; rfl
        rw [e5]
        refine ww_run 18 1 (pc' := 31) (lv' := [(3, .int (nI i)), (0, .ref 0), (1, .int (nI (i + 5))), (2, .int kk)]) (st' := [.int (nI i)]) (w' := wC7 fr lo fa ki mo (nI P) (nI C) sty wset wfor law lent pict tn brs bst) (Ps := []) rfl trivial ?_
        refine ww_if_ge 19 rfl (tgt := 69) rfl (fun c6 => ?_) (fun c6 => ?_)
        · have c6 : 0 ≤ i := (nI_leI (a := 0) (b := i) (by omega) (by omega)).mp c6
          refine ww_run 38 4 (pc' := 77) (lv' := [(3, .int (nI i)), (0, .ref 0), (1, .int (nI (i + 5))), (2, .int kk)]) (st' := [.int (nI C), .int (nI i)]) (w' := wC7 fr lo fa ki mo (nI P) (nI C) sty wset wfor law lent pict tn brs bst) (Ps := []) rfl trivial ?_
          refine ww_icmp_lt 42 rfl (tgt := 83) rfl (fun c7 => ?_) (fun c7 => ?_)
          · have c7 : i < C := (nI_ltI (a := i) (b := C) (by omega) (by omega)).mp c7
            refine ww_run 45 2 (pc' := 86) (lv' := [(3, .int (nI i)), (0, .ref 0), (1, .int (nI (i + 5))), (2, .int kk)]) (st' := [.int 6, .int kk]) (w' := wC7 fr lo fa ki mo (nI P) (nI C) sty wset wfor law lent pict tn brs bst) (Ps := []) rfl trivial ?_
            refine ww_icmp_eq 47 rfl (tgt := 109) rfl (fun c8 => ?_) (fun c8 => ?_)
            · refine ww_run 58 1 (pc' := 111) (lv' := [(3, .int (nI i)), (0, .ref 0), (1, .int (nI (i + 5))), (2, .int kk)]) (st' := [.int (-13)]) (w' := wC7 fr lo fa ki mo (nI P) (nI C) sty wset wfor law lent pict tn brs bst) (Ps := []) rfl trivial ?_
              refine ww_iret 59 rfl rfl ?_
              have hge : ¬ nI (i + 5) < (5 : Int32) := by rw [show (5 : Int32) = nI 5 from rfl]; exact nI_nlt (by omega) (by omega)
              have hk6 := kk_lt c1
              exact ⟨by unfold takV; rw [if_neg (fun q => q c1), if_neg (fun q => q c2), if_neg hge, e5]; simp only [nI_leI (a := C) (b := i) (by omega) (by omega), nI_clamp (n := i) (by omega)]; rw [if_neg (by omega), if_neg (fun q => (hk6.mp q.1) c8)], rfl⟩
            · refine ww_run 48 6 (pc' := 99) (lv' := [(3, .int (nI i)), (0, .ref 0), (1, .int (nI (i + 5))), (2, .int kk)]) (st' := [.int kk, .int (ki (nI i).toNatClampNeg)]) (w' := wC7 fr lo fa ki mo (nI P) (nI C) sty wset wfor law lent pict tn brs bst) (Ps := [vp_in (nI i) 6]) rfl ⟨(vp_in_nI (by omega) (by omega)), trivial⟩ ?_
              rw [nI_clamp (n := i) (by omega)]
              obtain ⟨kk9, hk9, ek9⟩ := hki i (by omega)
              rw [ek9]
              refine ww_cSi 54 ok_X2_isA (Co.fr0 (x_isA (k := kk9) (by omega) kk) rfl) lk_X6_316 rfl (by omega) (rest := []) rfl (Nat.le_of_ble_eq_true rfl) rfl ?_
              rw [← ek9]
              refine ww_if_eq 55 rfl (tgt := 109) rfl (fun c9 => ?_) (fun c9 => ?_)
              · rw [b2i_eq0] at c9
                refine ww_run 58 1 (pc' := 111) (lv' := [(3, .int (nI i)), (0, .ref 0), (1, .int (nI (i + 5))), (2, .int kk)]) (st' := [.int (-13)]) (w' := wC7 fr lo fa ki mo (nI P) (nI C) sty wset wfor law lent pict tn brs bst) (Ps := []) rfl trivial ?_
                refine ww_iret 59 rfl rfl ?_
                have hge : ¬ nI (i + 5) < (5 : Int32) := by rw [show (5 : Int32) = nI 5 from rfl]; exact nI_nlt (by omega) (by omega)
                have hk6 := kk_lt c1
                exact ⟨by unfold takV; rw [if_neg (fun q => q c1), if_neg (fun q => q c2), if_neg hge, e5]; simp only [nI_leI (a := C) (b := i) (by omega) (by omega), nI_clamp (n := i) (by omega)]; rw [if_neg (by omega), if_neg (fun q => c9 q.2)], rfl⟩
              · rw [b2i_ne0] at c9
                refine ww_run 56 2 (pc' := 111) (lv' := [(3, .int (nI i)), (0, .ref 0), (1, .int (nI (i + 5))), (2, .int kk)]) (st' := [.int (nI i)]) (w' := wC7 fr lo fa ki mo (nI P) (nI C) sty wset wfor law lent pict tn brs bst) (Ps := []) rfl trivial ?_
                refine ww_iret 59 rfl rfl ?_
                have hge : ¬ nI (i + 5) < (5 : Int32) := by rw [show (5 : Int32) = nI 5 from rfl]; exact nI_nlt (by omega) (by omega)
                have hk6 := kk_lt c1
                exact ⟨by unfold takV; rw [if_neg (fun q => q c1), if_neg (fun q => q c2), if_neg hge, e5]; simp only [nI_leI (a := C) (b := i) (by omega) (by omega), nI_clamp (n := i) (by omega)]; rw [if_neg (by omega), if_pos ⟨hk6.mpr c8, c9⟩], rfl⟩
          · have c7 : ¬ i < C := fun q => c7 ((nI_ltI (a := i) (b := C) (by omega) (by omega)).mpr q)
            refine ww_run 43 1 (pc' := 82) (lv' := [(3, .int (nI i)), (0, .ref 0), (1, .int (nI (i + 5))), (2, .int kk)]) (st' := [.int (-11)]) (w' := wC7 fr lo fa ki mo (nI P) (nI C) sty wset wfor law lent pict tn brs bst) (Ps := []) rfl trivial ?_
            refine ww_iret 44 rfl rfl ?_
            have hge : ¬ nI (i + 5) < (5 : Int32) := by rw [show (5 : Int32) = nI 5 from rfl]; exact nI_nlt (by omega) (by omega)
            have hk6 := kk_lt c1
            exact ⟨by unfold takV; rw [if_neg (fun q => q c1), if_neg (fun q => q c2), if_neg hge, e5]; simp only [nI_leI (a := C) (b := i) (by omega) (by omega), nI_clamp (n := i) (by omega)]; rw [if_pos (by omega)], rfl⟩
        · exact absurd (nI_pos' (by omega)) c6
    · rw [b2i_eq0] at c2
      refine ww_run 12 1 (pc' := 25) (lv' := [(0, .ref 0), (1, .int ii), (2, .int kk)]) (st' := [.int (-12)]) (w' := wC7 fr lo fa ki mo (nI P) (nI C) sty wset wfor law lent pict tn brs bst) (Ps := []) rfl trivial ?_
      refine ww_iret 13 rfl rfl ?_
      exact ⟨by unfold takV; rw [if_neg (fun q => q c1), if_pos c2], rfl⟩
  · rw [b2i_eq0] at c1
    refine ww_run 5 1 (pc' := 12) (lv' := [(0, .ref 0), (1, .int ii), (2, .int kk)]) (st' := [.int (-2)]) (w' := wC7 fr lo fa ki mo (nI P) (nI C) sty wset wfor law lent pict tn brs bst) (Ps := []) rfl trivial ?_
    refine ww_iret 6 rfl rfl ?_
    exact ⟨by unfold takV; rw [if_pos c1], rfl⟩
