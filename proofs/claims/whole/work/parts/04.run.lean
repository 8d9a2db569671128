/-- one instruction of a straight stretch: the state behind it and what must hold for it -/
def xst (M : XM) (i : Instr) (S : XS) : Option (XS × List Prop) := match S with
  | (pc, lv, st, w) => match i with
    | .iconst n => some ((pc + 1, lv, .int (xint n) :: st, w), [])
    | .bipush n => match decide (-128 ≤ n) && decide (n ≤ 127) with
      | true => some ((pc + 2, lv, .int (xint n) :: st, w), [])
      | false => none
    | .sipush n => match decide (-32768 ≤ n) && decide (n ≤ 32767) with
      | true => some ((pc + 3, lv, .int (xint n) :: st, w), [])
      | false => none
    | .lconst n => some ((pc + 1, lv, .long (Int64.ofNat (n : Nat)) :: st, w), [])
    | .iload_n k => match xlk lv k with
      | some (.int x) => some ((pc + 1, lv, .int x :: st, w), [])
      | _ => none
    | .iload k => match xlk lv k with
      | some (.int x) => some ((pc + 2, lv, .int x :: st, w), [])
      | _ => none
    | .lload_n k => match xlk lv k with
      | some (.long x) => some ((pc + 1, lv, .long x :: st, w), [])
      | _ => none
    | .lload k => match xlk lv k with
      | some (.long x) => some ((pc + 2, lv, .long x :: st, w), [])
      | _ => none
    | .aload_n k => match xlk lv k with
      | some (.ref x) => some ((pc + 1, lv, .ref x :: st, w), [])
      | _ => none
    | .aload k => match xlk lv k with
      | some (.ref x) => some ((pc + 2, lv, .ref x :: st, w), [])
      | _ => none
    | .istore_n k => match Nat.ble (k + 1) M.2.2.1, st with
      | true, .int x :: st => some ((pc + 1, xput lv k (.int x), st, w), [])
      | _, _ => none
    | .istore k => match Nat.ble (k + 1) M.2.2.1, st with
      | true, .int x :: st => some ((pc + 2, xput lv k (.int x), st, w), [])
      | _, _ => none
    | .astore_n k => match Nat.ble (k + 1) M.2.2.1, st with
      | true, .ref x :: st => some ((pc + 1, xput lv k (.ref x), st, w), [])
      | _, _ => none
    | .astore k => match Nat.ble (k + 1) M.2.2.1, st with
      | true, .ref x :: st => some ((pc + 2, xput lv k (.ref x), st, w), [])
      | _, _ => none
    | .lstore_n k => match Nat.ble (k + 2) M.2.2.1, st with
      | true, .long x :: st => some ((pc + 1, xputl lv k (.long x), st, w), [])
      | _, _ => none
    | .lstore k => match Nat.ble (k + 2) M.2.2.1, st with
      | true, .long x :: st => some ((pc + 2, xputl lv k (.long x), st, w), [])
      | _, _ => none
    | .iinc k n => match Nat.ble (k + 1) M.2.2.1, xlk lv k with
      | true, some (.int x) => some ((pc + 3, xput lv k (.int (x + xint n)), st, w), [])
      | _, _ => none
    | .iadd => match st with
      | .int y :: .int x :: st => some ((pc + 1, lv, .int (x + y) :: st, w), [])
      | _ => none
    | .isub => match st with
      | .int y :: .int x :: st => some ((pc + 1, lv, .int (x - y) :: st, w), [])
      | _ => none
    | .imul => match st with
      | .int y :: .int x :: st => some ((pc + 1, lv, .int (x * y) :: st, w), [])
      | _ => none
    | .iand => match st with
      | .int y :: .int x :: st => some ((pc + 1, lv, .int (x &&& y) :: st, w), [])
      | _ => none
    | .ior => match st with
      | .int y :: .int x :: st => some ((pc + 1, lv, .int (x ||| y) :: st, w), [])
      | _ => none
    | .ixor => match st with
      | .int y :: .int x :: st => some ((pc + 1, lv, .int (x ^^^ y) :: st, w), [])
      | _ => none
    | .ishl => match st with
      | .int y :: .int x :: st => some ((pc + 1, lv, .int (x <<< (y &&& 31)) :: st, w), [])
      | _ => none
    | .ishr => match st with
      | .int y :: .int x :: st => some ((pc + 1, lv, .int (x >>> (y &&& 31)) :: st, w), [])
      | _ => none
    | .ineg => match st with
      | .int x :: st => some ((pc + 1, lv, .int (-x) :: st, w), [])
      | _ => none
    | .idiv => match st with
      | .int y :: .int x :: st => some ((pc + 1, lv, .int (x / y) :: st, w), [¬ y = 0])
      | _ => none
    | .irem => match st with
      | .int y :: .int x :: st => some ((pc + 1, lv, .int (x - x / y * y) :: st, w), [¬ y = 0])
      | _ => none
    | .ladd => match st with
      | .long y :: .long x :: st => some ((pc + 1, lv, .long (x + y) :: st, w), [])
      | _ => none
    | .lmul => match st with
      | .long y :: .long x :: st => some ((pc + 1, lv, .long (x * y) :: st, w), [])
      | _ => none
    | .lor => match st with
      | .long y :: .long x :: st => some ((pc + 1, lv, .long (x ||| y) :: st, w), [])
      | _ => none
    | .lrem => match st with
      | .long y :: .long x :: st => some ((pc + 1, lv, .long (x - x / y * y) :: st, w), [¬ y = 0])
      | _ => none
    | .ldiv => match st with
      | .long y :: .long x :: st => some ((pc + 1, lv, .long (x / y) :: st, w), [¬ y = 0])
      | _ => none
    | .lshl => match st with
      | .int y :: .long x :: st => some ((pc + 1, lv, .long (x <<< (y.toInt64 &&& 63)) :: st, w), [])
      | _ => none
    | .lcmp => match st with
      | .long y :: .long x :: st => some ((pc + 1, lv, .int (lg_cmp x y) :: st, w), [])
      | _ => none
    | .i2l => match st with
      | .int x :: st => some ((pc + 1, lv, .long x.toInt64 :: st, w), [])
      | _ => none
    | .i2b => match st with
      | .int x :: st => some ((pc + 1, lv, .int x.toInt8.toInt32 :: st, w), [])
      | _ => none
    | .i2s => match st with
      | .int x :: st => some ((pc + 1, lv, .int x.toInt16.toInt32 :: st, w), [])
      | _ => none
    | .dup => match st with
      | .int x :: st => some ((pc + 1, lv, .int x :: .int x :: st, w), [])
      | .ref x :: st => some ((pc + 1, lv, .ref x :: .ref x :: st, w), [])
      | _ => none
    | .pop => match st with
      | .int x :: st => some ((pc + 1, lv, st, w), [])
      | .ref x :: st => some ((pc + 1, lv, st, w), [])
      | _ => none
    | .dup_x1 => match st with
      | .int x :: .ref y :: st => some ((pc + 1, lv, .int x :: .ref y :: .int x :: st, w), [])
      | _ => none
    | .dup2 => match st with
      | .int x :: .ref y :: st => some ((pc + 1, lv, .int x :: .ref y :: .int x :: .ref y :: st, w), [])
      | _ => none
    | .goto off => match (pc : Int) + off with
      | .ofNat t => some ((t, lv, st, w), [])
      | .negSucc _ => none
    | .ldc k => match xkl M.2.2.2.2.2.2.2.1 k with
      | some v => some ((pc + 2, lv, .int v :: st, w), [])
      | none => none
    | .ldc_w k => match xkl M.2.2.2.2.2.2.2.1 k with
      | some v => some ((pc + 3, lv, .int v :: st, w), [])
      | none => none
    | .ldc2_w k => match xkl M.2.2.2.2.2.2.2.2 k with
      | some v => some ((pc + 3, lv, .long v :: st, w), [])
      | none => none
    | .getfield idx => match xfl M.2.2.2.2.2.2.1 idx, st with
      | some (ci, k, _), .ref a :: st => match w[a]? with
        | some (.inr (cj, fs)) => match Nat.beq cj ci, fs[k]? with
          | true, some v => some ((pc + 3, lv, v :: st, w), [])
          | _, _ => none
        | _ => none
      | _, _ => none
    | .putfield idx => match xfl M.2.2.2.2.2.2.1 idx, st with
      | some (ci, k, true), .int x :: .ref a :: st => match w[a]? with
        | some (.inr (cj, fs)) => match Nat.beq cj ci, Nat.ble (k + 1) fs.length with
          | true, true => some ((pc + 3, lv, st, w.set a (.inr (cj, fs.set k (.int x)))), [])
          | _, _ => none
        | _ => none
      | _, _ => none
    | .iaload => match st with
      | .int i :: .ref a :: st => match w[a]? with
        | some (.inl (0, n, .inl f)) => some ((pc + 1, lv, .int (f i.toNatClampNeg) :: st, w), [vp_in i n])
        | _ => none
      | _ => none
    | .baload => match st with
      | .int i :: .ref a :: st => match w[a]? with
        | some (.inl (1, n, .inl f)) => some ((pc + 1, lv, .int (f i.toNatClampNeg) :: st, w), [vp_in i n])
        | _ => none
      | _ => none
    | .iastore => match st with
      | .int x :: .int i :: .ref a :: st => match w[a]? with
        | some (.inl (0, n, .inl f)) => some ((pc + 1, lv, st, w.set a (.inl (0, n, .inl (upd f i.toNatClampNeg x)))), [vp_in i n])
        | _ => none
      | _ => none
    | .bastore => match st with
      | .int x :: .int i :: .ref a :: st => match w[a]? with
        | some (.inl (1, n, .inl f)) => some ((pc + 1, lv, st, w.set a (.inl (1, n, .inl (upd f i.toNatClampNeg (vp_nar .boolean x))))), [vp_in i n])
        | _ => none
      | _ => none
    | .arraylength => match st with
      | .ref a :: st => match w[a]? with
        | some (.inl (0, n, .inl _)) => some ((pc + 1, lv, .int (OfNat.ofNat n) :: st, w), [])
        | _ => none
      | _ => none
    | _ => none
set_option maxHeartbeats 4000000 in
theorem xst_ok {M : XM} {d : Nat} {Q : Option Value → List va_E → Prop} {z : Nat × Nat × Nat × Nat} {i : Instr} {pc pc' : Nat} {lv lv' : List (Nat × Value)} {st st' : List Value} {w w' : List va_E} {Ps : List Prop}
    (hdg : decode M.2.1 pc = .ok (i, xlen i)) (h : xst M i (pc, lv, st, w) = some ((pc', lv', st', w'), Ps)) (hp : xall Ps) (kk : WW M d Q z pc' lv' st' w') : WW M d Q z pc lv st w := by
  unfold xst at h
  split at h
  next e =>
  cases e
  split at h
  · cases h; exact ww_iconst hdg kk
  · split at h
    · next hb => cases h; exact ww_bipush hdg hb kk
    · cases h
  · split at h
    · next hb => cases h; exact ww_sipush hdg hb kk
    · cases h
  · cases h; exact ww_lconst hdg kk
  · split at h
    · next hb => cases h; exact ww_iload_n hdg hb kk
    · cases h
  · split at h
    · next hb => cases h; exact ww_iload hdg hb kk
    · cases h
  · split at h
    · next hb => cases h; exact ww_lload_n hdg hb kk
    · cases h
  · split at h
    · next hb => cases h; exact ww_lload hdg hb kk
    · cases h
  · split at h
    · next hb => cases h; exact ww_aload_n hdg hb kk
    · cases h
  · split at h
    · next hb => cases h; exact ww_aload hdg hb kk
    · cases h
  · split at h
    · next hb => cases h; exact ww_istore_n hdg (Nat.le_of_ble_eq_true hb) kk
    · cases h
  · split at h
    · next hb => cases h; exact ww_istore hdg (Nat.le_of_ble_eq_true hb) kk
    · cases h
  · split at h
    · next hb => cases h; exact ww_astore_n hdg (Nat.le_of_ble_eq_true hb) kk
    · cases h
  · split at h
    · next hb => cases h; exact ww_astore hdg (Nat.le_of_ble_eq_true hb) kk
    · cases h
  · split at h
    · next hb => cases h; exact ww_lstore_n hdg (Nat.le_of_ble_eq_true hb) kk
    · cases h
  · split at h
    · next hb => cases h; exact ww_lstore hdg (Nat.le_of_ble_eq_true hb) kk
    · cases h
  · split at h
    · next hb hc => cases h; exact ww_iinc hdg hc (Nat.le_of_ble_eq_true hb) kk
    · cases h
  · split at h
    · cases h; exact ww_iadd hdg kk
    · cases h
  · split at h
    · cases h; exact ww_isub hdg kk
    · cases h
  · split at h
    · cases h; exact ww_imul hdg kk
    · cases h
  · split at h
    · cases h; exact ww_iand hdg kk
    · cases h
  · split at h
    · cases h; exact ww_ior hdg kk
    · cases h
  · split at h
    · cases h; exact ww_ixor hdg kk
    · cases h
  · split at h
    · cases h; exact ww_ishl hdg kk
    · cases h
  · split at h
    · cases h; exact ww_ishr hdg kk
    · cases h
  · split at h
    · cases h; exact ww_ineg hdg kk
    · cases h
  · split at h
    · cases h; exact ww_idiv hdg hp.1 kk
    · cases h
  · split at h
    · cases h; exact ww_irem hdg hp.1 kk
    · cases h
  · split at h
    · cases h; exact ww_ladd hdg kk
    · cases h
  · split at h
    · cases h; exact ww_lmul hdg kk
    · cases h
  · split at h
    · cases h; exact ww_lor hdg kk
    · cases h
  · split at h
    · cases h; exact ww_lrem hdg hp.1 kk
    · cases h
  · split at h
    · cases h; exact ww_ldiv hdg hp.1 kk
    · cases h
  · split at h
    · cases h; exact ww_lshl hdg kk
    · cases h
  · split at h
    · cases h; exact ww_lcmp hdg kk
    · cases h
  · split at h
    · cases h; exact ww_i2l hdg kk
    · cases h
  · split at h
    · cases h; exact ww_i2b hdg kk
    · cases h
  · split at h
    · cases h; exact ww_i2s hdg kk
    · cases h
  · split at h
    · cases h; exact ww_dup hdg rfl kk
    · cases h; exact ww_dup hdg rfl kk
    · cases h
  · split at h
    · cases h; exact ww_pop hdg rfl kk
    · cases h; exact ww_pop hdg rfl kk
    · cases h
  · split at h
    · cases h; exact ww_dup_x1 hdg rfl rfl kk
    · cases h
  · split at h
    · cases h; exact ww_dup2 hdg rfl rfl kk
    · cases h
  · split at h
    · next hb => cases h; exact ww_goto hdg hb kk
    · cases h
  · split at h
    · next hb => cases h; exact ww_ldc hdg hb kk
    · cases h
  · split at h
    · next hb => cases h; exact ww_ldc_w hdg hb kk
    · cases h
  · split at h
    · next hb => cases h; exact ww_ldc2_w hdg hb kk
    · cases h
  · split at h
    · next hf =>
      split at h
      · next ha =>
        split at h
        · next hb hv =>
          cases h
          have hc := Nat.eq_of_beq_eq_true hb
          subst hc
          exact ww_get hdg hf ha hv kk
        · cases h
      · cases h
    · cases h
  · split at h
    · next hf =>
      split at h
      · next ha =>
        split at h
        · next hb hv =>
          cases h
          have hc := Nat.eq_of_beq_eq_true hb
          subst hc
          exact ww_put hdg hf ha (Nat.le_of_ble_eq_true hv) kk
        · cases h
      · cases h
    · cases h
  · split at h
    · split at h
      · next ha => cases h; exact ww_iald hdg ha hp.1 kk
      · cases h
    · cases h
  · split at h
    · split at h
      · next ha => cases h; exact ww_zald hdg ha hp.1 kk
      · cases h
    · cases h
  · split at h
    · split at h
      · next ha => cases h; exact ww_iast hdg ha hp.1 kk
      · cases h
    · cases h
  · split at h
    · split at h
      · next ha => cases h; exact ww_zast hdg ha hp.1 kk
      · cases h
    · cases h
  · split at h
    · split at h
      · next ha => cases h; exact ww_alen hdg ha kk
      · cases h
    · cases h
  · cases h
/-- a straight stretch -/
def xrun (M : XM) : List (Nat × Instr × Nat) → XS → Option (XS × List Prop)
  | [], S => some (S, [])
  | q :: qs, S => match Nat.beq q.1 S.1 with
    | true => match xst M q.2.1 S with
      | some (S', P) => match xrun M qs S' with
        | some (S'', Ps) => some (S'', P ++ Ps)
        | none => none
      | none => none
    | false => none
theorem xrun_ok {M : XM} {d : Nat} {Q : Option Value → List va_E → Prop} {z : Nat × Nat × Nat × Nat} (hM : okM M) : ∀ (qs : List (Nat × Instr × Nat)) {pc pc' : Nat} {lv lv' : List (Nat × Value)} {st st' : List Value} {w w' : List va_E} {Ps : List Prop},
    (∀ q ∈ qs, decode M.2.1 q.1 = .ok (q.2.1, q.2.2) ∧ (xst M q.2.1 (0, [], [], []) = none ∨ True) ∧ (xsw q.2.1 = true ∨ q.2.2 = xlen q.2.1)) → xrun M qs (pc, lv, st, w) = some ((pc', lv', st', w'), Ps) → xall Ps → WW M d Q z pc' lv' st' w' → WW M d Q z pc lv st w
  | [], pc, pc', lv, lv', st, st', w, w', Ps, _, h, _, kk => by
    simp only [xrun, Option.some.injEq, Prod.mk.injEq] at h
    obtain ⟨⟨rfl, rfl, rfl, rfl⟩, -⟩ := h
    exact kk
  | q :: qs, pc, pc', lv, lv', st, st', w, w', Ps, hq, h, hp, kk => by
    unfold xrun at h
    split at h
    · next hb =>
      split at h
      · next S' P hs =>
        split at h
        · next S'' Ps' hr =>
          obtain ⟨p1, l1, s1, w1⟩ := S'
          cases h
          have hpc : q.1 = pc := Nat.eq_of_beq_eq_true hb
          obtain ⟨h1, h2⟩ := xall_app hp
          have ih := xrun_ok (d := d) (Q := Q) (z := z) hM qs (fun q' hq' => hq q' (List.mem_cons_of_mem _ hq')) hr h2 kk
          obtain ⟨hd, -, hl⟩ := hq q List.mem_cons_self
          rcases hl with hl | hl
          · exfalso
            obtain ⟨a, i, n⟩ := q
            cases i <;> simp [xsw] at hl <;> simp [xst] at hs
          · rw [hl, hpc] at hd
            exact xst_ok hd hs h1 ih
        · cases h
      · cases h
    · cases h
theorem ww_run {M : XM} {d : Nat} {Q : Option Value → List va_E → Prop} {z : Nat × Nat × Nat × Nat} (a n : Nat) {pc pc' : Nat} {lv lv' : List (Nat × Value)} {st st' : List Value} {w w' : List va_E} {Ps : List Prop}
    (h : xrun M ((M.2.2.2.2.1.drop a).take n) (pc, lv, st, w) = some ((pc', lv', st', w'), Ps)) (hp : xall Ps) (kk : WW M d Q z pc' lv' st' w') : WW M d Q z pc lv st w := by
  intro hM
  refine xrun_ok hM _ (fun q hq => ?_) h hp kk hM
  have h1 := List.all_eq_true.mp hM.2.1 q (List.mem_of_mem_drop (List.mem_of_mem_take hq))
  simp only [Bool.and_eq_true, decide_eq_true_eq, Bool.or_eq_true] at h1
  exact ⟨h1.1, Or.inr trivial, h1.2.imp id Nat.eq_of_beq_eq_true⟩
