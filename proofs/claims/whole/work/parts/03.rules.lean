theorem okf_spec {own : String} {idx ci k : Nat} {b : Bool} (h : okf own (idx, ci, k, b) = true) : ∃ r : vw_C, vwCl[ci]? = some r ∧ k < r.2.2 ∧ Cond.fieldLink own idx (r.2.1 k).1 (r.2.1 k).2.1 (r.2.1 k).2.2.1 ∈ bigw ∧ (b = true → (r.2.1 k).2.2.2 = false ∧ (r.2.1 k).2.2.1 = "I") := by
  unfold okf at h
  split at h
  · cases h
  · next r hr =>
    simp only [Bool.and_eq_true, decide_eq_true_eq, Bool.or_eq_true, Bool.not_eq_true'] at h
    refine ⟨r, hr, h.1, mb_in h.2.1, fun hb => ?_⟩
    rcases h.2.2 with h2 | h2
    · rw [hb] at h2; cases h2
    · exact ⟨h2.1, by simpa using h2.2⟩
def xfl : List (Nat × Nat × Nat × Bool) → Nat → Option (Nat × Nat × Bool)
  | [], _ => none
  | q :: r, k => match Nat.beq q.1 k with
    | true => some q.2
    | false => xfl r k
theorem xfl_mem : ∀ {ft : List (Nat × Nat × Nat × Bool)} {k : Nat} {v : Nat × Nat × Bool}, xfl ft k = some v → (k, v) ∈ ft
  | [], k, v, h => by cases h
  | q :: r, k, v, h => by
    unfold xfl at h
    split at h
    · next hb =>
      cases h
      rw [← Nat.eq_of_beq_eq_true hb]
      exact List.mem_cons_self
    · exact List.mem_cons_of_mem _ (xfl_mem h)
def xkl {α : Type} : List (Nat × α) → Nat → Option α
  | [], _ => none
  | q :: r, k => match Nat.beq q.1 k with
    | true => some q.2
    | false => xkl r k
theorem xkl_mem {α : Type} : ∀ {ft : List (Nat × α)} {k : Nat} {v : α}, xkl ft k = some v → (k, v) ∈ ft
  | [], k, v, h => by cases h
  | q :: r, k, v, h => by
    unfold xkl at h
    split at h
    · next hb =>
      cases h
      rw [← Nat.eq_of_beq_eq_true hb]
      exact List.mem_cons_self
    · exact List.mem_cons_of_mem _ (xkl_mem h)
theorem xkl_c {M : XM} {k : Nat} {v : Int32} (hM : okM M) (h : xkl M.2.2.2.2.2.2.2.1 k = some v) : Cond.constant M.2.2.2.2.2.1 k v ∈ bigw := by
  have h1 := hM.1
  simp only [okK, Bool.and_eq_true] at h1
  have h2 : mb (Cond.constant M.2.2.2.2.2.1 k v) = true := List.all_eq_true.mp h1.2.1 (k, v) (xkl_mem h)
  exact mb_in h2
theorem xkl_l {M : XM} {k : Nat} {v : Int64} (hM : okM M) (h : xkl M.2.2.2.2.2.2.2.2 k = some v) : Cond.constantLong M.2.2.2.2.2.1 k v ∈ bigw := by
  have h1 := hM.1
  simp only [okK, Bool.and_eq_true] at h1
  have h2 : mb (Cond.constantLong M.2.2.2.2.2.1 k v) = true := List.all_eq_true.mp h1.2.2 (k, v) (xkl_mem h)
  exact mb_in h2
theorem xfl_ok {M : XM} {idx ci k : Nat} {b : Bool} (hM : okM M) (h : xfl M.2.2.2.2.2.2.1 idx = some (ci, k, b)) : okf M.2.2.2.2.2.1 (idx, ci, k, b) = true := by
  have h1 := hM.1
  simp only [okK, Bool.and_eq_true] at h1
  exact List.all_eq_true.mp h1.1 _ (xfl_mem h)
theorem x_byte (n : Int) (h : (decide (-128 ≤ n) && decide (n ≤ 127)) = true) : (Int8.ofInt n).toInt32 = Int32.ofInt n := by
  simp only [Bool.and_eq_true, decide_eq_true_eq] at h
  apply Int32.toInt_inj.mp
  rw [Int8.toInt_toInt32, Int8.toInt_ofInt, Int32.toInt_ofInt]
  rw [Int.bmod_def, Int.bmod_def, show Int8.size = 256 from rfl, show Int32.size = 4294967296 from rfl]
  omega
theorem x_short (n : Int) (h : (decide (-32768 ≤ n) && decide (n ≤ 32767)) = true) : (Int16.ofInt n).toInt32 = Int32.ofInt n := by
  simp only [Bool.and_eq_true, decide_eq_true_eq] at h
  apply Int32.toInt_inj.mp
  rw [Int16.toInt_toInt32, Int16.toInt_ofInt, Int32.toInt_ofInt]
  rw [Int.bmod_def, Int.bmod_def, show Int16.size = 65536 from rfl, show Int32.size = 4294967296 from rfl]
  omega
/-- int constants, as they are best read -/
def xint (n : Int) : Int32 := match n with
  | .ofNat k => OfNat.ofNat k
  | .negSucc k => -(OfNat.ofNat (k + 1))
theorem xint_eq (n : Int) : xint n = Int32.ofInt n := by
  cases n with
  | ofNat k => rfl
  | negSucc k =>
    show -(Int32.ofNat (k + 1)) = Int32.ofInt (Int.negSucc k)
    rw [show Int.negSucc k = -((k + 1 : Nat) : Int) from rfl, Int32.ofInt_neg, Int32.ofInt_eq_ofNat]
def xall : List Prop → Prop
  | [] => True
  | P :: Ps => P ∧ xall Ps
theorem xall_app : ∀ {a b : List Prop}, xall (a ++ b) → xall a ∧ xall b
  | [], _, h => ⟨trivial, h⟩
  | _ :: _, _, h => ⟨⟨h.1, (xall_app h.2).1⟩, (xall_app h.2).2⟩
section
variable {M : XM} {d : Nat} {Q : Option Value → List va_E → Prop} {z : Nat × Nat × Nat × Nat} {pc : Nat} {lv : List (Nat × Value)} {st : List Value} {w : List va_E}
theorem ww_iconst {n : Int} (hdg : decode M.2.1 pc = .ok (.iconst n, 1)) (kk : WW M d Q z (pc + 1) lv (.int (xint n) :: st) w) : WW M d Q z pc lv st w := by
  intro hM p l e s m args below meth c D cy A n0 ad0 C ad H locs ls X
  exact lv_iconst C.1 C.2.1 hdg (xint_eq n).symm (kk hM C X)
theorem ww_bipush {n : Int} (hdg : decode M.2.1 pc = .ok (.bipush n, 2)) (h : (decide (-128 ≤ n) && decide (n ≤ 127)) = true) (kk : WW M d Q z (pc + 2) lv (.int (xint n) :: st) w) : WW M d Q z pc lv st w := by
  intro hM p l e s m args below meth c D cy A n0 ad0 C ad H locs ls X
  exact lv_bipush C.1 C.2.1 hdg ((x_byte n h).trans (xint_eq n).symm) (kk hM C X)
theorem ww_sipush {n : Int} (hdg : decode M.2.1 pc = .ok (.sipush n, 3)) (h : (decide (-32768 ≤ n) && decide (n ≤ 32767)) = true) (kk : WW M d Q z (pc + 3) lv (.int (xint n) :: st) w) : WW M d Q z pc lv st w := by
  intro hM p l e s m args below meth c D cy A n0 ad0 C ad H locs ls X
  exact lv_sipush C.1 C.2.1 hdg ((x_short n h).trans (xint_eq n).symm) (kk hM C X)
theorem ww_lconst {n : Fin 2} (hdg : decode M.2.1 pc = .ok (.lconst n, 1)) (kk : WW M d Q z (pc + 1) lv (.long (Int64.ofNat (n : Nat)) :: st) w) : WW M d Q z pc lv st w := by
  intro hM p l e s m args below meth c D cy A n0 ad0 C ad H locs ls X
  exact lv_lconst C.1 C.2.1 hdg rfl (kk hM C X)
theorem ww_iload_n {k : Fin 4} {x : Int32} (hdg : decode M.2.1 pc = .ok (.iload_n k, 1)) (h : xlk lv k = some (.int x)) (kk : WW M d Q z (pc + 1) lv (.int x :: st) w) : WW M d Q z pc lv st w := by
  intro hM p l e s m args below meth c D cy A n0 ad0 C ad H locs ls X
  exact lv_iload_n C.1 C.2.1 hdg rfl (xlk_at X.2.2.2.1 h) (kk hM C X)
theorem ww_iload {k : Nat} {x : Int32} (hdg : decode M.2.1 pc = .ok (.iload k, 2)) (h : xlk lv k = some (.int x)) (kk : WW M d Q z (pc + 2) lv (.int x :: st) w) : WW M d Q z pc lv st w := by
  intro hM p l e s m args below meth c D cy A n0 ad0 C ad H locs ls X
  exact lv_iload C.1 C.2.1 hdg (xlk_at X.2.2.2.1 h) (kk hM C X)
theorem ww_lload_n {k : Fin 4} {x : Int64} (hdg : decode M.2.1 pc = .ok (.lload_n k, 1)) (h : xlk lv k = some (.long x)) (kk : WW M d Q z (pc + 1) lv (.long x :: st) w) : WW M d Q z pc lv st w := by
  intro hM p l e s m args below meth c D cy A n0 ad0 C ad H locs ls X
  exact lv_lload_n C.1 C.2.1 hdg rfl (xlk_at X.2.2.2.1 h) (kk hM C X)
theorem ww_lload {k : Nat} {x : Int64} (hdg : decode M.2.1 pc = .ok (.lload k, 2)) (h : xlk lv k = some (.long x)) (kk : WW M d Q z (pc + 2) lv (.long x :: st) w) : WW M d Q z pc lv st w := by
  intro hM p l e s m args below meth c D cy A n0 ad0 C ad H locs ls X
  exact lv_lload C.1 C.2.1 hdg (xlk_at X.2.2.2.1 h) (kk hM C X)
theorem ww_aload_n {k : Fin 4} {x : Nat} (hdg : decode M.2.1 pc = .ok (.aload_n k, 1)) (h : xlk lv k = some (.ref x)) (kk : WW M d Q z (pc + 1) lv (.ref x :: st) w) : WW M d Q z pc lv st w := by
  intro hM p l e s m args below meth c D cy A n0 ad0 C ad H locs ls X
  exact lv_aload_n C.1 C.2.1 hdg rfl (xlk_at X.2.2.2.1 h) (kk hM C X)
theorem ww_aload {k : Nat} {x : Nat} (hdg : decode M.2.1 pc = .ok (.aload k, 2)) (h : xlk lv k = some (.ref x)) (kk : WW M d Q z (pc + 2) lv (.ref x :: st) w) : WW M d Q z pc lv st w := by
  intro hM p l e s m args below meth c D cy A n0 ad0 C ad H locs ls X
  exact lv_aload C.1 C.2.1 hdg (xlk_at X.2.2.2.1 h) (kk hM C X)
theorem ww_istore_n {k : Fin 4} {x : Int32} (hdg : decode M.2.1 pc = .ok (.istore_n k, 1)) (hn : (k : Nat) < M.2.2.1) (kk : WW M d Q z (pc + 1) (xput lv k (.int x)) st w) : WW M d Q z pc lv (.int x :: st) w := by
  intro hM p l e s m args below meth c D cy A n0 ad0 C ad H locs ls X
  obtain ⟨hP, hD, hS, hl, hG⟩ := X
  exact lv_istore_n C.1 C.2.1 hdg rfl hl hn (xput_xl ad lv k (.int x)) (fun ls' hl' => kk hM C ⟨hP, hD, hS, hl', hG⟩)
theorem ww_istore {k : Nat} {x : Int32} (hdg : decode M.2.1 pc = .ok (.istore k, 2)) (hn : (k : Nat) < M.2.2.1) (kk : WW M d Q z (pc + 2) (xput lv k (.int x)) st w) : WW M d Q z pc lv (.int x :: st) w := by
  intro hM p l e s m args below meth c D cy A n0 ad0 C ad H locs ls X
  obtain ⟨hP, hD, hS, hl, hG⟩ := X
  exact lv_istore C.1 C.2.1 hdg hl hn (xput_xl ad lv k (.int x)) (fun ls' hl' => kk hM C ⟨hP, hD, hS, hl', hG⟩)
theorem ww_astore_n {k : Fin 4} {x : Nat} (hdg : decode M.2.1 pc = .ok (.astore_n k, 1)) (hn : (k : Nat) < M.2.2.1) (kk : WW M d Q z (pc + 1) (xput lv k (.ref x)) st w) : WW M d Q z pc lv (.ref x :: st) w := by
  intro hM p l e s m args below meth c D cy A n0 ad0 C ad H locs ls X
  obtain ⟨hP, hD, hS, hl, hG⟩ := X
  exact lv_astore_n C.1 C.2.1 hdg rfl hl hn (xput_xl ad lv k (.ref x)) (fun ls' hl' => kk hM C ⟨hP, hD, hS, hl', hG⟩)
theorem ww_astore {k : Nat} {x : Nat} (hdg : decode M.2.1 pc = .ok (.astore k, 2)) (hn : (k : Nat) < M.2.2.1) (kk : WW M d Q z (pc + 2) (xput lv k (.ref x)) st w) : WW M d Q z pc lv (.ref x :: st) w := by
  intro hM p l e s m args below meth c D cy A n0 ad0 C ad H locs ls X
  obtain ⟨hP, hD, hS, hl, hG⟩ := X
  exact lv_astore C.1 C.2.1 hdg hl hn (xput_xl ad lv k (.ref x)) (fun ls' hl' => kk hM C ⟨hP, hD, hS, hl', hG⟩)
theorem ww_lstore_n {k : Fin 4} {x : Int64} (hdg : decode M.2.1 pc = .ok (.lstore_n k, 1)) (hn : (k : Nat) + 1 < M.2.2.1) (kk : WW M d Q z (pc + 1) (xputl lv k (.long x)) st w) : WW M d Q z pc lv (.long x :: st) w := by
  intro hM p l e s m args below meth c D cy A n0 ad0 C ad H locs ls X
  obtain ⟨hP, hD, hS, hl, hG⟩ := X
  exact lv_lstore_n C.1 C.2.1 hdg rfl hl hn (xputl_xl ad lv k (.long x)) (fun ls' hl' => kk hM C ⟨hP, hD, hS, hl', hG⟩)
theorem ww_lstore {k : Nat} {x : Int64} (hdg : decode M.2.1 pc = .ok (.lstore k, 2)) (hn : (k : Nat) + 1 < M.2.2.1) (kk : WW M d Q z (pc + 2) (xputl lv k (.long x)) st w) : WW M d Q z pc lv (.long x :: st) w := by
  intro hM p l e s m args below meth c D cy A n0 ad0 C ad H locs ls X
  obtain ⟨hP, hD, hS, hl, hG⟩ := X
  exact lv_lstore C.1 C.2.1 hdg hl hn (xputl_xl ad lv k (.long x)) (fun ls' hl' => kk hM C ⟨hP, hD, hS, hl', hG⟩)
theorem ww_iinc {k : Nat} {n : Int} {x : Int32} (hdg : decode M.2.1 pc = .ok (.iinc k n, 3)) (h : xlk lv k = some (.int x)) (hn : (k : Nat) < M.2.2.1) (kk : WW M d Q z (pc + 3) (xput lv k (.int (x + xint n))) st w) : WW M d Q z pc lv st w := by
  intro hM p l e s m args below meth c D cy A n0 ad0 C ad H locs ls X
  obtain ⟨hP, hD, hS, hl, hG⟩ := X
  obtain ⟨j, hj⟩ := List.getElem?_of_mem (List.mem_map.mpr ⟨(k, Value.int x), xlk_mem h, rfl⟩ : (k, Value.int x) ∈ xl ad lv)
  exact lv_iinc C.1 C.2.1 hdg hl hj (by rw [xint_eq]) hn (xput_xl ad lv k (.int (x + xint n))) (fun ls' hl' => kk hM C ⟨hP, hD, hS, hl', hG⟩)
theorem ww_iadd {x y : Int32} (hdg : decode M.2.1 pc = .ok (.iadd, 1)) (kk : WW M d Q z (pc + 1) lv (.int (x + y) :: st) w) : WW M d Q z pc lv (.int y :: .int x :: st) w := by
  intro hM p l e s m args below meth c D cy A n0 ad0 C ad H locs ls X
  exact lv_iadd C.1 C.2.1 hdg (kk hM C X)
theorem ww_isub {x y : Int32} (hdg : decode M.2.1 pc = .ok (.isub, 1)) (kk : WW M d Q z (pc + 1) lv (.int (x - y) :: st) w) : WW M d Q z pc lv (.int y :: .int x :: st) w := by
  intro hM p l e s m args below meth c D cy A n0 ad0 C ad H locs ls X
  exact lv_isub C.1 C.2.1 hdg (kk hM C X)
theorem ww_imul {x y : Int32} (hdg : decode M.2.1 pc = .ok (.imul, 1)) (kk : WW M d Q z (pc + 1) lv (.int (x * y) :: st) w) : WW M d Q z pc lv (.int y :: .int x :: st) w := by
  intro hM p l e s m args below meth c D cy A n0 ad0 C ad H locs ls X
  exact lv_imul C.1 C.2.1 hdg (kk hM C X)
theorem ww_iand {x y : Int32} (hdg : decode M.2.1 pc = .ok (.iand, 1)) (kk : WW M d Q z (pc + 1) lv (.int (x &&& y) :: st) w) : WW M d Q z pc lv (.int y :: .int x :: st) w := by
  intro hM p l e s m args below meth c D cy A n0 ad0 C ad H locs ls X
  exact lv_iand C.1 C.2.1 hdg (kk hM C X)
theorem ww_ior {x y : Int32} (hdg : decode M.2.1 pc = .ok (.ior, 1)) (kk : WW M d Q z (pc + 1) lv (.int (x ||| y) :: st) w) : WW M d Q z pc lv (.int y :: .int x :: st) w := by
  intro hM p l e s m args below meth c D cy A n0 ad0 C ad H locs ls X
  exact lv_ior C.1 C.2.1 hdg (kk hM C X)
theorem ww_ixor {x y : Int32} (hdg : decode M.2.1 pc = .ok (.ixor, 1)) (kk : WW M d Q z (pc + 1) lv (.int (x ^^^ y) :: st) w) : WW M d Q z pc lv (.int y :: .int x :: st) w := by
  intro hM p l e s m args below meth c D cy A n0 ad0 C ad H locs ls X
  exact lv_ixor C.1 C.2.1 hdg (kk hM C X)
theorem ww_ishl {x y : Int32} (hdg : decode M.2.1 pc = .ok (.ishl, 1)) (kk : WW M d Q z (pc + 1) lv (.int (x <<< (y &&& 31)) :: st) w) : WW M d Q z pc lv (.int y :: .int x :: st) w := by
  intro hM p l e s m args below meth c D cy A n0 ad0 C ad H locs ls X
  exact lv_ishl C.1 C.2.1 hdg (kk hM C X)
theorem ww_ishr {x y : Int32} (hdg : decode M.2.1 pc = .ok (.ishr, 1)) (kk : WW M d Q z (pc + 1) lv (.int (x >>> (y &&& 31)) :: st) w) : WW M d Q z pc lv (.int y :: .int x :: st) w := by
  intro hM p l e s m args below meth c D cy A n0 ad0 C ad H locs ls X
  exact lv_ishr C.1 C.2.1 hdg (kk hM C X)
theorem ww_ineg {x : Int32} (hdg : decode M.2.1 pc = .ok (.ineg, 1)) (kk : WW M d Q z (pc + 1) lv (.int (-x) :: st) w) : WW M d Q z pc lv (.int x :: st) w := by
  intro hM p l e s m args below meth c D cy A n0 ad0 C ad H locs ls X
  exact lv_ineg C.1 C.2.1 hdg (kk hM C X)
theorem ww_idiv {x y : Int32} (hdg : decode M.2.1 pc = .ok (.idiv, 1)) (hne : ¬ y = 0) (kk : WW M d Q z (pc + 1) lv (.int (x / y) :: st) w) : WW M d Q z pc lv (.int y :: .int x :: st) w := by
  intro hM p l e s m args below meth c D cy A n0 ad0 C ad H locs ls X
  exact lv_idiv C.1 C.2.1 hdg hne (kk hM C X)
theorem ww_irem {x y : Int32} (hdg : decode M.2.1 pc = .ok (.irem, 1)) (hne : ¬ y = 0) (kk : WW M d Q z (pc + 1) lv (.int (x - x / y * y) :: st) w) : WW M d Q z pc lv (.int y :: .int x :: st) w := by
  intro hM p l e s m args below meth c D cy A n0 ad0 C ad H locs ls X
  exact lv_irem C.1 C.2.1 hdg hne (kk hM C X)
theorem ww_ladd {x y : Int64} (hdg : decode M.2.1 pc = .ok (.ladd, 1)) (kk : WW M d Q z (pc + 1) lv (.long (x + y) :: st) w) : WW M d Q z pc lv (.long y :: .long x :: st) w := by
  intro hM p l e s m args below meth c D cy A n0 ad0 C ad H locs ls X
  exact lv_ladd C.1 C.2.1 hdg (kk hM C X)
theorem ww_lmul {x y : Int64} (hdg : decode M.2.1 pc = .ok (.lmul, 1)) (kk : WW M d Q z (pc + 1) lv (.long (x * y) :: st) w) : WW M d Q z pc lv (.long y :: .long x :: st) w := by
  intro hM p l e s m args below meth c D cy A n0 ad0 C ad H locs ls X
  exact lv_lmul C.1 C.2.1 hdg (kk hM C X)
theorem ww_lor {x y : Int64} (hdg : decode M.2.1 pc = .ok (.lor, 1)) (kk : WW M d Q z (pc + 1) lv (.long (x ||| y) :: st) w) : WW M d Q z pc lv (.long y :: .long x :: st) w := by
  intro hM p l e s m args below meth c D cy A n0 ad0 C ad H locs ls X
  exact lv_lor C.1 C.2.1 hdg (kk hM C X)
theorem ww_lrem {x y : Int64} (hdg : decode M.2.1 pc = .ok (.lrem, 1)) (hne : ¬ y = 0) (kk : WW M d Q z (pc + 1) lv (.long (x - x / y * y) :: st) w) : WW M d Q z pc lv (.long y :: .long x :: st) w := by
  intro hM p l e s m args below meth c D cy A n0 ad0 C ad H locs ls X
  exact lv_lrem C.1 C.2.1 hdg hne (kk hM C X)
theorem ww_ldiv {x y : Int64} (hdg : decode M.2.1 pc = .ok (.ldiv, 1)) (hne : ¬ y = 0) (kk : WW M d Q z (pc + 1) lv (.long (x / y) :: st) w) : WW M d Q z pc lv (.long y :: .long x :: st) w := by
  intro hM p l e s m args below meth c D cy A n0 ad0 C ad H locs ls X
  exact lv_ldiv C.1 C.2.1 hdg hne (kk hM C X)
theorem ww_lshl {x : Int64} {y : Int32} (hdg : decode M.2.1 pc = .ok (.lshl, 1)) (kk : WW M d Q z (pc + 1) lv (.long (x <<< (y.toInt64 &&& 63)) :: st) w) : WW M d Q z pc lv (.int y :: .long x :: st) w := by
  intro hM p l e s m args below meth c D cy A n0 ad0 C ad H locs ls X
  exact lv_lshl C.1 C.2.1 hdg rfl (kk hM C X)
theorem ww_lcmp {x y : Int64} (hdg : decode M.2.1 pc = .ok (.lcmp, 1)) (kk : WW M d Q z (pc + 1) lv (.int (lg_cmp x y) :: st) w) : WW M d Q z pc lv (.long y :: .long x :: st) w := by
  intro hM p l e s m args below meth c D cy A n0 ad0 C ad H locs ls X
  exact W.lcmp C.1 C.2.1 hdg (kk hM C X)
theorem ww_i2l {x : Int32} (hdg : decode M.2.1 pc = .ok (.i2l, 1)) (kk : WW M d Q z (pc + 1) lv (.long x.toInt64 :: st) w) : WW M d Q z pc lv (.int x :: st) w := by
  intro hM p l e s m args below meth c D cy A n0 ad0 C ad H locs ls X
  exact lv_i2l C.1 C.2.1 hdg rfl (kk hM C X)
theorem ww_i2b {x : Int32} (hdg : decode M.2.1 pc = .ok (.i2b, 1)) (kk : WW M d Q z (pc + 1) lv (.int x.toInt8.toInt32 :: st) w) : WW M d Q z pc lv (.int x :: st) w := by
  intro hM p l e s m args below meth c D cy A n0 ad0 C ad H locs ls X
  exact lv_i2b C.1 C.2.1 hdg rfl (kk hM C X)
theorem ww_i2s {x : Int32} (hdg : decode M.2.1 pc = .ok (.i2s, 1)) (kk : WW M d Q z (pc + 1) lv (.int x.toInt16.toInt32 :: st) w) : WW M d Q z pc lv (.int x :: st) w := by
  intro hM p l e s m args below meth c D cy A n0 ad0 C ad H locs ls X
  exact lv_i2s C.1 C.2.1 hdg rfl (kk hM C X)
theorem ww_dup {v : Value} (hdg : decode M.2.1 pc = .ok (.dup, 1)) (hv : v.category = 1) (kk : WW M d Q z (pc + 1) lv (v :: v :: st) w) : WW M d Q z pc lv (v :: st) w := by
  intro hM p l e s m args below meth c D cy A n0 ad0 C ad H locs ls X
  exact lv_dup C.1 C.2.1 hdg ((xt_cat ad v).trans hv) (kk hM C X)
theorem ww_pop {v : Value} (hdg : decode M.2.1 pc = .ok (.pop, 1)) (hv : v.category = 1) (kk : WW M d Q z (pc + 1) lv st w) : WW M d Q z pc lv (v :: st) w := by
  intro hM p l e s m args below meth c D cy A n0 ad0 C ad H locs ls X
  exact lv_pop C.1 C.2.1 hdg ((xt_cat ad v).trans hv) (kk hM C X)
theorem ww_dup_x1 {v u : Value} (hdg : decode M.2.1 pc = .ok (.dup_x1, 1)) (hv : v.category = 1) (hu : u.category = 1) (kk : WW M d Q z (pc + 1) lv (v :: u :: v :: st) w) : WW M d Q z pc lv (v :: u :: st) w := by
  intro hM p l e s m args below meth c D cy A n0 ad0 C ad H locs ls X
  exact lv_dup_x1 C.1 C.2.1 hdg ((xt_cat ad v).trans hv) ((xt_cat ad u).trans hu) (kk hM C X)
theorem ww_dup2 {v u : Value} (hdg : decode M.2.1 pc = .ok (.dup2, 1)) (hv : v.category = 1) (hu : u.category = 1) (kk : WW M d Q z (pc + 1) lv (v :: u :: v :: u :: st) w) : WW M d Q z pc lv (v :: u :: st) w := by
  intro hM p l e s m args below meth c D cy A n0 ad0 C ad H locs ls X
  exact lv_dup2_11 C.1 C.2.1 hdg ((xt_cat ad v).trans hv) ((xt_cat ad u).trans hu) (kk hM C X)
theorem ww_goto {off : Int} {tgt : Nat} (hdg : decode M.2.1 pc = .ok (.goto off, 3)) (ht : (pc : Int) + off = (tgt : Int)) (kk : WW M d Q z tgt lv st w) : WW M d Q z pc lv st w := by
  intro hM p l e s m args below meth c D cy A n0 ad0 C ad H locs ls X
  exact lv_goto C.1 C.2.1 hdg ht (kk hM C X)
theorem ww_ldc {k : Nat} {v : Int32} (hdg : decode M.2.1 pc = .ok (.ldc k, 2)) (h : xkl M.2.2.2.2.2.2.2.1 k = some v) (kk : WW M d Q z (pc + 2) lv (.int v :: st) w) : WW M d Q z pc lv st w := by
  intro hM p l e s m args below meth c D cy A n0 ad0 C ad H locs ls X
  obtain ⟨hx, hb, hr, hlk, hml, hown, hts, hK, hA, hnm, hmt⟩ := id C
  exact lv_ldc hx hb hown (hts _ (xkl_c hM h)) hdg (kk hM C X)
theorem ww_ldc_w {k : Nat} {v : Int32} (hdg : decode M.2.1 pc = .ok (.ldc_w k, 3)) (h : xkl M.2.2.2.2.2.2.2.1 k = some v) (kk : WW M d Q z (pc + 3) lv (.int v :: st) w) : WW M d Q z pc lv st w := by
  intro hM p l e s m args below meth c D cy A n0 ad0 C ad H locs ls X
  obtain ⟨hx, hb, hr, hlk, hml, hown, hts, hK, hA, hnm, hmt⟩ := id C
  exact lv_ldcw hx hb hown (hts _ (xkl_c hM h)) hdg (kk hM C X)
theorem ww_ldc2_w {k : Nat} {v : Int64} (hdg : decode M.2.1 pc = .ok (.ldc2_w k, 3)) (h : xkl M.2.2.2.2.2.2.2.2 k = some v) (kk : WW M d Q z (pc + 3) lv (.long v :: st) w) : WW M d Q z pc lv st w := by
  intro hM p l e s m args below meth c D cy A n0 ad0 C ad H locs ls X
  obtain ⟨hx, hb, hr, hlk, hml, hown, hts, hK, hA, hnm, hmt⟩ := id C
  exact lv_ldc2 hx hb hown (hts _ (xkl_l hM h)) hdg (kk hM C X)
theorem ww_get {idx a ci k : Nat} {b : Bool} {fs : List Value} {v : Value} (hdg : decode M.2.1 pc = .ok (.getfield idx, 3)) (hf : xfl M.2.2.2.2.2.2.1 idx = some (ci, k, b)) (ha : w[a]? = some (.inr (ci, fs))) (hv : fs[k]? = some v) (kk : WW M d Q z (pc + 3) lv (v :: st) w) : WW M d Q z pc lv (.ref a :: st) w := by
  intro hM p l e s m args below meth c D cy A n0 ad0 C ad H locs ls X
  obtain ⟨hx, hb, hr, hlk, hml, hown, hts, hK, hA, hnm, hmt⟩ := id C
  obtain ⟨r, h1, h2, h3, -⟩ := okf_spec (xfl_ok hM hf)
  exact va_get (D := D) (ci := ci) (v := xt ad v) (C := r.1) (T := r.2.1) (N := r.2.2) hx hb hts (big_u ci r h1) hown hK X.1 a (xw_at ha) h1 k h2 (hts _ h3) (fun _ h9 => h9) (by rw [List.getElem?_map, hv]; rfl) hdg (kk hM C X)
theorem ww_put {idx a ci k : Nat} {fs : List Value} {x : Int32} (hdg : decode M.2.1 pc = .ok (.putfield idx, 3)) (hf : xfl M.2.2.2.2.2.2.1 idx = some (ci, k, true)) (ha : w[a]? = some (.inr (ci, fs))) (hl : k < fs.length) (kk : WW M d Q z (pc + 3) lv st (w.set a (.inr (ci, fs.set k (.int x))))) : WW M d Q z pc lv (.int x :: .ref a :: st) w := by
  intro hM p l e s m args below meth c D cy A n0 ad0 C ad H locs ls X
  obtain ⟨hx, hb, hr, hlk, hml, hown, hts, hK, hA, hnm, hmt⟩ := id C
  obtain ⟨r, h1, h2, h3, h4⟩ := okf_spec (xfl_ok hM hf)
  obtain ⟨hfin, hI⟩ := h4 rfl
  obtain ⟨hnd, ty0, hty⟩ := big_n ci r h1
  obtain ⟨hP, hD, hS, hlv, hG, hn0, hz⟩ := X
  have hE : (xw cy ad w).set a (ad a, .inr (ci, (fs.map (xt ad)).set k (.int x))) = xw cy ad (w.set a (.inr (ci, fs.set k (.int x)))) := by
    rw [← xw_set]
    simp [xe, List.map_set, xt]
  refine va_put (D := D) (ci := ci) (v := .int x) (ty := .int) (C := r.1) (T := r.2.1) (N := r.2.2) hx hb hts (big_u ci r h1) ty0 hty hnd hown hK hP hD hS a (xw_at ha) h1 k h2 (hts _ h3) (fun _ h9 => h9) hfin (by rw [hI]; decide +kernel) rfl rfl (by rw [List.length_map]; exact hl) hdg (fun H1 locs1 hP1 hD1 hS1 => ?_)
  rw [hE] at hP1 hD1
  exact kk hM C ⟨hP1, hD1, hS1, hlv, hG, by rw [List.length_set]; exact hn0, hz⟩
theorem ww_iald {a n : Nat} {f : Nat → Int32} {i : Int32} (hdg : decode M.2.1 pc = .ok (.iaload, 1)) (ha : w[a]? = some (.inl (0, n, .inl f))) (hin : vp_in i n) (kk : WW M d Q z (pc + 1) lv (.int (f i.toNatClampNeg) :: st) w) : WW M d Q z pc lv (.int i :: .ref a :: st) w := by
  intro hM p l e s m args below meth c D cy A n0 ad0 C ad H locs ls X
  obtain ⟨hx, hb, hr, hlk, hml, hown, hts, hK, hA, hnm, hmt⟩ := id C
  exact va_iald (D := D) hx hb hK X.1 a 0 (xw_at ha) rfl hin hdg (kk hM C X)
theorem ww_zald {a n : Nat} {f : Nat → Int32} {i : Int32} (hdg : decode M.2.1 pc = .ok (.baload, 1)) (ha : w[a]? = some (.inl (1, n, .inl f))) (hin : vp_in i n) (kk : WW M d Q z (pc + 1) lv (.int (f i.toNatClampNeg) :: st) w) : WW M d Q z pc lv (.int i :: .ref a :: st) w := by
  intro hM p l e s m args below meth c D cy A n0 ad0 C ad H locs ls X
  obtain ⟨hx, hb, hr, hlk, hml, hown, hts, hK, hA, hnm, hmt⟩ := id C
  exact va_zald (D := D) hx hb hK X.1 a 1 (xw_at ha) rfl hin hdg (kk hM C X)
theorem ww_iast {a n : Nat} {f : Nat → Int32} {i x : Int32} (hdg : decode M.2.1 pc = .ok (.iastore, 1)) (ha : w[a]? = some (.inl (0, n, .inl f))) (hin : vp_in i n) (kk : WW M d Q z (pc + 1) lv st (w.set a (.inl (0, n, .inl (upd f i.toNatClampNeg x))))) : WW M d Q z pc lv (.int x :: .int i :: .ref a :: st) w := by
  intro hM p l e s m args below meth c D cy A n0 ad0 C ad H locs ls X
  obtain ⟨hx, hb, hr, hlk, hml, hown, hts, hK, hA, hnm, hmt⟩ := id C
  obtain ⟨hP, hD, hS, hlv, hG, hn0, hz⟩ := X
  refine va_iast (D := D) hx hb hK hP hD hS a 0 (xw_at ha) rfl hin hdg (fun H1 locs1 hP1 hD1 hS1 => ?_)
  rw [show (xw cy ad w).set a (ad a, .inl (cy 0, n, .inl (upd f i.toNatClampNeg x))) = xw cy ad (w.set a (.inl (0, n, .inl (upd f i.toNatClampNeg x)))) from (xw_set (e := .inl (0, n, .inl (upd f i.toNatClampNeg x))))] at hP1 hD1
  exact kk hM C ⟨hP1, hD1, hS1, hlv, hG, by rw [List.length_set]; exact hn0, hz⟩
theorem ww_zast {a n : Nat} {f : Nat → Int32} {i x : Int32} (hdg : decode M.2.1 pc = .ok (.bastore, 1)) (ha : w[a]? = some (.inl (1, n, .inl f))) (hin : vp_in i n) (kk : WW M d Q z (pc + 1) lv st (w.set a (.inl (1, n, .inl (upd f i.toNatClampNeg (vp_nar .boolean x)))))) : WW M d Q z pc lv (.int x :: .int i :: .ref a :: st) w := by
  intro hM p l e s m args below meth c D cy A n0 ad0 C ad H locs ls X
  obtain ⟨hx, hb, hr, hlk, hml, hown, hts, hK, hA, hnm, hmt⟩ := id C
  obtain ⟨hP, hD, hS, hlv, hG, hn0, hz⟩ := X
  refine va_zast (D := D) hx hb hK hP hD hS a 1 (xw_at ha) rfl hin hdg (fun H1 locs1 hP1 hD1 hS1 => ?_)
  rw [show (xw cy ad w).set a (ad a, .inl (cy 1, n, .inl (upd f i.toNatClampNeg (vp_nar .boolean x)))) = xw cy ad (w.set a (.inl (1, n, .inl (upd f i.toNatClampNeg (vp_nar .boolean x))))) from (xw_set (e := .inl (1, n, .inl (upd f i.toNatClampNeg (vp_nar .boolean x)))))] at hP1 hD1
  exact kk hM C ⟨hP1, hD1, hS1, hlv, hG, by rw [List.length_set]; exact hn0, hz⟩
theorem ww_alen {a n : Nat} {f : Nat → Int32} (hdg : decode M.2.1 pc = .ok (.arraylength, 1)) (ha : w[a]? = some (.inl (0, n, .inl f))) (kk : WW M d Q z (pc + 1) lv (.int (OfNat.ofNat n) :: st) w) : WW M d Q z pc lv (.ref a :: st) w := by
  intro hM p l e s m args below meth c D cy A n0 ad0 C ad H locs ls X
  obtain ⟨hx, hb, hr, hlk, hml, hown, hts, hK, hA, hnm, hmt⟩ := id C
  exact va_alen (D := D) hx hb hK X.1 a 0 (xw_at ha) rfl rfl hdg (kk hM C X)
end
