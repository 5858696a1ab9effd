/-! ===== instructions that touch neither the heap nor another method ===== -/
abbrev kx_L : Type := List (Nat × Value)
abbrev kx_O : Type := Option (Nat × kx_L × List Value)
def kx_lk : kx_L → Nat → Option Value
  | [], _ => none
  | q :: r, k => if q.1 = k then some q.2 else kx_lk r k
/-- the locals are kept in the order of their places -/
def kx_ins : kx_L → Nat → Value → kx_L
  | [], i, v => [(i, v)]
  | q :: r, i, v => if i < q.1 then (i, v) :: q :: r else q :: kx_ins r i v
theorem kx_ins_mem : ∀ {lv : kx_L} {i : Nat} {v : Value} {q : Nat × Value}, q ∈ kx_ins lv i v → q ∈ (i, v) :: lv
  | [], i, v, q, h => by simpa [kx_ins] using h
  | z :: r, i, v, q, h => by
    simp only [kx_ins] at h
    by_cases e : i < z.1
    · rw [if_pos e] at h
      exact h
    · rw [if_neg e] at h
      rcases List.mem_cons.mp h with g | g
      · rw [g]; simp
      · rcases List.mem_cons.mp (kx_ins_mem g) with y | y
        · rw [y]; simp
        · exact List.mem_cons_of_mem _ (List.mem_cons_of_mem _ y)
theorem kx_ins_has {ls : Array Slot} {nL i : Nat} {v : Value} {lv : kx_L} (h : lv_has ls nL ((i, v) :: lv)) : lv_has ls nL (kx_ins lv i v) := ⟨h.1, h.2.1, fun q hq => h.2.2 q (kx_ins_mem hq)⟩
def kx_f1 (lv : kx_L) (i : Nat) : kx_L := lv.filter (fun q => !(q.1 == i) && !(q.1 + 1 == i && q.2.category == 2))
def kx_f2 (lv : kx_L) (i : Nat) : kx_L := lv.filter (fun q => !(q.1 == i) && (!(q.1 == i + 1) && !(q.1 + 1 == i && q.2.category == 2)))
def kx_s1 (lv : kx_L) (i : Nat) (v : Value) : kx_L := kx_ins (kx_f1 lv i) i v
def kx_s2 (lv : kx_L) (i : Nat) (v : Value) : kx_L := kx_ins (kx_f2 lv i) i v
theorem kx_lk_has {ls : Array Slot} {nL : Nat} : ∀ {lv : kx_L} {k : Nat} {v : Value}, kx_lk lv k = some v → lv_has ls nL lv → ls[k]? = some (.val v)
  | [], k, v, h, _ => by simp [kx_lk] at h
  | q :: r, k, v, h, hl => by
    simp only [kx_lk] at h
    by_cases e : q.1 = k
    · rw [if_pos e] at h
      cases h
      rw [← e]
      exact hl.2.2 q List.mem_cons_self
    · rw [if_neg e] at h
      exact kx_lk_has h ⟨hl.1, hl.2.1, fun z hz => hl.2.2 z (List.mem_cons_of_mem _ hz)⟩
/-- a constant -/
def kx_pu (len n pc : Nat) (lv : kx_L) (st : List Value) (v : Value) : kx_O := if len = n then some (pc + n, lv, v :: st) else none
theorem kx_pu_inv {len n pc : Nat} {lv : kx_L} {st : List Value} {v : Value} {o} (h : kx_pu len n pc lv st v = some o) : len = n ∧ o = (pc + n, lv, v :: st) := by
  unfold kx_pu at h
  by_cases e : len = n
  · rw [if_pos e] at h; exact ⟨e, (Option.some.inj h).symm⟩
  · rw [if_neg e] at h; cases h
/-- a local is read: of a kind (0 int, 1 reference, 2 long, 3 double) -/
def kx_kd (v : Value) : Nat := match v with
  | .int _ => 0
  | .ref _ => 1
  | .null => 1
  | .long _ => 2
  | .double _ => 3
  | _ => 9
def kx_ld (len n pc : Nat) (lv : kx_L) (st : List Value) (kd k : Nat) : kx_O := match kx_lk lv k with
  | some v => if len = n ∧ kx_kd v = kd then some (pc + n, lv, v :: st) else none
  | none => none
theorem kx_ld_inv {len n pc kd k : Nat} {lv : kx_L} {st : List Value} {o} (h : kx_ld len n pc lv st kd k = some o) : ∃ v, kx_lk lv k = some v ∧ len = n ∧ kx_kd v = kd ∧ o = (pc + n, lv, v :: st) := by
  unfold kx_ld at h
  split at h
  · rename_i v hv
    by_cases e : len = n ∧ kx_kd v = kd
    · rw [if_pos e] at h; exact ⟨v, hv, e.1, e.2, (Option.some.inj h).symm⟩
    · rw [if_neg e] at h; cases h
  · cases h
/-- a local is written -/
def kx_sv (len n pc nL : Nat) (lv : kx_L) (st : List Value) (kd k : Nat) : kx_O := match st with
  | v :: r => if len = n ∧ kx_kd v = kd ∧ k < nL then some (pc + n, kx_s1 lv k v, r) else none
  | [] => none
theorem kx_sv_inv {len n pc nL kd k : Nat} {lv : kx_L} {st : List Value} {o} (h : kx_sv len n pc nL lv st kd k = some o) : ∃ v r, st = v :: r ∧ len = n ∧ kx_kd v = kd ∧ k < nL ∧ o = (pc + n, kx_s1 lv k v, r) := by
  unfold kx_sv at h
  split at h
  · rename_i v r
    by_cases e : len = n ∧ kx_kd v = kd ∧ k < nL
    · rw [if_pos e] at h; exact ⟨v, r, rfl, e.1, e.2.1, e.2.2, (Option.some.inj h).symm⟩
    · rw [if_neg e] at h; cases h
  · cases h
def kx_sw (len n pc nL : Nat) (lv : kx_L) (st : List Value) (kd k : Nat) : kx_O := match st with
  | v :: r => if len = n ∧ kx_kd v = kd ∧ k + 1 < nL then some (pc + n, kx_s2 lv k v, r) else none
  | [] => none
theorem kx_sw_inv {len n pc nL kd k : Nat} {lv : kx_L} {st : List Value} {o} (h : kx_sw len n pc nL lv st kd k = some o) : ∃ v r, st = v :: r ∧ len = n ∧ kx_kd v = kd ∧ k + 1 < nL ∧ o = (pc + n, kx_s2 lv k v, r) := by
  unfold kx_sw at h
  split at h
  · rename_i v r
    by_cases e : len = n ∧ kx_kd v = kd ∧ k + 1 < nL
    · rw [if_pos e] at h; exact ⟨v, r, rfl, e.1, e.2.1, e.2.2, (Option.some.inj h).symm⟩
    · rw [if_neg e] at h; cases h
  · cases h
def kx_i2 (len pc : Nat) (lv : kx_L) (st : List Value) (f : Int32 → Int32 → Int32) : kx_O := match st with
  | .int y :: .int x :: r => if len = 1 then some (pc + 1, lv, .int (f x y) :: r) else none
  | _ => none
theorem kx_i2_inv {len pc : Nat} {lv : kx_L} {st : List Value} {f : Int32 → Int32 → Int32} {o} (h : kx_i2 len pc lv st f = some o) : ∃ x y r, st = .int y :: .int x :: r ∧ len = 1 ∧ o = (pc + 1, lv, .int (f x y) :: r) := by
  unfold kx_i2 at h
  split at h
  · rename_i y x r
    by_cases e : len = 1
    · rw [if_pos e] at h; exact ⟨x, y, r, rfl, e, (Option.some.inj h).symm⟩
    · rw [if_neg e] at h; cases h
  · cases h
def kx_l2 (len pc : Nat) (lv : kx_L) (st : List Value) (f : Int64 → Int64 → Int64) : kx_O := match st with
  | .long y :: .long x :: r => if len = 1 then some (pc + 1, lv, .long (f x y) :: r) else none
  | _ => none
theorem kx_l2_inv {len pc : Nat} {lv : kx_L} {st : List Value} {f : Int64 → Int64 → Int64} {o} (h : kx_l2 len pc lv st f = some o) : ∃ x y r, st = .long y :: .long x :: r ∧ len = 1 ∧ o = (pc + 1, lv, .long (f x y) :: r) := by
  unfold kx_l2 at h
  split at h
  · rename_i y x r
    by_cases e : len = 1
    · rw [if_pos e] at h; exact ⟨x, y, r, rfl, e, (Option.some.inj h).symm⟩
    · rw [if_neg e] at h; cases h
  · cases h
/-- one int above is turned -/
def kx_i1 (len pc : Nat) (lv : kx_L) (st : List Value) (f : Int32 → Value) : kx_O := match st with
  | .int x :: r => if len = 1 then some (pc + 1, lv, f x :: r) else none
  | _ => none
theorem kx_i1_inv {len pc : Nat} {lv : kx_L} {st : List Value} {f : Int32 → Value} {o} (h : kx_i1 len pc lv st f = some o) : ∃ x r, st = .int x :: r ∧ len = 1 ∧ o = (pc + 1, lv, f x :: r) := by
  unfold kx_i1 at h
  split at h
  · rename_i x r
    by_cases e : len = 1
    · rw [if_pos e] at h; exact ⟨x, r, rfl, e, (Option.some.inj h).symm⟩
    · rw [if_neg e] at h; cases h
  · cases h
/-- one value of one word above is turned into several -/
def kx_v1 (len pc : Nat) (lv : kx_L) (st : List Value) (f : Value → List Value → List Value) : kx_O := match st with
  | v :: r => if len = 1 ∧ v.category = 1 then some (pc + 1, lv, f v r) else none
  | [] => none
theorem kx_v1_inv {len pc : Nat} {lv : kx_L} {st : List Value} {f : Value → List Value → List Value} {o} (h : kx_v1 len pc lv st f = some o) : ∃ v r, st = v :: r ∧ len = 1 ∧ v.category = 1 ∧ o = (pc + 1, lv, f v r) := by
  unfold kx_v1 at h
  split at h
  · rename_i v r
    by_cases e : len = 1 ∧ v.category = 1
    · rw [if_pos e] at h; exact ⟨v, r, rfl, e.1, e.2, (Option.some.inj h).symm⟩
    · rw [if_neg e] at h; cases h
  · cases h
def kx_v2 (len pc : Nat) (lv : kx_L) (st : List Value) (f : Value → Value → List Value → List Value) : kx_O := match st with
  | v :: w :: r => if len = 1 ∧ v.category = 1 ∧ w.category = 1 then some (pc + 1, lv, f v w r) else none
  | _ => none
theorem kx_v2_inv {len pc : Nat} {lv : kx_L} {st : List Value} {f : Value → Value → List Value → List Value} {o} (h : kx_v2 len pc lv st f = some o) : ∃ v w r, st = v :: w :: r ∧ len = 1 ∧ v.category = 1 ∧ w.category = 1 ∧ o = (pc + 1, lv, f v w r) := by
  unfold kx_v2 at h
  split at h
  · rename_i v w r
    by_cases e : len = 1 ∧ v.category = 1 ∧ w.category = 1
    · rw [if_pos e] at h; exact ⟨v, w, r, rfl, e.1, e.2.1, e.2.2, (Option.some.inj h).symm⟩
    · rw [if_neg e] at h; cases h
  · cases h
def kx_go1 (len pc : Nat) (lv : kx_L) (st : List Value) (off : Int) : kx_O := if len = 3 ∧ 0 ≤ (pc : Int) + off then some (((pc : Int) + off).toNat, lv, st) else none
theorem kx_go1_inv {len pc : Nat} {lv : kx_L} {st : List Value} {off : Int} {o} (h : kx_go1 len pc lv st off = some o) : len = 3 ∧ (pc : Int) + off = ((((pc : Int) + off).toNat : Nat) : Int) ∧ o = (((pc : Int) + off).toNat, lv, st) := by
  unfold kx_go1 at h
  by_cases e : len = 3 ∧ 0 ≤ (pc : Int) + off
  · rw [if_pos e] at h; exact ⟨e.1, (Int.toNat_of_nonneg e.2).symm, (Option.some.inj h).symm⟩
  · rw [if_neg e] at h; cases h
def kx_inc (len pc nL : Nat) (lv : kx_L) (st : List Value) (k : Nat) (n : Int) : kx_O := match kx_lk lv k with
  | some (.int x) => if len = 3 ∧ k < nL then some (pc + 3, kx_s1 lv k (.int (x + Int32.ofInt n)), st) else none
  | _ => none
theorem kx_inc_inv {len pc nL k : Nat} {lv : kx_L} {st : List Value} {n : Int} {o} (h : kx_inc len pc nL lv st k n = some o) : ∃ x, kx_lk lv k = some (.int x) ∧ len = 3 ∧ k < nL ∧ o = (pc + 3, kx_s1 lv k (.int (x + Int32.ofInt n)), st) := by
  unfold kx_inc at h
  split at h
  · rename_i x hv
    by_cases e : len = 3 ∧ k < nL
    · rw [if_pos e] at h; exact ⟨x, hv, e.1, e.2, (Option.some.inj h).symm⟩
    · rw [if_neg e] at h; cases h
  · cases h
/-- one step -/
def kx_st (i : Instr) (len pc nL : Nat) (lv : kx_L) (st : List Value) : kx_O := match i with
  | .iconst n => kx_pu len 1 pc lv st (.int (Int32.ofInt n))
  | .bipush n => kx_pu len 2 pc lv st (.int (Int8.ofInt n).toInt32)
  | .sipush n => kx_pu len 3 pc lv st (.int (Int16.ofInt n).toInt32)
  | .lconst n => kx_pu len 1 pc lv st (.long (Int64.ofNat (n : Nat)))
  | .aconst_null => kx_pu len 1 pc lv st .null
  | .iload_n k => kx_ld len 1 pc lv st 0 k
  | .iload k => kx_ld len 2 pc lv st 0 k
  | .aload_n k => kx_ld len 1 pc lv st 1 k
  | .aload k => kx_ld len 2 pc lv st 1 k
  | .lload_n k => kx_ld len 1 pc lv st 2 k
  | .lload k => kx_ld len 2 pc lv st 2 k
  | .dload_n k => kx_ld len 1 pc lv st 3 k
  | .dload k => kx_ld len 2 pc lv st 3 k
  | .istore_n k => kx_sv len 1 pc nL lv st 0 k
  | .istore k => kx_sv len 2 pc nL lv st 0 k
  | .astore_n k => kx_sv len 1 pc nL lv st 1 k
  | .astore k => kx_sv len 2 pc nL lv st 1 k
  | .lstore_n k => kx_sw len 1 pc nL lv st 2 k
  | .lstore k => kx_sw len 2 pc nL lv st 2 k
  | .dstore_n k => kx_sw len 1 pc nL lv st 3 k
  | .dstore k => kx_sw len 2 pc nL lv st 3 k
  | .iinc k n => kx_inc len pc nL lv st k n
  | .iadd => kx_i2 len pc lv st (fun x y => x + y)
  | .isub => kx_i2 len pc lv st (fun x y => x - y)
  | .imul => kx_i2 len pc lv st (fun x y => x * y)
  | .iand => kx_i2 len pc lv st (fun x y => x &&& y)
  | .ior => kx_i2 len pc lv st (fun x y => x ||| y)
  | .ixor => kx_i2 len pc lv st (fun x y => x ^^^ y)
  | .ishl => kx_i2 len pc lv st (fun x y => x <<< (y &&& 31))
  | .ishr => kx_i2 len pc lv st (fun x y => x >>> (y &&& 31))
  | .ladd => kx_l2 len pc lv st (fun x y => x + y)
  | .ineg => kx_i1 len pc lv st (fun x => .int (-x))
  | .i2l => kx_i1 len pc lv st (fun x => .long x.toInt64)
  | .i2d => kx_i1 len pc lv st (fun x => .double (FP.i2d x))
  | .dup => kx_v1 len pc lv st (fun v r => v :: v :: r)
  | .pop => kx_v1 len pc lv st (fun _ r => r)
  | .dup_x1 => kx_v2 len pc lv st (fun v w r => v :: w :: v :: r)
  | .dup2 => kx_v2 len pc lv st (fun v w r => v :: w :: v :: w :: r)
  | .goto off => kx_go1 len pc lv st off
  | _ => none
section KXP
variable {p : Program} {l : Launch} {e : Env} {R : Room} {s : State} {m : MethodId} {args : Array Value} {below : List Frame} {meth : Method} {c : Code} {H : Heap} {locs : List Loc} {cells slots : Nat} {Q : State → Prop}
variable {cc : ByteArray} {ls : Array Slot}
theorem kx_kd0 {v : Value} (h : kx_kd v = 0) : ∃ x, v = .int x := by cases v <;> simp [kx_kd] at h; exact ⟨_, rfl⟩
theorem kx_kd1 {v : Value} (h : kx_kd v = 1) : v = .null ∨ ∃ x, v = .ref x := by cases v <;> simp [kx_kd] at h <;> simp
theorem kx_kd2 {v : Value} (h : kx_kd v = 2) : ∃ x, v = .long x := by cases v <;> simp [kx_kd] at h; exact ⟨_, rfl⟩
theorem kx_kd3 {v : Value} (h : kx_kd v = 3) : ∃ x, v = .double x := by cases v <;> simp [kx_kd] at h; exact ⟨_, rfl⟩
set_option maxHeartbeats 4000000 in
theorem kx_ps {i : Instr} {len pc nL : Nat} {lv : kx_L} {st : List Value} {o : Nat × kx_L × List Value} (hx : p.tables.exec = Jvm.exec) (hb : c.code = cc) (hd : decode cc pc = .ok (i, len)) (hs : kx_st i len pc nL lv st = some o) (hl : lv_has ls nL lv)
    (kk : ∀ ls' : Array Slot, lv_has ls' nL o.2.1 → W p l e R s m args below meth c H locs cells slots Q (F0 m o.1 ls' o.2.2)) : W p l e R s m args below meth c H locs cells slots Q (F0 m pc ls st) := by
  cases i with
  | iconst n => obtain ⟨rfl, rfl⟩ := kx_pu_inv hs; exact lv_iconst hx hb hd rfl (kk ls hl)
  | bipush n => obtain ⟨rfl, rfl⟩ := kx_pu_inv hs; exact lv_bipush hx hb hd rfl (kk ls hl)
  | sipush n => obtain ⟨rfl, rfl⟩ := kx_pu_inv hs; exact lv_sipush hx hb hd rfl (kk ls hl)
  | lconst n => obtain ⟨rfl, rfl⟩ := kx_pu_inv hs; exact lv_lconst hx hb hd rfl (kk ls hl)
  | aconst_null => obtain ⟨rfl, rfl⟩ := kx_pu_inv hs; exact lv_null hx hb hd (kk ls hl)
  | iload_n k => obtain ⟨v, h1, rfl, h2, rfl⟩ := kx_ld_inv hs; obtain ⟨x, rfl⟩ := kx_kd0 h2; exact lv_iload_n hx hb hd rfl (kx_lk_has h1 hl) (kk ls hl)
  | iload k => obtain ⟨v, h1, rfl, h2, rfl⟩ := kx_ld_inv hs; obtain ⟨x, rfl⟩ := kx_kd0 h2; exact lv_iload hx hb hd (kx_lk_has h1 hl) (kk ls hl)
  | aload_n k =>
    obtain ⟨v, h1, rfl, h2, rfl⟩ := kx_ld_inv hs
    rcases kx_kd1 h2 with rfl | ⟨x, rfl⟩
    · exact lv_aload_nN hx hb hd rfl (kx_lk_has h1 hl) (kk ls hl)
    · exact lv_aload_n hx hb hd rfl (kx_lk_has h1 hl) (kk ls hl)
  | aload k =>
    obtain ⟨v, h1, rfl, h2, rfl⟩ := kx_ld_inv hs
    rcases kx_kd1 h2 with rfl | ⟨x, rfl⟩
    · exact lv_aloadN hx hb hd (kx_lk_has h1 hl) (kk ls hl)
    · exact lv_aload hx hb hd (kx_lk_has h1 hl) (kk ls hl)
  | lload_n k => obtain ⟨v, h1, rfl, h2, rfl⟩ := kx_ld_inv hs; obtain ⟨x, rfl⟩ := kx_kd2 h2; exact lv_lload_n hx hb hd rfl (kx_lk_has h1 hl) (kk ls hl)
  | lload k => obtain ⟨v, h1, rfl, h2, rfl⟩ := kx_ld_inv hs; obtain ⟨x, rfl⟩ := kx_kd2 h2; exact lv_lload hx hb hd (kx_lk_has h1 hl) (kk ls hl)
  | dload_n k => obtain ⟨v, h1, rfl, h2, rfl⟩ := kx_ld_inv hs; obtain ⟨x, rfl⟩ := kx_kd3 h2; exact lv_dload_n hx hb hd rfl (kx_lk_has h1 hl) (kk ls hl)
  | dload k => obtain ⟨v, h1, rfl, h2, rfl⟩ := kx_ld_inv hs; obtain ⟨x, rfl⟩ := kx_kd3 h2; exact lv_dload hx hb hd (kx_lk_has h1 hl) (kk ls hl)
  | istore_n k => obtain ⟨v, r, rfl, rfl, h2, h3, rfl⟩ := kx_sv_inv hs; obtain ⟨x, rfl⟩ := kx_kd0 h2; exact lv_istore_n hx hb hd rfl hl h3 rfl (fun ls' hl' => kk ls' (kx_ins_has hl'))
  | istore k => obtain ⟨v, r, rfl, rfl, h2, h3, rfl⟩ := kx_sv_inv hs; obtain ⟨x, rfl⟩ := kx_kd0 h2; exact lv_istore hx hb hd hl h3 rfl (fun ls' hl' => kk ls' (kx_ins_has hl'))
  | astore_n k =>
    obtain ⟨v, r, rfl, rfl, h2, h3, rfl⟩ := kx_sv_inv hs
    rcases kx_kd1 h2 with rfl | ⟨x, rfl⟩
    · exact lv_astore_nN hx hb hd rfl hl h3 rfl (fun ls' hl' => kk ls' (kx_ins_has hl'))
    · exact lv_astore_n hx hb hd rfl hl h3 rfl (fun ls' hl' => kk ls' (kx_ins_has hl'))
  | astore k =>
    obtain ⟨v, r, rfl, rfl, h2, h3, rfl⟩ := kx_sv_inv hs
    rcases kx_kd1 h2 with rfl | ⟨x, rfl⟩
    · exact lv_astoreN hx hb hd hl h3 rfl (fun ls' hl' => kk ls' (kx_ins_has hl'))
    · exact lv_astore hx hb hd hl h3 rfl (fun ls' hl' => kk ls' (kx_ins_has hl'))
  | lstore_n k => obtain ⟨v, r, rfl, rfl, h2, h3, rfl⟩ := kx_sw_inv hs; obtain ⟨x, rfl⟩ := kx_kd2 h2; exact lv_lstore_n hx hb hd rfl hl h3 rfl (fun ls' hl' => kk ls' (kx_ins_has hl'))
  | lstore k => obtain ⟨v, r, rfl, rfl, h2, h3, rfl⟩ := kx_sw_inv hs; obtain ⟨x, rfl⟩ := kx_kd2 h2; exact lv_lstore hx hb hd hl h3 rfl (fun ls' hl' => kk ls' (kx_ins_has hl'))
  | dstore_n k => obtain ⟨v, r, rfl, rfl, h2, h3, rfl⟩ := kx_sw_inv hs; obtain ⟨x, rfl⟩ := kx_kd3 h2; exact lv_dstore_n hx hb hd rfl hl h3 rfl (fun ls' hl' => kk ls' (kx_ins_has hl'))
  | dstore k => obtain ⟨v, r, rfl, rfl, h2, h3, rfl⟩ := kx_sw_inv hs; obtain ⟨x, rfl⟩ := kx_kd3 h2; exact lv_dstore hx hb hd hl h3 rfl (fun ls' hl' => kk ls' (kx_ins_has hl'))
  | iadd => obtain ⟨x, y, r, rfl, rfl, rfl⟩ := kx_i2_inv hs; exact lv_iadd hx hb hd (kk ls hl)
  | isub => obtain ⟨x, y, r, rfl, rfl, rfl⟩ := kx_i2_inv hs; exact lv_isub hx hb hd (kk ls hl)
  | imul => obtain ⟨x, y, r, rfl, rfl, rfl⟩ := kx_i2_inv hs; exact lv_imul hx hb hd (kk ls hl)
  | iand => obtain ⟨x, y, r, rfl, rfl, rfl⟩ := kx_i2_inv hs; exact lv_iand hx hb hd (kk ls hl)
  | ior => obtain ⟨x, y, r, rfl, rfl, rfl⟩ := kx_i2_inv hs; exact lv_ior hx hb hd (kk ls hl)
  | ixor => obtain ⟨x, y, r, rfl, rfl, rfl⟩ := kx_i2_inv hs; exact lv_ixor hx hb hd (kk ls hl)
  | ishl => obtain ⟨x, y, r, rfl, rfl, rfl⟩ := kx_i2_inv hs; exact lv_ishl hx hb hd (kk ls hl)
  | ishr => obtain ⟨x, y, r, rfl, rfl, rfl⟩ := kx_i2_inv hs; exact lv_ishr hx hb hd (kk ls hl)
  | ladd => obtain ⟨x, y, r, rfl, rfl, rfl⟩ := kx_l2_inv hs; exact lv_ladd hx hb hd (kk ls hl)
  | ineg => obtain ⟨x, r, rfl, rfl, rfl⟩ := kx_i1_inv hs; exact lv_ineg hx hb hd (kk ls hl)
  | i2l => obtain ⟨x, r, rfl, rfl, rfl⟩ := kx_i1_inv hs; exact lv_i2l hx hb hd rfl (kk ls hl)
  | i2d => obtain ⟨x, r, rfl, rfl, rfl⟩ := kx_i1_inv hs; exact lv_i2d hx hb hd (kk ls hl)
  | dup => obtain ⟨v, r, rfl, rfl, h2, rfl⟩ := kx_v1_inv hs; exact lv_dup hx hb hd h2 (kk ls hl)
  | pop => obtain ⟨v, r, rfl, rfl, h2, rfl⟩ := kx_v1_inv hs; exact lv_pop hx hb hd h2 (kk ls hl)
  | dup_x1 => obtain ⟨v, w, r, rfl, rfl, h2, h3, rfl⟩ := kx_v2_inv hs; exact lv_dup_x1 hx hb hd h2 h3 (kk ls hl)
  | dup2 => obtain ⟨v, w, r, rfl, rfl, h2, h3, rfl⟩ := kx_v2_inv hs; exact lv_dup2_11 hx hb hd h2 h3 (kk ls hl)
  | goto off => obtain ⟨rfl, h2, rfl⟩ := kx_go1_inv hs; exact lv_goto hx hb hd h2 (kk ls hl)
  | iinc k n =>
    obtain ⟨x, h1, rfl, h3, rfl⟩ := kx_inc_inv hs
    obtain ⟨q, hq⟩ : ∃ q : Nat, lv[q]? = some (k, .int x) := by
      clear hs hl kk
      induction lv with
      | nil => simp [kx_lk] at h1
      | cons z r ih =>
        simp only [kx_lk] at h1
        by_cases e9 : z.1 = k
        · rw [if_pos e9] at h1
          refine ⟨0, ?_⟩
          obtain ⟨z1, z2⟩ := z
          cases h1
          cases e9
          rfl
        · rw [if_neg e9] at h1
          obtain ⟨q, hq⟩ := ih h1
          exact ⟨q + 1, by simpa using hq⟩
    exact lv_iinc hx hb hd hl hq rfl h3 rfl (fun ls' hl' => kk ls' (kx_ins_has hl'))
  | _ => simp [kx_st] at hs
end KXP
/-- the method's instructions, by their places -/
abbrev kx_T : Type := List (Nat × Instr × Nat)
def kx_tk : kx_T → Nat → Option (Instr × Nat)
  | [], _ => none
  | q :: r, k => if q.1 = k then some q.2 else kx_tk r k
def kx_dec (cc : ByteArray) (t : kx_T) : Prop := ∀ q ∈ t, decode cc q.1 = .ok q.2
theorem kx_tk_dec {cc : ByteArray} : ∀ {t : kx_T} {pc : Nat} {i : Instr × Nat}, kx_tk t pc = some i → kx_dec cc t → decode cc pc = .ok i
  | [], pc, i, h, _ => by simp [kx_tk] at h
  | q :: r, pc, i, h, hd => by
    simp only [kx_tk] at h
    by_cases e : q.1 = pc
    · rw [if_pos e] at h
      cases h
      rw [← e]
      exact hd q List.mem_cons_self
    · rw [if_neg e] at h
      exact kx_tk_dec h (fun z hz => hd z (List.mem_cons_of_mem _ hz))
def kx_run (t : kx_T) (nL : Nat) : Nat → Nat → kx_L → List Value → kx_O
  | 0, pc, lv, st => some (pc, lv, st)
  | n + 1, pc, lv, st => match kx_tk t pc with
    | some i => match kx_st i.1 i.2 pc nL lv st with
      | some o => kx_run t nL n o.1 o.2.1 o.2.2
      | none => none
    | none => none
