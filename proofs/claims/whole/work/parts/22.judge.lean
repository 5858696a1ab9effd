/-! ===== the judgement: from here the method's walk comes to its end, with Q of what it answers or throws and of the heap ===== -/
/-- a method: its name, bytes, locals, answer's type, handlers -/
abbrev kx_M : Type := MethodName × ByteArray × Nat × Option FieldType × List (Nat × Nat × Nat × Nat)
def kx_E (st t : State) (L : List Loc) (k n : Nat) : Prop := st.WarmedH t.vm ∧ st.sameButNew ({ t with vm := st.vm } : State) L k n
def kx_Q (G : kx_G) (Q : Outcome → kx_H → Prop) (below : List Frame) (s : State) (R : Room) : State → Prop := fun t =>
  ∃ (o : Outcome) (h' : kx_H), t.status = .running ∧ Ended t below o ∧ Q o h' ∧ kx_hp G h' t.heap ∧ ∃ L : List Loc, kx_E s t L R.cells R.slots ∧ ∀ q ∈ L, G.1 ≤ q.base
/-- the walk of M, d calls deep at the most from here on -/
def kx_X (G : kx_G) (l : Launch) (M : kx_M) (d : Nat) (p : Program) (R : Room) (s : State) (m : MethodId) (meth : Method) (c : Code) : Prop :=
  p.tables.exec = Jvm.exec ∧ c.code = M.2.1 ∧ c.maxLocals = M.2.2.1 ∧ s.vm.findClass M.1.cls = some m.cls ∧ meth.sig.returnType = M.2.2.2.1 ∧ meth.locks = false ∧ meth.name = M.1.name ∧
  c.exceptionTable.toList.map (fun h => (h.startPc, h.endPc, h.handlerPc, h.catchType)) = M.2.2.2.2 ∧ kx_K G s ∧ G.1 ≤ s.heap.size ∧ d + 12 ≤ R.frames ∧ 100 * d + 400 ≤ R.locals ∧ l.stackTraces = false
def kx_w (G : kx_G) (l : Launch) (M : kx_M) (d : Nat) (Q : Outcome → kx_H → Prop) (kc ks pc : Nat) (lv : kx_L) (st : List Value) (h : kx_H) : Prop :=
  ∀ (p : Program) (e : Env) (R : Room) (s : State) (m : MethodId) (args : Array Value) (below : List Frame) (meth : Method) (c : Code), kx_X G l M d p R s m meth c →
  ∀ (H : Heap) (locs : List Loc) (ls : Array Slot) (cells slots : Nat), kx_hp G h H → va_S (fun q => G.1 ≤ q) s.heap H locs → lv_has ls M.2.2.1 lv → cells + kc ≤ R.cells → slots + ks ≤ R.slots →
  W p l e R s m args below meth c H locs cells slots (kx_Q G Q below s R) (F0 m pc ls st)
section KXW
variable {G : kx_G} {l : Launch} {M : kx_M} {d : Nat} {Q : Outcome → kx_H → Prop} {kc ks pc : Nat} {lv : kx_L} {st : List Value} {h : kx_H} {t : kx_T}
theorem kx_p1 {i : Instr} {len : Nat} {o : Nat × kx_L × List Value} (hd : decode M.2.1 pc = .ok (i, len)) (hs : kx_st i len pc M.2.2.1 lv st = some o) (k : kx_w G l M d Q kc ks o.1 o.2.1 o.2.2 h) : kx_w G l M d Q kc ks pc lv st h := by
  intro p e R s m args below meth c X H locs ls cells slots hh hS hl h1 h2
  exact kx_ps X.1 X.2.1 hd hs hl (fun ls' hl' => k p e R s m args below meth c X H locs ls' cells slots hh hS hl' h1 h2)
/-- n steps that touch neither the heap nor another method -/
theorem kx_rn (ht : kx_dec M.2.1 t) : ∀ (n : Nat) {pc : Nat} {lv : kx_L} {st : List Value} (pc' : Nat) (lv' : kx_L) (st' : List Value), kx_run t M.2.2.1 n pc lv st = some (pc', lv', st') → kx_w G l M d Q kc ks pc' lv' st' h → kx_w G l M d Q kc ks pc lv st h
  | 0, pc, lv, st, pc', lv', st', hr, k => by
    simp only [kx_run, Option.some.injEq, Prod.mk.injEq] at hr
    obtain ⟨rfl, rfl, rfl⟩ := hr
    exact k
  | n + 1, pc, lv, st, pc', lv', st', hr, k => by
    simp only [kx_run] at hr
    split at hr
    · rename_i i hi
      split at hr
      · rename_i o ho
        exact kx_p1 (kx_tk_dec hi ht) ho (kx_rn ht n pc' lv' st' hr k)
      · cases hr
    · cases hr
theorem kx_low {kc' ks' : Nat} (h1 : kc' ≤ kc) (h2 : ks' ≤ ks) (k : kx_w G l M d Q kc' ks' pc lv st h) : kx_w G l M d Q kc ks pc lv st h := by
  intro p e R s m args below meth c X H locs ls cells slots hh hS hl q1 q2
  exact k p e R s m args below meth c X H locs ls cells slots hh hS hl (by omega) (by omega)
theorem kx_con {Q' : Outcome → kx_H → Prop} (hq : ∀ o h, Q' o h → Q o h) (k : kx_w G l M d Q' kc ks pc lv st h) : kx_w G l M d Q kc ks pc lv st h := by
  intro p e R s m args below meth c X H locs ls cells slots hh hS hl q1 q2 T hT Y
  obtain ⟨t, a, o, h', b1, b2, b3, b4⟩ := k p e R s m args below meth c X H locs ls cells slots hh hS hl q1 q2 T hT Y
  exact ⟨t, a, o, h', b1, b2, hq o h' b3, b4⟩
theorem kx_loc {lv' : kx_L} (hs : ∀ q ∈ lv', q ∈ lv) (k : kx_w G l M d Q kc ks pc lv' st h) : kx_w G l M d Q kc ks pc lv st h := by
  intro p e R s m args below meth c X H locs ls cells slots hh hS hl q1 q2
  exact k p e R s m args below meth c X H locs ls cells slots hh hS ⟨hl.1, hl.2.1, fun q hq => hl.2.2 q (hs q hq)⟩ q1 q2
/-! branches -/
theorem kx_if {cd : ClassFile.Cond} {x : Int32} {off : Int} {tgt : Nat} (hd : decode M.2.1 pc = .ok (.ifCond cd off, 3)) (ht : (pc : Int) + off = (tgt : Int))
    (kt : (match cd with | .eq => x = 0 | .ne => ¬ x = 0 | .lt => x < 0 | .ge => 0 ≤ x | .gt => 0 < x | .le => x ≤ 0) → kx_w G l M d Q kc ks tgt lv st h)
    (kf : (match cd with | .eq => ¬ x = 0 | .ne => x = 0 | .lt => ¬ x < 0 | .ge => ¬ 0 ≤ x | .gt => ¬ 0 < x | .le => ¬ x ≤ 0) → kx_w G l M d Q kc ks (pc + 3) lv st h) : kx_w G l M d Q kc ks pc lv (.int x :: st) h := by
  intro p e R s m args below meth c X H locs ls cells slots hh hS hl q1 q2
  cases cd
  · exact lv_if_eq X.1 X.2.1 hd ht (fun z => kt z p e R s m args below meth c X H locs ls cells slots hh hS hl q1 q2) (fun z => kf z p e R s m args below meth c X H locs ls cells slots hh hS hl q1 q2)
  · exact lv_if_ne X.1 X.2.1 hd ht (fun z => kt z p e R s m args below meth c X H locs ls cells slots hh hS hl q1 q2) (fun z => kf z p e R s m args below meth c X H locs ls cells slots hh hS hl q1 q2)
  · exact lv_if_lt X.1 X.2.1 hd ht (fun z => kt z p e R s m args below meth c X H locs ls cells slots hh hS hl q1 q2) (fun z => kf z p e R s m args below meth c X H locs ls cells slots hh hS hl q1 q2)
  · exact lv_if_ge X.1 X.2.1 hd ht (fun z => kt z p e R s m args below meth c X H locs ls cells slots hh hS hl q1 q2) (fun z => kf z p e R s m args below meth c X H locs ls cells slots hh hS hl q1 q2)
  · exact lv_if_gt X.1 X.2.1 hd ht (fun z => kt z p e R s m args below meth c X H locs ls cells slots hh hS hl q1 q2) (fun z => kf z p e R s m args below meth c X H locs ls cells slots hh hS hl q1 q2)
  · exact lv_if_le X.1 X.2.1 hd ht (fun z => kt z p e R s m args below meth c X H locs ls cells slots hh hS hl q1 q2) (fun z => kf z p e R s m args below meth c X H locs ls cells slots hh hS hl q1 q2)
theorem kx_ic {cd : ClassFile.Cond} {x y : Int32} {off : Int} {tgt : Nat} (hd : decode M.2.1 pc = .ok (.if_icmp cd off, 3)) (ht : (pc : Int) + off = (tgt : Int))
    (kt : (match cd with | .eq => x = y | .ne => ¬ x = y | .lt => x < y | .ge => y ≤ x | .gt => y < x | .le => x ≤ y) → kx_w G l M d Q kc ks tgt lv st h)
    (kf : (match cd with | .eq => ¬ x = y | .ne => x = y | .lt => ¬ x < y | .ge => ¬ y ≤ x | .gt => ¬ y < x | .le => ¬ x ≤ y) → kx_w G l M d Q kc ks (pc + 3) lv st h) : kx_w G l M d Q kc ks pc lv (.int y :: .int x :: st) h := by
  intro p e R s m args below meth c X H locs ls cells slots hh hS hl q1 q2
  cases cd
  · exact lv_icmp_eq X.1 X.2.1 hd ht (fun z => kt z p e R s m args below meth c X H locs ls cells slots hh hS hl q1 q2) (fun z => kf z p e R s m args below meth c X H locs ls cells slots hh hS hl q1 q2)
  · exact lv_icmp_ne X.1 X.2.1 hd ht (fun z => kt z p e R s m args below meth c X H locs ls cells slots hh hS hl q1 q2) (fun z => kf z p e R s m args below meth c X H locs ls cells slots hh hS hl q1 q2)
  · exact lv_icmp_lt X.1 X.2.1 hd ht (fun z => kt z p e R s m args below meth c X H locs ls cells slots hh hS hl q1 q2) (fun z => kf z p e R s m args below meth c X H locs ls cells slots hh hS hl q1 q2)
  · exact lv_icmp_ge X.1 X.2.1 hd ht (fun z => kt z p e R s m args below meth c X H locs ls cells slots hh hS hl q1 q2) (fun z => kf z p e R s m args below meth c X H locs ls cells slots hh hS hl q1 q2)
  · exact lv_icmp_gt X.1 X.2.1 hd ht (fun z => kt z p e R s m args below meth c X H locs ls cells slots hh hS hl q1 q2) (fun z => kf z p e R s m args below meth c X H locs ls cells slots hh hS hl q1 q2)
  · exact lv_icmp_le X.1 X.2.1 hd ht (fun z => kt z p e R s m args below meth c X H locs ls cells slots hh hS hl q1 q2) (fun z => kf z p e R s m args below meth c X H locs ls cells slots hh hS hl q1 q2)
/-- null or not, as an optional address -/
theorem kx_nul {x : Option Nat} {off : Int} {tgt : Nat} (hd : decode M.2.1 pc = .ok (.ifnull off, 3)) (ht : (pc : Int) + off = (tgt : Int))
    (kt : x = none → kx_w G l M d Q kc ks tgt lv st h) (kf : ∀ a, x = some a → kx_w G l M d Q kc ks (pc + 3) lv st h) : kx_w G l M d Q kc ks pc lv (va_rf x :: st) h := by
  intro p e R s m args below meth c X H locs ls cells slots hh hS hl q1 q2
  cases x with
  | none => exact lv_ifnullN X.1 X.2.1 hd ht (kt rfl p e R s m args below meth c X H locs ls cells slots hh hS hl q1 q2)
  | some a => exact lv_ifnull X.1 X.2.1 hd (kf a rfl p e R s m args below meth c X H locs ls cells slots hh hS hl q1 q2)
theorem kx_nnl {x : Option Nat} {off : Int} {tgt : Nat} (hd : decode M.2.1 pc = .ok (.ifnonnull off, 3)) (ht : (pc : Int) + off = (tgt : Int))
    (kt : ∀ a, x = some a → kx_w G l M d Q kc ks tgt lv st h) (kf : x = none → kx_w G l M d Q kc ks (pc + 3) lv st h) : kx_w G l M d Q kc ks pc lv (va_rf x :: st) h := by
  intro p e R s m args below meth c X H locs ls cells slots hh hS hl q1 q2
  cases x with
  | none => exact lv_ifnonnullN X.1 X.2.1 hd (kf rfl p e R s m args below meth c X H locs ls cells slots hh hS hl q1 q2)
  | some a => exact lv_ifnonnull X.1 X.2.1 hd ht (kt a rfl p e R s m args below meth c X H locs ls cells slots hh hS hl q1 q2)
theorem kx_ane {x y : Option Nat} {off : Int} {tgt : Nat} (hd : decode M.2.1 pc = .ok (.if_acmp .ne off, 3)) (ht : (pc : Int) + off = (tgt : Int))
    (kt : ¬ x = y → kx_w G l M d Q kc ks tgt lv st h) (kf : x = y → kx_w G l M d Q kc ks (pc + 3) lv st h) : kx_w G l M d Q kc ks pc lv (va_rf y :: va_rf x :: st) h := by
  intro p e R s m args below meth c X H locs ls cells slots hh hS hl q1 q2
  exact lv_acmp_ne X.1 X.2.1 hd ht (fun z => kt z p e R s m args below meth c X H locs ls cells slots hh hS hl q1 q2) (fun z => kf z p e R s m args below meth c X H locs ls cells slots hh hS hl q1 q2)
theorem kx_aeq {x y : Option Nat} {off : Int} {tgt : Nat} (hd : decode M.2.1 pc = .ok (.if_acmp .eq off, 3)) (ht : (pc : Int) + off = (tgt : Int))
    (kt : x = y → kx_w G l M d Q kc ks tgt lv st h) (kf : ¬ x = y → kx_w G l M d Q kc ks (pc + 3) lv st h) : kx_w G l M d Q kc ks pc lv (va_rf y :: va_rf x :: st) h := by
  intro p e R s m args below meth c X H locs ls cells slots hh hS hl q1 q2
  exact lv_acmp_eq X.1 X.2.1 hd ht (fun z => kt z p e R s m args below meth c X H locs ls cells slots hh hS hl q1 q2) (fun z => kf z p e R s m args below meth c X H locs ls cells slots hh hS hl q1 q2)
/-! arithmetic that asks something -/
theorem kx_div {x y : Int32} (hd : decode M.2.1 pc = .ok (.idiv, 1)) (hne : ¬ y = 0) (k : kx_w G l M d Q kc ks (pc + 1) lv (.int (x / y) :: st) h) : kx_w G l M d Q kc ks pc lv (.int y :: .int x :: st) h := by
  intro p e R s m args below meth c X H locs ls cells slots hh hS hl q1 q2
  exact lv_idiv X.1 X.2.1 hd hne (k p e R s m args below meth c X H locs ls cells slots hh hS hl q1 q2)
theorem kx_lcmp {x y : Int64} (hd : decode M.2.1 pc = .ok (.lcmp, 1)) (k : kx_w G l M d Q kc ks (pc + 1) lv (.int (lg_cmp x y) :: st) h) : kx_w G l M d Q kc ks pc lv (.long y :: .long x :: st) h := by
  intro p e R s m args below meth c X H locs ls cells slots hh hS hl q1 q2
  exact W.lcmp X.1 X.2.1 hd (k p e R s m args below meth c X H locs ls cells slots hh hS hl q1 q2)
theorem kx_dcmp {x y : UInt64} {op : CmpOp} (hd : decode M.2.1 pc = .ok (.dcmp op, 1)) (k : kx_w G l M d Q kc ks (pc + 1) lv (.int (Op.cmpValue (FP.dcmp x y) op) :: st) h) : kx_w G l M d Q kc ks pc lv (.double y :: .double x :: st) h := by
  intro p e R s m args below meth c X H locs ls cells slots hh hS hl q1 q2
  exact lv_dcmp X.1 X.2.1 hd (k p e R s m args below meth c X H locs ls cells slots hh hS hl q1 q2)
/-! fields -/
theorem kx_getf {a ci k N idx : Nat} {C : String} {T : u_T} {fs : List Value} {v : Value} (hcl : kx_cl[ci]? = some (C, T, N)) (hin : ∀ w ∈ u_ws C T N, w ∈ kx_ws) (hk : k < N) (hln : Cond.fieldLink M.1.cls idx (T k).1 (T k).2.1 (T k).2.2.1 ∈ kx_ws)
    (hd : decode M.2.1 pc = .ok (.getfield idx, 3)) (hc : kx_is G h a (.inr (ci, fs))) (hv : fs[k]? = some v) (kk : kx_w G l M d Q kc ks (pc + 3) lv (v :: st) h) : kx_w G l M d Q kc ks pc lv (.ref a :: st) h := by
  intro p e R s m args below meth c X H locs ls cells slots hh hS hl q1 q2
  obtain ⟨hx, hb, hml, hown, -, -, -, -, hK, -⟩ := id X
  exact va_get (D := G.2.1) (cl := kx_cl) (ws := [(a, kx_cv G (.inr (ci, fs)))]) (Ts := kx_ws) hx hb (fun w hw => hK.2.1 w hw args) hin hown hK.1 (hh.P hc) 0 rfl hcl k hk (hK.2.1 _ hln args) (fun _ z => z) hv hd (kk p e R s m args below meth c X H locs ls cells slots hh hS hl q1 q2)
theorem kx_getn {a ci k N idx : Nat} {C host : String} {T : u_T} {fs : List Value} {v : Value} (hcl : kx_cl[ci]? = some (C, T, N)) (hin : ∀ w ∈ u_ws C T N, w ∈ kx_ws) (hk : k < N) (hln : Cond.fieldLinkNest M.1.cls idx (T k).1 (T k).2.1 (T k).2.2.1 host ∈ kx_ws)
    (hd : decode M.2.1 pc = .ok (.getfield idx, 3)) (hc : kx_is G h a (.inr (ci, fs))) (hv : fs[k]? = some v) (kk : kx_w G l M d Q kc ks (pc + 3) lv (v :: st) h) : kx_w G l M d Q kc ks pc lv (.ref a :: st) h := by
  intro p e R s m args below meth c X H locs ls cells slots hh hS hl q1 q2
  obtain ⟨hx, hb, hml, hown, -, -, -, -, hK, -⟩ := id X
  exact va_getN (D := G.2.1) (cl := kx_cl) (ws := [(a, kx_cv G (.inr (ci, fs)))]) (Ts := kx_ws) hx hb (fun w hw => hK.2.1 w hw args) hin hown hK.1 (hh.P hc) 0 rfl hcl k hk (hK.2.1 _ hln args) (fun _ z => z) hv hd (kk p e R s m args below meth c X H locs ls cells slots hh hS hl q1 q2)
end KXW
