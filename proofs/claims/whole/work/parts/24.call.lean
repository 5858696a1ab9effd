theorem kx_S.of {G : kx_G} {p : Program} {l : Launch} {e : Env} {R : Room} {s : State} {m : MethodId} {args : Array Value} {below : List Frame} {meth : Method} {c : Code} {T : State} {locs : List Loc} {cells slots : Nat} (X : Stand p l e R s m args below meth c T locs cells slots) (hA : ∀ q ∈ locs, G.1 ≤ q.base) : va_S (fun q => G.1 ≤ q) s.heap T.heap locs := by
  obtain ⟨-, h2, -, -, -, h6⟩ := X.same
  refine ⟨h2, fun q h1 hn => ?_, hA⟩
  have hq : s.heap[q]? = some s.heap[q] := Array.getElem?_eq_getElem h1
  obtain ⟨c', g1, g2, g3, g4⟩ := h6 q _ hq
  have g5 : T.heap[q]? = some c' := g1
  have g6 : c'.slots = (s.heap[q]).slots := Array.ext_getElem? (fun i => g4 i (fun hm => hn (hA _ hm)))
  have g7 : c' = s.heap[q] := by rw [g2, g6]
  rw [g5, g7]
  exact hq.symm
/-! ===== contracts, and calls that may come back or throw ===== -/
def kx_cd (M : kx_M) : Cond := if M.2.2.2.2 = [] then .code M.1 M.2.1 M.2.2.1 M.2.2.2.1 else .codeWith M.1 M.2.1 M.2.2.1 M.2.2.2.1 M.2.2.2.2
theorem kx_cd_spec {M : kx_M} {A : Array Value} {U : State} (hw : (kx_cd M).before A U = true) : ∃ (m : MethodId) (meth : Method) (c : Code), U.methodNamed? M.1 = some m ∧ U.vm.method? m = some meth ∧ meth.code = some c ∧ c.code = M.2.1 ∧ c.maxLocals = M.2.2.1 ∧
    c.exceptionTable.toList.map (fun h => (h.startPc, h.endPc, h.handlerPc, h.catchType)) = M.2.2.2.2 ∧ meth.sig.returnType = M.2.2.2.1 ∧ meth.locks = false ∧ parseMethodDescriptor M.1.desc = some meth.sig := by
  unfold kx_cd at hw
  by_cases e : M.2.2.2.2 = []
  · rw [if_pos e] at hw
    obtain ⟨mk, hn⟩ := Cond.code_named hw
    obtain ⟨meth, c, h1, h2, h3, h4, h5, h6, h7, h8⟩ := Cond.code_spec hn hw
    refine ⟨mk, meth, c, hn, h1, h2, h3, h4, ?_, h5, h6, h8⟩
    have h9 : c.exceptionTable.toList = [] := by simpa using h7
    rw [h9, e]
    rfl
  · rw [if_neg e] at hw
    exact Cond.codeWith_spec hw
def kx_rm (d mc ms : Nat) : Room := { frames := d + 12, cells := mc, slots := ms, locals := 100 * d + 400 }
def kx_P (G : kx_G) (as : List Value) (h : kx_H) : Array Value → State → Prop := fun v U => v = as.toArray ∧ kx_hp G h U.heap ∧ kx_K G U
/-- from the heap h, with these arguments, d calls deep at the most, M comes to an end with Q, and makes at the most mc cells of ms slots -/
def kx_c (G : kx_G) (l : Launch) (M : kx_M) (d mc ms : Nat) (as : List Value) (h : kx_H) (Q : Outcome → kx_H → Prop) : Prop :=
  MetFree l M.1 (headSpec [kx_cd M] (kx_rm d mc ms)) (kx_P G as h) (fun _ _ _ _ _ => True) (fun _ st o t => ∃ h' : kx_H, Q o h' ∧ kx_hp G h' t.heap ∧ ∃ L : List Loc, kx_E st t L mc ms ∧ ∀ q ∈ L, G.1 ≤ q.base)
theorem kx_in {G : kx_G} {l : Launch} {M : kx_M} {d mc ms : Nat} {as : List Value} {h : kx_H} {Q : Outcome → kx_H → Prop} (hy : plainName M.1.cls = true) (hlen : (lg_sl as).length ≤ M.2.2.1) (hst : l.stackTraces = false)
    (k : kx_w G l M d Q mc ms 0 (lv_args 0 as) [] h) : kx_c G l M d mc ms as h Q := by
  refine MetFree.of_bodyS (code := M.2.1) (maxLocals := M.2.2.1) (ret := M.2.2.2.1) hy ?_ ?_
  · intro args s m hp hn
    obtain ⟨m', meth, c, e0, e1, e2, e3, e4, -, e5, e6, -⟩ := kx_cd_spec (atoms_spec (ws := [kx_cd M]) hp _ List.mem_cons_self)
    cases hn.symm.trans e0
    exact ⟨meth, c, e1, e2, e3, e4, e5, e6⟩
  · intro p e s m args below meth c s₁ B hml hP _
    obtain ⟨rfl, hh, hK⟩ := hP
    have hh0 : s₁.heap = s.heap := by rw [B.state]; rfl
    obtain ⟨m', meth', c', e0, e1, e2, e3, e4, e5, e6, e7, e8⟩ := kx_cd_spec (atoms_spec (ws := [kx_cd M]) B.pre _ List.mem_cons_self)
    cases B.named.symm.trans e0
    cases B.method.symm.trans e1
    cases (Stand.of_body B).code.symm.trans e2
    have X : kx_X G l M d p (kx_rm d mc ms) s m meth c := ⟨B.exec, B.bytes, hml, findClass_of_methodNamed B.named, B.returns, B.notSynchronized, (name_of_methodNamed B.named B.method).1, e5, hK, by rw [hh.1]; exact hh.2.1, Nat.le_refl _, Nat.le_refl _, hst⟩
    have hl := lv_entry as hlen
    have w := k p e (kx_rm d mc ms) s m as.toArray below meth c X s.heap [] _ 0 0 hh va_S.rf hl (by simp [kx_rm]) (by simp [kx_rm])
    obtain ⟨t, a1, o, h', b1, b2, b3, b4, b5⟩ := w s₁ hh0 (Stand.of_body B)
    refine ⟨t, o, ?_, b1, b2, h', b3, b4, b5⟩
    rw [lg_entry_eq]
    exact a1
theorem kx_cc {G : kx_G} {l : Launch} {M : kx_M} {d mc ms : Nat} {as : List Value} {h : kx_H} {Q Q' : Outcome → kx_H → Prop} (hq : ∀ o h, Q' o h → Q o h) (k : kx_c G l M d mc ms as h Q') : kx_c G l M d mc ms as h Q := by
  intro p e ha hc hk s m args below hf happ hP hK
  obtain ⟨n, o, h1, h2, h3, h', h4, h5⟩ := k p e ha hc hk s m args below hf happ hP hK
  exact ⟨n, o, h1, h2, h3, h', hq o h' h4, h5⟩
section KXB
variable {p : Program} {l : Launch} {e : Env} {R : Room} {s : State} {m : MethodId} {args : Array Value} {below : List Frame} {meth : Method} {c : Code} {U : State} {Ls : List Loc} {c0 s0 : Nat}
/-- the callee's run, seen from the caller's frame -/
theorem kx_bk {G : kx_G} {N : kx_M} {d mc ms len : Nat} {as : List Value} {h : kx_H} {Q : Outcome → kx_H → Prop} {g : JFrame} {ig : Instr} {mk : MethodId} (hM : kx_c G l N d mc ms as h Q) (X : Stand p l e R s m args below meth c U Ls c0 s0)
    (hg : g.method = m) (hsize : g.locals.size = c.maxLocals) (hdg : decode c.code g.pc = .ok (ig, len)) (hW : 2 * g.monitorRoom + (g.stack.map fun v => v.category).sum ≤ 8) (hn : U.methodNamed? N.1 = some mk)
    (hfr : d + 1 + 12 ≤ R.frames) (hlo : 100 * (d + 1) + 400 ≤ R.locals) (hmx : N.2.2.1 ≤ 80) (hc0 : c0 + mc ≤ R.cells) (hs0 : s0 + ms ≤ R.slots) (hini : (Cond.initialized N.1.cls).before as.toArray U = true) (hcd : (kx_cd N).before as.toArray U = true) (hP : kx_hp G h U.heap ∧ kx_K G (U.calling g mk as.toArray)) :
    ∃ (o : Outcome) (T' : State) (L : List Loc) (h' : kx_H), Stand p l e R s m args below meth c T' (Ls ++ L) (c0 + mc) (s0 + ms) ∧ (∀ q ∈ L, G.1 ≤ q.base) ∧ Q o h' ∧ kx_hp G h' T'.heap ∧
      (∀ v, o = .returned v → Steps p.tables e below (doInvoke e (U.setTop g) [] mk as.toArray).1 (T'.setTop { g with pc := g.pc + len, stack := v.toList ++ g.stack })) ∧
      (∀ x, o = .threw x → Steps p.tables e below (doInvoke e (U.setTop g) [] mk as.toArray).1 ((T'.setTop g).pushFrame (.throwing x))) := by
  obtain ⟨mk', methN, cN, e0, e1, e2, e3, e4, -, -, -, -⟩ := kx_cd_spec hcd
  cases hn.symm.trans e0
  obtain ⟨kN, hkN, -⟩ := className_of_methodNamed hn
  have hinN : kN.init = .initialized := Cond.initialized_spec (findClass_of_methodNamed hn) hkN hini
  have hA : At U g.method c below := by rw [hg]; exact X.here
  have hroom : (U.calling g mk as.toArray).hasRoom e.platform (kx_rm d mc ms) = true := X.room_calling (g := g) (R' := kx_rm d mc ms) hsize e1 e2 (by have z1 : (kx_rm d mc ms).frames = d + 12 := rfl; omega) (by have z1 : (kx_rm d mc ms).locals = 100 * d + 400 := rfl; omega) hc0 hs0
  have happ : (headSpec [kx_cd N] (kx_rm d mc ms)).appliesLoose N.1 e.platform (U.calling g mk as.toArray) = true :=
    Spec.appliesLoose_calling (g := g) hA hdg hn hkN hinN hroom (atoms_intro (ws := [kx_cd N]) fun w hw => by rw [List.mem_singleton.mp hw]; exact hcd)
  obtain ⟨mid, hmid⟩ := hA.above
  have hframes : (U.setTop g).frames = (.java g :: mid) ++ below := by rw [State.frames_setTop' g hA.top, hmid]; rfl
  obtain ⟨o, t, hgo, -, hend, h', hQ, hheap, L, ⟨hWt, u1, u2, u3, u4, u5, u6⟩, hL⟩ := Steps.callFree hM p X.admits X.cas X.clock (acts := []) hframes happ ⟨rfl, by exact hP.1, hP.2⟩ trivial
  rw [State.frames_setTop' g hA.top] at hend
  have hvm : U.WarmedH t.vm := hWt
  have ht : t = ({ (U.calling g mk as.toArray).setFrames t.frames with heap := t.heap, slotsUsed := t.slotsUsed } : State).setVm t.vm := by
    have z : t = ({ t with vm := (U.calling g mk as.toArray).vm } : State).setVm t.vm := rfl
    rw [show ({ t with vm := (U.calling g mk as.toArray).vm } : State) = { (U.calling g mk as.toArray).setFrames t.frames with heap := t.heap, slotsUsed := t.slotsUsed } from u1] at z
    exact z
  obtain ⟨f0, hf0⟩ := Option.isSome_iff_exists.mp hA.top
  obtain ⟨fr, hfr0⟩ := State.topJava?_eq_some.mp hf0
  have hfr1 : (({ U with heap := t.heap, slotsUsed := t.slotsUsed } : State).setVm t.vm).frames = .java f0 :: fr := hfr0
  have hsame : U.sameButNew ({ U with heap := t.heap, slotsUsed := t.slotsUsed } : State) L mc ms := by
    refine ⟨?_, u2, u3, u4, u5, u6⟩
    obtain ⟨z, hz, -⟩ := State.frames_cons hfr0
    show ({ U with heap := t.heap, slotsUsed := t.slotsUsed } : State) = { U.setFrames U.frames with heap := t.heap, slotsUsed := t.slotsUsed }
    rw [State.setFrames_self hz]
  have X' : Stand p l e R s m args below meth c (({ U with heap := t.heap, slotsUsed := t.slotsUsed } : State).setVm t.vm) (Ls ++ L) (c0 + mc) (s0 + ms) :=
    ⟨X.admits, X.cas, X.clock, X.frames, X.room, X.hears, X.method, X.code, (X.here.setHeapUsed t.heap t.slotsUsed).setVm hvm.alike, X.tail, State.WarmedH.trans X.warmed hvm, X.limits, X.bytes, X.same.trans (hsame.setVm s.vm)⟩
  refine ⟨o, _, L, h', X', hL, hQ, hheap, ?_, ?_⟩
  · intro v ho
    subst ho
    obtain ⟨c2, i2, len2, hc2, hd2, hf2⟩ := hend
    have hcc : c2 = c := by
      have q1 : t.code? g.method = U.code? g.method := by rw [State.code?_eq, State.code?_eq, hvm.alike.method?]
      exact Option.some.inj (hc2.symm.trans (q1.trans hA.code))
    subst hcc
    have hl2 : len2 = len := by rw [hdg] at hd2; cases hd2; rfl
    subst hl2
    have key : t = (({ U with heap := t.heap, slotsUsed := t.slotsUsed } : State).setVm t.vm).setTop { g with pc := g.pc + len2, stack := v.toList ++ g.stack } := by
      refine ht.trans ?_
      rw [hf2, State.calling_eq hA.top, State.setFrames_setFrames, State.setTop_of_frames _ hfr1, hfr0]
      rfl
    rw [← key]
    exact hgo
  · intro x ho
    subst ho
    have hf2 : t.frames = .throwing x :: .java g :: U.frames.tail := hend
    have key : t = ((({ U with heap := t.heap, slotsUsed := t.slotsUsed } : State).setVm t.vm).setTop g).pushFrame (.throwing x) := by
      refine ht.trans ?_
      rw [hf2, State.calling_eq hA.top, State.setFrames_setFrames, State.pushFrame, State.frames_setTop _ hfr1, State.setTop_of_frames _ hfr1, State.setFrames_setFrames, hfr0]
      rfl
    rw [← key]
    exact hgo
end KXB
/-- in M, at pc, the exception x is on its way -/
def kx_t (G : kx_G) (l : Launch) (M : kx_M) (d : Nat) (Q : Outcome → kx_H → Prop) (kc ks pc : Nat) (lv : kx_L) (x : Nat) (h : kx_H) : Prop :=
  ∀ (p : Program) (e : Env) (R : Room) (s : State) (m : MethodId) (args : Array Value) (below : List Frame) (meth : Method) (c : Code), kx_X G l M d p R s m meth c →
  ∀ (H : Heap) (locs : List Loc) (ls : Array Slot) (st : List Value) (cells slots : Nat), kx_hp G h H → va_S (fun q => G.1 ≤ q) s.heap H locs → lv_has ls M.2.2.1 lv → cells + kc ≤ R.cells → slots + ks ≤ R.slots →
  ∀ T : State, T.heap = H → Stand p l e R s m args below meth c T locs cells slots → ∃ t : State, Steps p.tables e below ((T.setTop (F0 m pc ls st)).pushFrame (.throwing x)) t ∧ kx_Q G Q below s R t
/-- how the callee's end is taken up -/
def kx_k (G : kx_G) (l : Launch) (M : kx_M) (d : Nat) (Q : Outcome → kx_H → Prop) (kc ks pc : Nat) (lv : kx_L) (st : List Value) (o : Outcome) (h : kx_H) : Prop := match o with
  | .returned v => kx_w G l M d Q kc ks (pc + 3) lv (v.toList ++ st) h
  | .threw x => kx_t G l M d Q kc ks pc lv x h
section KXC
variable {G : kx_G} {l : Launch} {M N : kx_M} {d mc ms : Nat} {Q Qc : Outcome → kx_H → Prop} {kc ks pc idx b : Nat} {lv : kx_L} {st as : List Value} {h : kx_H}
theorem kx_step {p : Program} {e : Env} {R : Room} {s : State} {m : MethodId} {args : Array Value} {below : List Frame} {meth : Method} {c : Code} {H : Heap} {locs : List Loc} {ls : Array Slot} {cells slots : Nat} {T : State} {vm₁ : Vm} {mk : MethodId} {ig : Instr} {av : List Value}
    (X : kx_X G l M (d + 1) p R s m meth c) (hh : kx_hp G h H) (hS : va_S (fun q => G.1 ≤ q) s.heap H locs) (hl : lv_has ls M.2.2.1 lv) (q1 : cells + (kc + mc) ≤ R.cells) (q2 : slots + (ks + ms) ≤ R.slots) (hT : T.heap = H) (X₁ : Stand p l e R s m args below meth c (T.setVm vm₁) locs cells slots)
    (hM : kx_c G l N d mc ms av h Qc) (hk : ∀ o h', Qc o h' → kx_k G l M (d + 1) Q kc ks pc lv st o h') (hmx : N.2.2.1 ≤ 80) (hst : (st.map fun v => v.category).sum ≤ 8) (hdg : decode c.code pc = .ok (ig, 3)) (hn : s.methodNamed? N.1 = some mk) (hini : Cond.initialized N.1.cls ∈ kx_ws) (hcd : kx_cd N ∈ kx_ws)
    (hsteps : ∀ target, Steps p.tables e below (doInvoke e ((T.setVm vm₁).setTop (F0 m pc ls st)) [] mk av.toArray).1 target → Steps p.tables e below (T.setTop (F0 m pc ls (av.reverse ++ st))) target) : ∃ t : State, Steps p.tables e below (T.setTop (F0 m pc ls (av.reverse ++ st))) t ∧ kx_Q G Q below s R t := by
  have hX := X
  obtain ⟨hx, hb, hml, hown, -, -, -, -, hK, hbs, hfr, hlo, -⟩ := hX
  have hK1 : kx_K G (T.setVm vm₁) := kx_K.moved hK X₁.warmed (H := H) hT hS hbs
  have hK2 : kx_K G ((T.setVm vm₁).calling (F0 m pc ls st) mk av.toArray) := kx_K.calling hK1
  obtain ⟨o, T', L, h', X', hL, hQ, hp', hr, ht⟩ := kx_bk (g := F0 m pc ls st) hM X₁ rfl (by rw [hml]; exact hl.1) hdg (by show 2 * 0 + (st.map fun v => v.category).sum ≤ 8; omega) (X₁.named hn) hfr hlo hmx (by omega) (by omega) (hK1.2.1 _ hini _) (hK1.2.1 _ hcd _) ⟨by rw [show (T.setVm vm₁).heap = H from hT]; exact hh, hK2⟩
  have hS' : va_S (fun q => G.1 ≤ q) s.heap T'.heap (locs ++ L) := kx_S.of X' (fun q hq => by
    rcases List.mem_append.mp hq with z | z
    · exact hS.2.2 q z
    · exact hL q z)
  have hkk := hk o h' hQ
  cases o with
  | returned v =>
    obtain ⟨t, a1, a2⟩ := (hkk : kx_w G l M (d + 1) Q kc ks (pc + 3) lv (v.toList ++ st) h') p e R s m args below meth c X T'.heap (locs ++ L) ls (cells + mc) (slots + ms) hp' hS' hl (by omega) (by omega) T' rfl X'
    exact ⟨t, (hsteps _ (hr v rfl)).trans a1, a2⟩
  | threw x =>
    obtain ⟨t, a1, a2⟩ := (hkk : kx_t G l M (d + 1) Q kc ks pc lv x h') p e R s m args below meth c X T'.heap (locs ++ L) ls st (cells + mc) (slots + ms) hp' hS' hl (by omega) (by omega) T' rfl X'
    exact ⟨t, (hsteps _ (ht x rfl)).trans a1, a2⟩
end KXC
