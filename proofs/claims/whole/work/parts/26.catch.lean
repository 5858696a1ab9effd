/-! ===== a handler of the method's own, whose class may have to be linked first ===== -/
section KXF
variable {Q : Handler → Pre} {E : CtlPost} {e : Env} {d : Bool} {acts : List Action} {s : State} {f : JFrame} {a : Addr}
theorem kx_lnk {x : ExceptionTableEntry} {t : List ExceptionTableEntry} {k : ClassId} {cell : Cell} (hx : covers x f.pc = true) (h0 : x.catchType ≠ 0) (hl : s.vm.ClassLinks e.platform f.method.cls x.catchType k) (hcell : s.heap[a]? = some cell) (hobj : ∀ z, cell.vm ≠ .statics z)
    (hk : ∃ z, s.vm.classes[cell.cls]? = some z) (hc : ∃ z, s.vm.classes[k]? = some z) :
    wp (findHandler.go f a (x :: t)) Q E e d acts s ↔ (if s.vm.assignable cell.cls k = true then Q (.found x.handlerPc) d acts (s.setVm (s.vm.noted f.method.cls x.catchType (.cls k))) else wp (findHandler.go f a t) Q E e d acts (s.setVm (s.vm.noted f.method.cls x.catchType (.cls k)))) := by
  simp only [covers] at hx
  obtain ⟨g1, g2⟩ := (resolveClass_links e.toSetting hl).op (op := VmOp.resolveClass f.method.cls x.catchType) rfl
  have hal : s.vm.Alike (s.vm.noted f.method.cls x.catchType (.cls k)) := (Vm.Alike.refl s.vm).noted _ _ _
  obtain ⟨z1, hz1⟩ := hk
  obtain ⟨z2, hz2⟩ := hc
  obtain ⟨y1, hy1, -⟩ := hal.2.2 _ _ hz1
  obtain ⟨y2, hy2, -⟩ := hal.2.2 _ _ hz2
  have has : (s.vm.noted f.method.cls x.catchType (.cls k)).assignable cell.cls k = s.vm.assignable cell.cls k := by rw [hal.assignable]
  cases hv : s.vm.assignable cell.cls k <;>
    (rw [hv] at has; simp [findHandler.go, hx, h0, g1, g2, hcell, hobj, hy1, hy2, has, VmOp.dirties, VmOp.acts])
/-- a row of the table that doesn't take the exception -/
def kx_pas (pl : Platform) (s : State) (D : ClassId) (pc : Nat) (tc : ClassId) (y : ExceptionTableEntry) : Prop := covers y pc = false ∨ (y.catchType ≠ 0 ∧ ∃ k, s.vm.ClassLinks pl D y.catchType k ∧ s.vm.assignable tc k = false)
theorem kx_srch {s0 : State} {cell : Cell} (hobj : ∀ z, cell.vm ≠ .statics z) (hk0 : ∃ z, s0.vm.classes[cell.cls]? = some z) (x : ExceptionTableEntry) (suf : List ExceptionTableEntry) (hx : covers x f.pc = true) (h0 : x.catchType ≠ 0) {k : ClassId} (hl : s0.vm.ClassLinks e.platform f.method.cls x.catchType k) (hy : s0.vm.assignable cell.cls k = true) :
    ∀ (pre : List ExceptionTableEntry) (S : State), s0.WarmedH S.vm → S.heap[a]? = some cell → (∀ y ∈ pre, kx_pas e.platform s0 f.method.cls f.pc cell.cls y) →
      ∃ vm' : Vm, s0.WarmedH vm' ∧ ∀ (Q : Handler → Pre) (E : CtlPost) (d : Bool) (acts : List Action), wp (findHandler.go f a (pre ++ x :: suf)) Q E e d acts S ↔ Q (.found x.handlerPc) d acts (S.setVm vm') := by
  obtain ⟨k0, hk0⟩ := hk0
  intro pre
  induction pre with
  | nil =>
    intro S hW hcell _
    obtain ⟨z0, hz0, -⟩ := hW.alike.2.2 _ _ hk0
    obtain ⟨dk, _, _, kt, hd, _, _, _, _, hkt, _, hopen⟩ := hl.here
    obtain ⟨z1, hz1, -⟩ := hW.alike.2.2 _ _ hkt
    refine ⟨_, hW.noted hd hopen (State.rightAt_cls hl), fun Q E d acts => ?_⟩
    rw [List.nil_append, kx_lnk hx h0 (hW.classLinks hl) hcell hobj ⟨z0, hz0⟩ ⟨z1, hz1⟩, if_pos (by rw [hW.alike.assignable]; exact hy)]
  | cons y ys ih =>
    intro S hW hcell hp
    obtain ⟨z0, hz0, -⟩ := hW.alike.2.2 _ _ hk0
    have hp' : ∀ z ∈ ys, kx_pas e.platform s0 f.method.cls f.pc cell.cls z := fun z hz => hp z (List.mem_cons_of_mem _ hz)
    cases hcov : covers y f.pc with
    | false =>
      obtain ⟨vm', hW', hq⟩ := ih S hW hcell hp'
      refine ⟨vm', hW', fun Q E d acts => ?_⟩
      rw [List.cons_append, W.findHandler_go_skip hcov]
      exact hq Q E d acts
    | true =>
      rcases hp y List.mem_cons_self with hn | ⟨hn0, k1, hl1, hno⟩
      · rw [hn] at hcov; cases hcov
      · obtain ⟨dk, _, _, kt, hd, _, _, _, _, hkt, _, hopen⟩ := hl1.here
        obtain ⟨z1, hz1, -⟩ := hW.alike.2.2 _ _ hkt
        obtain ⟨vm', hW', hq⟩ := ih (S.setVm (S.vm.noted f.method.cls y.catchType (.cls k1))) (hW.noted hd hopen (State.rightAt_cls hl1)) hcell hp'
        refine ⟨vm', hW', fun Q E d acts => ?_⟩
        rw [List.cons_append, kx_lnk hcov hn0 (hW.classLinks hl1) hcell hobj ⟨z0, hz0⟩ ⟨z1, hz1⟩, if_neg (by rw [hW.alike.assignable, hno]; decide)]
        exact hq Q E d acts
theorem kx_stc {r : List Frame} {pc : Nat} {vm' : Vm} (hf : ∀ (Q : Handler → Pre) (E : CtlPost) (d : Bool) (acts : List Action), wp (findHandler f a) Q E e d acts s ↔ Q (.found pc) d acts (s.setVm vm')) :
    (stepThrowing e s a (.java f :: r)).1 = (s.setVm vm').setFrames (.java { f with pc := pc, stack := [.ref a] } :: r) := by
  simp only [stepThrowing, searchFrame, vmDo]
  generalize hr : Sem.go _ e false [] s = res
  obtain ⟨as, rfl, ha⟩ := Sem.eq_ok_of hr (a := Handler.found pc) (s' := s.setVm vm') (acts' := []) (by simp [hf _ _ _ _])
  rfl
end KXF
section KXG
variable {G : kx_G} {l : Launch} {M : kx_M} {d : Nat} {Q : Outcome → kx_H → Prop} {kc ks pc x : Nat} {lv : kx_L} {h : kx_H}
/-- caught by the row whose place in the table is j; those ahead of it don't take it -/
theorem kx_cat {ci NN j : Nat} {E nm : String} {T0 : u_T} {fs : List Value} {q : Nat × Nat × Nat × Nat} (hcl : kx_cl[ci]? = some (E, T0, NN)) (hxc : kx_is G h x (.inr (ci, fs))) (hj : M.2.2.2.2[j]? = some q) (hq1 : q.1 ≤ pc ∧ pc < q.2.1) (hq0 : q.2.2.2 ≠ 0) (hln : Cond.classLink M.1.cls q.2.2.2 nm ∈ kx_ws) (hca : Cond.castable E nm ∈ kx_ws)
    (hpre : ∀ i, i < j → ∀ z, M.2.2.2.2[i]? = some z → ¬ (z.1 ≤ pc ∧ pc < z.2.1) ∨ (z.2.2.2 ≠ 0 ∧ ∃ n9, Cond.classLink M.1.cls z.2.2.2 n9 ∈ kx_ws ∧ Cond.not (.castable E n9) ∈ kx_ws)) (kk : kx_w G l M d Q kc ks q.2.2.1 lv [.ref x] h) : kx_t G l M d Q kc ks pc lv x h := by
  intro p e R s m args below meth c X H locs ls st cells slots hh hS hl q1 q2 T hT Y
  have hX := X
  obtain ⟨hx, hb, hml, hown, -, hlk, -, htab, hK, -⟩ := hX
  have hpl : e.platform.magicAccessors = ({} : Platform).magicAccessors := by rw [Y.admits.platform]
  obtain ⟨r', hr', cell, g1, g2, g3, -⟩ := hh.at hxc
  have hcE : s.vm.findClass E = some cell.cls := by rw [g2]; exact (hK.1.1 ci _ hcl).2.1
  have hobj : ∀ z, cell.vm ≠ .statics z := fun z hz => by rw [g3] at hz; cases hz
  have hk0 : ∃ z, s.vm.classes[cell.cls]? = some z := Vm.classAt_of_findClass hcE
  have hlenT : M.2.2.2.2.length = c.exceptionTable.toList.length := by rw [← htab, List.length_map]
  have hjl : j < c.exceptionTable.toList.length := by rw [← hlenT]; exact (List.getElem?_eq_some_iff.mp hj).1
  have hent : ∀ i (hi : i < c.exceptionTable.toList.length), M.2.2.2.2[i]? = some ((c.exceptionTable.toList[i]).startPc, (c.exceptionTable.toList[i]).endPc, (c.exceptionTable.toList[i]).handlerPc, (c.exceptionTable.toList[i]).catchType) := by
    intro i hi
    rw [← htab, List.getElem?_map, List.getElem?_eq_getElem hi]
    rfl
  have hq : q = ((c.exceptionTable.toList[j]).startPc, (c.exceptionTable.toList[j]).endPc, (c.exceptionTable.toList[j]).handlerPc, (c.exceptionTable.toList[j]).catchType) := Option.some.inj (hj.symm.trans (hent j hjl))
  have hsplit : c.exceptionTable.toList = c.exceptionTable.toList.take j ++ c.exceptionTable.toList[j] :: c.exceptionTable.toList.drop (j + 1) := by
    rw [List.getElem_cons_drop, List.take_append_drop]
  generalize hxe : c.exceptionTable.toList[j] = xe at hq hsplit
  subst hq
  obtain ⟨k5, hk5, hl5⟩ := Cond.classLink_spec hown (hK.2.1 _ hln args) e.platform hpl
  obtain ⟨c3, c4, hc3, hc4, hasg⟩ := Cond.castable_spec (hK.2.1 _ hca args)
  cases Option.some.inj (hc3.symm.trans hcE)
  cases Option.some.inj (hc4.symm.trans hk5)
  have hcovx : covers xe pc = true := by simp only [covers, Bool.and_eq_true, decide_eq_true_eq]; exact hq1
  have hpas : ∀ y ∈ c.exceptionTable.toList.take j, kx_pas e.platform s m.cls pc cell.cls y := by
    intro y hy
    obtain ⟨i, hi, rfl⟩ := List.getElem_of_mem hy
    rw [List.length_take] at hi
    have hil : i < c.exceptionTable.toList.length := by omega
    rw [List.getElem_take]
    rcases hpre i (by omega) _ (hent i hil) with hn | ⟨hn0, n9, hw1, hw2⟩
    · refine Or.inl ?_
      have hn' : ¬ ((c.exceptionTable.toList[i]).startPc ≤ pc ∧ pc < (c.exceptionTable.toList[i]).endPc) := hn
      simp only [covers, Bool.and_eq_false_iff, decide_eq_false_iff_not]
      omega
    · obtain ⟨k6, hk6, hl6⟩ := Cond.classLink_spec hown (hK.2.1 _ hw1 args) e.platform hpl
      obtain ⟨a8, b8, z1, z2, z3⟩ := va_Nc.of (hK.2.1 _ hw2 args)
      cases Option.some.inj (z1.symm.trans hcE)
      cases Option.some.inj (z2.symm.trans hk6)
      exact Or.inr ⟨hn0, _, hl6, z3⟩
  obtain ⟨vm', hW', hfd⟩ := kx_srch (e := e) (f := F0 m pc ls st) (a := x) (s0 := s) hobj hk0 xe _ hcovx hq0 hl5 hasg (c.exceptionTable.toList.take j) ((T.setTop (F0 m pc ls st)).pushFrame (.throwing x)) (by exact Y.warmed) (by show T.heap[x]? = some cell; rw [hT]; exact g1) hpas
  have hgo : ∀ target, Steps p.tables e below ((T.setVm vm').setTop (F0 m xe.handlerPc ls [.ref x])) target → Steps p.tables e below ((T.setTop (F0 m pc ls st)).pushFrame (.throwing x)) target := by
    intro target hrest
    have hA : At T (F0 m pc ls st).method c below := Y.here
    obtain ⟨w1, w2⟩ := hA.throwing x
    refine Steps.head w1 w2 ?_
    rw [stepThread_throwing (frames_entered hA.top _), kx_stc (s := (T.setTop (F0 m pc ls st)).pushFrame (.throwing x)) (pc := xe.handlerPc) (vm' := vm') (fun Q E d acts => by
      rw [W.findHandler_eq (meth := meth) (code := c) (by exact Y.method') Y.code, hsplit]
      exact hfd Q E d acts)]
    obtain ⟨g0, hg0⟩ := Option.isSome_iff_exists.mp hA.top
    obtain ⟨r, hr⟩ := State.topJava?_eq_some.mp hg0
    have hr2 : (T.setVm vm').frames = .java g0 :: r := hr
    rw [State.setTop_of_frames _ hr2] at hrest
    have e9 : (((T.setTop (F0 m pc ls st)).pushFrame (.throwing x)).setVm vm').setFrames (.java { (F0 m pc ls st) with pc := xe.handlerPc, stack := [.ref x] } :: T.frames.tail) = (T.setVm vm').setFrames (.java (F0 m xe.handlerPc ls [.ref x]) :: r) := by
      rw [hr]
      show ((((T.setTop (F0 m pc ls st)).pushFrame (.throwing x)).setVm vm')).setFrames _ = _
      rw [State.pushFrame, State.setTop_of_frames _ hr]
      show (((T.setFrames _).setFrames _).setVm vm').setFrames _ = _
      rw [State.setFrames_setFrames]
      show ((T.setVm vm').setFrames _).setFrames _ = _
      rw [State.setFrames_setFrames]
      rfl
    rw [e9]
    exact hrest
  obtain ⟨t, a1, a2⟩ := kk p e R s m args below meth c X H locs ls cells slots hh hS hl q1 q2 (T.setVm vm') hT (Y.noted hW')
  exact ⟨t, hgo t a1, a2⟩
end KXG
