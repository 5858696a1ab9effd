/-! ===== the calls' own instructions ===== -/
section KXV
variable {G : kx_G} {l : Launch} {M N : kx_M} {d mc ms : Nat} {Q Qc : Outcome → kx_H → Prop} {kc ks pc idx b : Nat} {lv : kx_L} {st sk as : List Value} {h : kx_H}
/-- what a call of N out of M asks of the tables, whatever the instruction -/
def kx_ok (N : kx_M) (n : Nat) : Prop := Cond.initialized N.1.cls ∈ kx_ws ∧ kx_cd N ∈ kx_ws ∧ N.2.2.1 ≤ 80 ∧ (N.1.cls ≠ "java/lang/invoke/MethodHandle" ∧ N.1.cls ≠ "java/lang/invoke/VarHandle") ∧ (parseMethodDescriptor N.1.desc).map (fun z => z.parameters.length) = some n
theorem kx_ok.len {n : Nat} (k : kx_ok N n) {sig : MethodDescriptor} (hs : parseMethodDescriptor N.1.desc = some sig) : n = sig.parameters.length := by
  have h2 := k.2.2.2.2
  rw [hs] at h2
  exact (Option.some.inj h2).symm
theorem kx_inv {ci NN : Nat} {T0 : u_T} {fs : List Value} {host : String} (hk0 : kx_ok N as.length) (hln : Cond.methodLinkNest M.1.cls idx N.1 host ∈ kx_ws ∨ Cond.methodLink M.1.cls idx N.1 ∈ kx_ws) (hin : Cond.instanceMethod N.1 ∈ kx_ws) (hse : Cond.selects N.1.cls N.1 N.1 ∈ kx_ws) (hcl : kx_cl[ci]? = some (N.1.cls, T0, NN)) (hd : decode M.2.1 pc = .ok (.invokevirtual idx, 3))
    (hsk : sk = as.reverse ++ .ref b :: st) (hst : (st.map fun v => v.category).sum ≤ 8) (hb0 : kx_is G h b (.inr (ci, fs))) (hM : kx_c G l N d mc ms (.ref b :: as) h Qc) (hk : ∀ o h', Qc o h' → kx_k G l M (d + 1) Q kc ks pc lv st o h') : kx_w G l M (d + 1) Q (kc + mc) (ks + ms) pc lv sk h := by
  subst hsk
  intro p e R s m args below meth c X H locs ls cells slots hh hS hl q1 q2 T hT Y
  have hX := X
  obtain ⟨hx, hb, hml, hown, -, -, -, -, hK, hbs, hfr, hlo, -⟩ := hX
  obtain ⟨mk, methM, hnamed, hmethM, hstM, habM⟩ := Cond.instanceMethod_spec (hK.2.1 _ hin args)
  obtain ⟨mk', methN, cN, e0, e1, e2, e3, e4, -, -, -, e8⟩ := kx_cd_spec (hK.2.1 _ hk0.2.1 args)
  cases hnamed.symm.trans e0
  cases hmethM.symm.trans e1
  obtain ⟨r', hr', cellB, g1, g2, g3, -⟩ := hh.at hb0
  have hcls : s.vm.findClass N.1.cls = some cellB.cls := by rw [g2]; exact (hK.1.1 ci _ hcl).2.1
  obtain ⟨c2, r2, m2, w1, w2, w3, w4, kP, hkP, hkPi⟩ := Cond.selects_spec (hK.2.1 _ hse args)
  cases hcls.symm.trans w1
  cases (State.methodFound?_of_named hnamed hk0.2.2.2.1).symm.trans w2
  cases hnamed.symm.trans w3
  have hselP : selectMethod e.platform s.vm cellB.cls mk = .method mk := by rw [Launch.admits_selectMethod Y.admits]; exact w4
  have hdg : decode c.code pc = .ok (.invokevirtual idx, 3) := by rw [hb]; exact hd
  have hcT : T.heap[b]? = some cellB := by rw [hT]; exact g1
  have hno : ∀ z, cellB.vm ≠ .statics z := fun z hz => by rw [g3] at hz; cases hz
  obtain ⟨vm₁, X₁, hgo⟩ : ∃ vm₁, Stand p l e R s m args below meth c (T.setVm vm₁) locs cells slots ∧
      ∀ target, (∀ acts, Steps p.tables e below (doInvoke e ((T.setVm vm₁).setTop (F0 m pc ls st)) acts mk (.ref b :: as).toArray).1 target) → Steps p.tables e below (T.setTop (F0 m pc ls (as.reverse ++ .ref b :: st))) target := by
    rcases hln with hln | hln
    · exact Y.invokevirtualNest hx hown (hK.2.1 _ hln args) hnamed hmethM hstM hkP hkPi hk0.2.2.2.1 (a := b) (cell := cellB) hcT hno hselP hmethM habM hkP hkPi (g := F0 m pc ls (as.reverse ++ .ref b :: st)) rfl (argsL := as) (rest := st) (hk0.len e8) rfl hdg
    · exact Y.invokevirtual hx hown (hK.2.1 _ hln args) hnamed hmethM hstM hkP hkPi hk0.2.2.2.1 (a := b) (cell := cellB) hcT hno hselP hmethM habM hkP hkPi (g := F0 m pc ls (as.reverse ++ .ref b :: st)) rfl (argsL := as) (rest := st) (hk0.len e8) rfl hdg
  have ea : (Value.ref b :: as).reverse ++ st = as.reverse ++ .ref b :: st := by simp
  have fin := kx_step (vm₁ := vm₁) (st := st) X hh hS hl (kc := kc) (ks := ks) (by omega) (by omega) hT X₁ hM hk hk0.2.2.1 hst hdg hnamed hk0.1 hk0.2.1 (fun target ht => by rw [ea]; exact hgo target (fun acts => by rw [doInvoke_state]; exact ht))
  rw [ea] at fin
  exact fin
theorem kx_sti {host : String} (hk0 : kx_ok N as.length) (hln : Cond.methodLinkNest M.1.cls idx N.1 host ∈ kx_ws ∨ Cond.methodLink M.1.cls idx N.1 ∈ kx_ws) (hsx : Cond.static N.1 ∈ kx_ws) (hd : decode M.2.1 pc = .ok (.invokestatic idx, 3))
    (hsk : sk = as.reverse ++ st) (hst : (st.map fun v => v.category).sum ≤ 8) (hM : kx_c G l N d mc ms as h Qc) (hk : ∀ o h', Qc o h' → kx_k G l M (d + 1) Q kc ks pc lv st o h') : kx_w G l M (d + 1) Q (kc + mc) (ks + ms) pc lv sk h := by
  subst hsk
  intro p e R s m args below meth c X H locs ls cells slots hh hS hl q1 q2 T hT Y
  have hX := X
  obtain ⟨hx, hb, hml, hown, -, -, -, -, hK, hbs, hfr, hlo, -⟩ := hX
  obtain ⟨mk, methM, cN, hnamed, hmethM, e2, e3, e4, -, -, -, e8⟩ := kx_cd_spec (hK.2.1 _ hk0.2.1 args)
  have hstatic : methM.isStatic = true := Cond.static_spec hnamed hmethM (hK.2.1 _ hsx args)
  obtain ⟨kP, hkP, -⟩ := className_of_methodNamed hnamed
  have hinitP : kP.init = .initialized := Cond.initialized_spec (findClass_of_methodNamed hnamed) hkP (hK.2.1 _ hk0.1 args)
  have hdg : decode c.code pc = .ok (.invokestatic idx, 3) := by rw [hb]; exact hd
  obtain ⟨vm₁, X₁, hgo⟩ : ∃ vm₁, Stand p l e R s m args below meth c (T.setVm vm₁) locs cells slots ∧
      ∀ target, (∀ acts, Steps p.tables e below (doInvoke e ((T.setVm vm₁).setTop (F0 m pc ls st)) acts mk as.toArray).1 target) → Steps p.tables e below (T.setTop (F0 m pc ls (as.reverse ++ st))) target := by
    rcases hln with hln | hln
    · exact Y.invokestaticNest hx hown (hK.2.1 _ hln args) hnamed hmethM hstatic hkP hinitP hk0.2.2.2.1 (g := F0 m pc ls (as.reverse ++ st)) rfl (argsL := as) (rest := st) (hk0.len e8) rfl hdg
    · exact Y.invokestatic hx hown (hK.2.1 _ hln args) hnamed hmethM hstatic hkP hinitP hk0.2.2.2.1 (g := F0 m pc ls (as.reverse ++ st)) rfl (argsL := as) (rest := st) (hk0.len e8) rfl hdg
  exact kx_step (vm₁ := vm₁) (st := st) X hh hS hl (kc := kc) (ks := ks) (by omega) (by omega) hT X₁ hM hk hk0.2.2.1 hst hdg hnamed hk0.1 hk0.2.1 (fun target ht => hgo target (fun acts => by rw [doInvoke_state]; exact ht))
theorem kx_ini {host : String} (hk0 : kx_ok N as.length) (hln : Cond.methodLinkNest M.1.cls idx N.1 host ∈ kx_ws ∨ Cond.methodLink M.1.cls idx N.1 ∈ kx_ws) (hin : Cond.instanceMethod N.1 ∈ kx_ws) (hnm : N.1.name = "<init>") (hnh : N.2.2.2.2 = [] ∧ N.2.2.2.1 = none) (hd : decode M.2.1 pc = .ok (.invokespecial idx, 3))
    (hsk : sk = as.reverse ++ .ref b :: st) (hst : (st.map fun v => v.category).sum ≤ 8) (hM : kx_c G l N d mc ms (.ref b :: as) h Qc) (hk : ∀ o h', Qc o h' → kx_k G l M (d + 1) Q kc ks pc lv st o h') : kx_w G l M (d + 1) Q (kc + mc) (ks + ms) pc lv sk h := by
  subst hsk
  intro p e R s m args below meth c X H locs ls cells slots hh hS hl q1 q2 T hT Y
  have hX := X
  obtain ⟨hx, hb, hml, hown, -, -, -, -, hK, hbs, hfr, hlo, -⟩ := hX
  have hpl : e.platform.magicAccessors = ({} : Platform).magicAccessors := by rw [Y.admits.platform]
  have hcode : (Cond.code N.1 N.2.1 N.2.2.1 none).before args s = true := by
    have z := hK.2.1 _ hk0.2.1 args
    unfold kx_cd at z
    rw [if_pos hnh.1, hnh.2] at z
    exact z
  have hdg : decode c.code pc = .ok (.invokespecial idx, 3) := by rw [hb]; exact hd
  obtain ⟨mk, vm₁, hnamed, X₁, hgo⟩ : ∃ mk vm₁, s.methodNamed? N.1 = some mk ∧ Stand p l e R s m args below meth c (T.setVm vm₁) locs cells slots ∧
      ∀ target, (∀ acts, Steps p.tables e below (doInvoke e ((T.setVm vm₁).setTop (F0 m pc ls st)) acts mk (.ref b :: as).toArray).1 target) → Steps p.tables e below (T.setTop (F0 m pc ls (as.reverse ++ .ref b :: st))) target := by
    rcases hln with hln | hln
    · obtain ⟨mk, methM, cM, kP, vm₁, hnamed, -, -, -, -, -, -, -, hW₁, hstep₁⟩ := Steps.initColdArgsNest (e := e) Y.here hx Y.warmed hpl hown hnm hk0.2.2.2.1 (hK.2.1 _ hln args) (hK.2.1 _ hin args) hcode (f := F0 m pc ls (as.reverse ++ .ref b :: st)) rfl (argsL := as) (rest := st) (fun sig hs => hk0.len hs) rfl hdg
      exact ⟨mk, vm₁, hnamed, Y.noted hW₁, hstep₁⟩
    · obtain ⟨mk, methM, cM, kP, vm₁, hnamed, -, -, -, -, -, -, -, hW₁, hstep₁⟩ := Steps.initColdArgs (e := e) Y.here hx Y.warmed hpl hown hnm hk0.2.2.2.1 (hK.2.1 _ hln args) (hK.2.1 _ hin args) hcode (f := F0 m pc ls (as.reverse ++ .ref b :: st)) rfl (argsL := as) (rest := st) (fun sig hs => hk0.len hs) rfl hdg
      exact ⟨mk, vm₁, hnamed, Y.noted hW₁, hstep₁⟩
  have ea : (Value.ref b :: as).reverse ++ st = as.reverse ++ .ref b :: st := by simp
  have fin := kx_step (vm₁ := vm₁) (st := st) X hh hS hl (kc := kc) (ks := ks) (by omega) (by omega) hT X₁ hM hk hk0.2.2.1 hst hdg hnamed hk0.1 hk0.2.1 (fun target ht => by rw [ea]; exact hgo target (fun acts => by rw [doInvoke_state]; exact ht))
  rw [ea] at fin
  exact fin
end KXV
/-! ===== an exception on its way: out of the method, or into a handler ===== -/
section KXT
variable {G : kx_G} {l : Launch} {M : kx_M} {d : Nat} {Q : Outcome → kx_H → Prop} {kc ks pc x : Nat} {lv : kx_L} {h : kx_H}
theorem kx_cov {c : Code} {pc : Nat} (hT : c.exceptionTable.toList.map (fun h => (h.startPc, h.endPc, h.handlerPc, h.catchType)) = M.2.2.2.2) (hcov : ∀ q ∈ M.2.2.2.2, ¬ (q.1 ≤ pc ∧ pc < q.2.1)) : ∀ z ∈ c.exceptionTable.toList, covers z pc = false := by
  intro z hz
  have h1 : ¬ (z.startPc ≤ pc ∧ pc < z.endPc) := hcov (z.startPc, z.endPc, z.handlerPc, z.catchType) (by rw [← hT]; exact List.mem_map.mpr ⟨z, hz, rfl⟩)
  simp only [covers, Bool.and_eq_false_iff, decide_eq_false_iff_not]
  omega
theorem kx_out (hcov : ∀ q ∈ M.2.2.2.2, ¬ (q.1 ≤ pc ∧ pc < q.2.1)) (hq : Q (.threw x) h) : kx_t G l M d Q kc ks pc lv x h := by
  intro p e R s m args below meth c X H locs ls st cells slots hh hS hl q1 q2 T hT Y
  obtain ⟨-, -, -, -, -, hlk, -, htab, -⟩ := id X
  have Y' := stand_widen Y (show cells ≤ R.cells by omega) (show slots ≤ R.slots by omega)
  obtain ⟨st1, st2, st3, st4, st5⟩ := Y'.leaveThrown x (g := F0 m pc ls st) rfl rfl rfl (kx_cov htab hcov) hlk
  exact ⟨_, st1, .threw x, h, st2, st3, hq, by show kx_hp G h T.heap; rw [hT]; exact hh, locs, ⟨st4, st5⟩, hS.2.2⟩
end KXT
