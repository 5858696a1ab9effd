/-! ===== throw new E("text"): the machine is looked at anew from the place of the throw, so that nothing of the heap is lost ===== -/
section KXN
variable {p : Program} {l : Launch} {e : Env} {R : Room} {s : State} {m : MethodId} {args : Array Value} {below : List Frame} {meth : Method} {c : Code} {T : State} {locs : List Loc} {cells slots : Nat}
theorem kx_anew (X : Stand p l e R s m args below meth c T locs cells slots) {R' : Room} (hf : R'.frames ≤ R.frames) (hl : R'.locals ≤ R.locals) (hc : cells + R'.cells ≤ R.cells) (hs : slots + R'.slots ≤ R.slots) :
    Stand p l e R' ((T.setVm s.vm).setFrames (.invoking m args :: below)) m args below meth c T [] 0 0 := by
  have htop : (T.setVm s.vm).topJava?.isSome := X.here.top
  have hF : ((T.setVm s.vm).setFrames (.invoking m args :: below)).frames = .invoking m args :: below := State.frames_setFrames _ (State.cur_lt_of_top htop)
  obtain ⟨f0, hf0⟩ := Option.isSome_iff_exists.mp htop
  obtain ⟨r, hr⟩ := State.topJava?_eq_some.mp hf0
  have k1 : e.platform.stackLimits (T.setVm s.vm).me = e.platform.stackLimits s.me := X.limits
  have k2 : (T.setVm s.vm).me.stackBytes = s.me.stackBytes := X.bytes
  have hU : ((T.setVm s.vm).setFrames (.invoking m args :: below)).localsInUse = s.localsInUse := by
    rw [State.localsInUse_invoking hF (meth := meth) (c := c) X.method X.code, State.localsInUse_invoking X.frames X.method X.code]
  have hroom : ((T.setVm s.vm).setFrames (.invoking m args :: below)).hasRoom e.platform R' = true := by
    have h := X.room
    have q1 := X.heapSize
    have q2 := X.used
    have q3 := X.book
    simp only [State.hasRoom, Bool.and_eq_true, decide_eq_true_eq] at h ⊢
    obtain ⟨⟨⟨⟨h1, h2, h3, h4, h5, h6⟩, h7⟩, h8⟩, h9⟩ := h
    rw [X.frames, List.length_cons] at h2 h3
    simp only [hF, hU, List.length_cons, State.stackLimits_setFrames, State.stackBytes_setFrames, k1, k2]
    refine ⟨⟨⟨⟨by omega, by omega, by omega, by omega, by omega, h6⟩, ?_⟩, ?_⟩, q3⟩
    · show T.heap.size + R'.cells ≤ e.platform.maxCells
      omega
    · show T.slotsUsed + R'.slots ≤ e.platform.maxSlots
      omega
  have hsame : ((T.setVm s.vm).setFrames (.invoking m args :: below)).sameButNew (T.setVm ((T.setVm s.vm).setFrames (.invoking m args :: below)).vm) [] 0 0 := by
    obtain ⟨t, ht, -⟩ := State.frames_cons hr
    have z : (T.heap.toList.drop T.heap.size) = [] := List.drop_eq_nil_of_le (Nat.le_of_eq Array.length_toList)
    refine ⟨?_, Nat.le_refl _, Nat.le_refl _, ?_, ?_, fun a cl hcl => ⟨cl, hcl, rfl, rfl, fun _ _ => rfl⟩⟩
    · show T.setVm s.vm = { ((T.setVm s.vm).setFrames (.invoking m args :: below)).setFrames (T.setVm s.vm).frames with heap := T.heap, slotsUsed := T.slotsUsed }
      rw [State.setFrames_setFrames, State.setFrames_self ht]
      rfl
    · show T.slotsUsed = T.slotsUsed + ((T.heap.toList.drop T.heap.size).map (·.slots.size)).sum
      rw [z]
      rfl
    · show ((T.heap.toList.drop T.heap.size).map (·.slots.size)).sum ≤ 0
      rw [z]
      exact Nat.le_refl _
  exact ⟨X.admits, X.cas, X.clock, hF, hroom, X.hears, X.method, X.code, X.here, X.tail, X.warmed, by rw [State.stackLimits_setFrames]; rfl, by rw [State.stackBytes_setFrames]; rfl, hsame⟩
theorem kx_ldw (X : Stand p l e R s m args below meth c T locs cells slots) (hexec : p.tables.exec = Jvm.exec) {own text : String} {index : Nat} {a : Addr} (hown : s.vm.findClass own = some m.cls) (hconst : (Cond.stringRef own index text).before args s = true) (hev : (Term.string own index).eval args s none [] s = some (.ref a)) {g : JFrame} (hg : g.method = m) (hdg : decode c.code g.pc = .ok (.ldc_w index, 3)) :
    ∀ target, Steps p.tables e below (T.setTop { g with pc := g.pc + 3, stack := .ref a :: g.stack }) target → Steps p.tables e below (T.setTop g) target := by
  obtain ⟨k, cf, i, a', hk, hcf, hcp, -, hr, hev'⟩ := Cond.stringRef_spec hown hconst
  cases hev.symm.trans hev'
  obtain ⟨k', hk', he⟩ := X.warmed.alike.2.2 _ _ hk
  have hr' : k'.resolved[index]? = some (some (.string a)) := by
    rcases X.warmed.entry hk hk' index with z | ⟨z, -⟩
    · rw [z]; exact hr
    · rw [hr] at z; cases z
  intro target hrest
  subst hg
  jvm_step X.here [hexec, hdg, ldc_w.wp_string (e := e) (s := T) (f := g) X.here.top hk' (by rw [he]; exact hcf) hcp hr']
  exact hrest
end KXN
section KXO
variable {G : kx_G} {l : Launch} {M : kx_M} {d : Nat} {Q : Outcome → kx_H → Prop} {kc ks pc : Nat} {lv : kx_L} {st : List Value} {h : kx_H}
/-- the exception's object is new, and its class's; the heap is else as it was; no handler of this method's covers the throw -/
theorem kx_thr {E text : String} {ci ik is ic w idx : Nat} {bytes : ByteArray} {T0 : u_T} {ld : Instr} (hcl : kx_cl[ci]? = some (E, T0, 0)) (hE : Bundle.fit E = true) (hln : Cond.classLink M.1.cls ik E ∈ kx_ws) (hini : Cond.initialized E ∈ kx_ws) (hsr : Cond.stringRef M.1.cls is text ∈ kx_ws) (b0 : decode bytes 0 = .ok (.aload_n 0, 1)) (b1 : decode bytes 1 = .ok (.aload_n 1, 1)) (b2 : decode bytes 2 = .ok (.invokespecial idx, 3)) (b5 : decode bytes 5 = .ok (.return_, 1)) (hat : ∀ z ∈ kx_atm M.1.cls ic E idx bytes, z ∈ kx_ws ∨ z ∈ kx_wz)
    (hld : (ld = .ldc is ∧ w = 2) ∨ (ld = .ldc_w is ∧ w = 3)) (d0 : decode M.2.1 pc = .ok (.new ik, 3)) (d3 : decode M.2.1 (pc + 3) = .ok (.dup, 1)) (d4 : decode M.2.1 (pc + 4) = .ok (ld, w)) (d6 : decode M.2.1 (pc + 4 + w) = .ok (.invokespecial ic, 3)) (d9 : decode M.2.1 (pc + 4 + w + 3) = .ok (.athrow, 1))
    (hcov : ∀ q ∈ M.2.2.2.2, ¬ (q.1 ≤ pc + 4 + w + 3 ∧ pc + 4 + w + 3 < q.2.1)) (hst : (st.map fun v => v.category).sum ≤ 8) (hq : Q (.threw h.1) (kx_new h (.inr (ci, [])))) : kx_w G l M d Q (kc + 1) (ks + 6) pc lv st h := by
  intro p e R s m args below meth c X H locs ls cells slots hh hS hl q1 q2 T hT Y
  have hX := X
  obtain ⟨hx, hb, hml, hown, -, hlk, -, htab, hK, hbs, hfr, hlo, hst9⟩ := hX
  have htr : e.platform.stackTraces = false := (show e.platform.stackTraces = l.stackTraces by rw [Y.admits.platform]).trans hst9
  have Z := kx_anew Y (R' := { frames := R.frames, locals := R.locals, cells := 1, slots := 6 }) (Nat.le_refl _) (Nat.le_refl _) (by show cells + 1 ≤ _; omega) (by show slots + 6 ≤ _; omega)
  obtain ⟨s', hs'⟩ : ∃ z, z = (T.setVm s.vm).setFrames (.invoking m args :: below) := ⟨_, rfl⟩
  rw [← hs'] at Z
  have hvm : s'.vm = s.vm := by rw [hs']; rfl
  have hhp : s'.heap = H := by rw [hs']; exact hT
  have hW0 : s.WarmedH s'.vm := by rw [hvm]; exact State.WarmedH.refl s
  have hK' : kx_K G s' := kx_K.moved hK hW0 (H := H) hhp hS hbs
  have hown' : s'.vm.findClass M.1.cls = some m.cls := by rw [hvm]; exact hown
  have hall : ∀ z ∈ kx_atm M.1.cls ic E idx bytes, z.before args s' = true := by
    intro z hz
    rcases hat z hz with g | g
    · exact hK'.2.1 z g args
    · exact kx_K.z hK' z g args
  have hins : (Cond.instantiable E 6).before args s' = true := hall _ (by simp [kx_atm])
  obtain ⟨vm₁, cX, kX, hfX, hkX, -, -, X₁, st1⟩ := Z.newCold hx (own := M.1.cls) (C := E) (index := ik) (n := 6) hown' (hK'.2.1 _ hln args) hins (hK'.2.1 _ hini args) (g := F0 m pc ls st) rfl (by rw [hb]; exact d0) (Nat.le_refl _) (Nat.le_refl _)
  generalize hT1 : (T.setVm vm₁).pushCell { cls := cX, slots := kX.instanceTypes.map defaultValue, vm := .none } = T1 at X₁ st1
  have hcellA : T1.heap[T.heap.size]? = some (freshCell cX kX) := by rw [← hT1]; exact State.heap_pushCell_size _ _
  have d3' : decode c.code (pc + 3) = .ok (.dup, 1) := by rw [hb]; exact d3
  have d4' : decode c.code (pc + 4) = .ok (ld, w) := by rw [hb]; exact d4
  obtain ⟨_, _, _, sa, -, -, -, -, -, hev⟩ := Cond.stringRef_spec hown' (hK'.2.1 _ hsr args)
  have hcat : (Value.ref T.heap.size).category = 1 := rfl
  obtain ⟨U, hsteps, hrun, hend, hW, hsame, ce, hce, hOc, hOv⟩ := kx_ctor X₁ hx htr (own := M.1.cls) (E := E) (ic := ic) (idx := idx) (bytes := bytes) hown' hE b0 b1 b2 b5 hall rfl hfX hkX hcellA (by rw [hhp, hT]; exact Nat.le_refl _) (msg := .ref sa) rfl
    (g := { method := m, pc := pc + 4 + w, locals := ls, stack := .ref sa :: .ref T.heap.size :: .ref T.heap.size :: st, locked := none }) rfl (by rw [hml]; exact hl.1) rfl rfl (rest := st) rfl
    (by rw [hb]; exact d6) (by rw [hb]; exact d9) (kx_cov htab hcov) (by show 5 < R.frames; omega) (by simp only [List.map_cons, List.sum_cons, hcat]; show 2 * 0 + _ + _ ≤ R.locals; omega) hlk
  have hU : U.heap.size = H.size + 1 ∧ ∀ q : Nat, q < H.size → U.heap[q]? = H[q]? := by
    obtain ⟨-, u2, u3, -, -, u6⟩ := hsame
    have v3 : U.heap.size ≤ s'.heap.size + (0 + 1) := u3
    have v1 : T.heap.size < U.heap.size := (Array.getElem?_eq_some_iff.mp hce).1
    rw [hhp] at v3
    rw [hT] at v1
    refine ⟨by omega, fun q hq9 => ?_⟩
    have hq1 : s'.heap[q]? = some H[q] := by rw [hhp]; exact Array.getElem?_eq_getElem hq9
    obtain ⟨c', y1, y2, y3, y4⟩ := u6 q _ hq1
    have y0 : U.heap[q]? = some c' := y1
    have y5 : c'.slots = (H[q]).slots := Array.ext_getElem? (fun i => y4 i (fun hm => nomatch hm))
    have y6 : c' = H[q] := by rw [y2, y5]
    rw [y0, y6]
    exact (Array.getElem?_eq_getElem hq9).symm
  have hclE : s.vm.findClass E = some ce.cls := by
    have h9 := hOc
    rw [hvm] at h9
    exact h9
  have hnew : kx_hp G (kx_new h (.inr (ci, []))) U.heap := by
    refine hh.push ⟨_, hcl, ce, ?_, ?_, hOv, fun k hk => absurd hk (Nat.not_lt_zero k)⟩ hU.1 hU.2
    · rw [← hh.1, ← hT]
      exact hce
    · exact Option.some.inj (hclE.symm.trans (hK.1.1 ci _ hcl).2.1)
  have hWs : s.WarmedH U.vm := State.WarmedH.trans hW0 hW
  have hsm : s.sameButNew ({ U with vm := s.vm } : State) locs R.cells R.slots := by
    subst hs'
    obtain ⟨e1, e2⟩ := hsame
    rw [State.setFrames_setFrames] at e1
    have h2 : (T.setVm s.vm).sameButNew ({ U with vm := s.vm } : State) [] (0 + 1) (0 + 6) := ⟨e1, e2⟩
    have h3 := Y.same.trans h2
    rw [List.append_nil] at h3
    exact h3.mono (by omega) (by omega)
  refine ⟨U, ?_, .threw T.heap.size, kx_new h (.inr (ci, [])), hrun, hend, by rw [hT, hh.1]; exact hq, hnew, locs, ⟨hWs, hsm⟩, hS.2.2⟩
  refine st1 _ ?_
  show Steps p.tables e below (T1.setTop { method := m, pc := pc + 3, locals := ls, stack := .ref T.heap.size :: st, locked := none }) _
  jvm_step X₁.here [X₁.here.top, hx, d3', Value.category]
  rcases hld with ⟨rfl, rfl⟩ | ⟨rfl, rfl⟩
  · exact X₁.ldcString hx (own := M.1.cls) (text := text) (index := is) (a := sa) hown' (hK'.2.1 _ hsr args) hev (g := { method := m, pc := pc + 4, locals := ls, stack := .ref T.heap.size :: .ref T.heap.size :: st, locked := none }) rfl d4' _ hsteps
  · exact kx_ldw X₁ hx (own := M.1.cls) (text := text) (index := is) (a := sa) hown' (hK'.2.1 _ hsr args) hev (g := { method := m, pc := pc + 4, locals := ls, stack := .ref T.heap.size :: .ref T.heap.size :: st, locked := none }) rfl d4' _ hsteps
end KXO
