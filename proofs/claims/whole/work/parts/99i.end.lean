/-! ===== the law's entry, the claim ===== -/
section KL3
variable {s : State} {A : Array Value}
theorem kx_tbm {w : Cond} (h : decide (w ∈ lw_tbl) = true) : w ∈ kx_tb := List.mem_append.mpr (Or.inl (of_decide_eq_true h))
theorem kx_atp {ty : FieldType} (hr : ty.isReference = false) (h : (Cond.arrayClass ty).before A s = true) : ∃ cA : ClassId, ArrOfT s cA ty ∧ va_RA s cA ty := by
  obtain ⟨cA, kA, comp, h1, h2, h3⟩ := Cond.arrayClass_spec h
  refine ⟨cA, fun n z => ⟨fun k h => (by cases h), kA, h2, comp, h3⟩, ?_⟩
  cases ty <;> first | exact h1 | cases hr
theorem kx_ato {C : String} (h : (Cond.arrayOver (.object C)).before A s = true) : ∃ cA : ClassId, ArrOfT s cA (.object C) ∧ va_RA s cA (.object C) := by
  obtain ⟨comp, c, k, h1, -, h3, h4, h5⟩ := Cond.arrayOver_spec h
  exact ⟨c, fun n z => ⟨fun k h => (by cases h), k, h3, comp, h4⟩, k, comp, h3, h4, h1, h5⟩
theorem kx_ata (h : (Cond.arrayOver (.array .int)).before A s = true) : ∃ cA : ClassId, ArrOfT s cA (.array .int) ∧ va_RA s cA (.array .int) := by
  obtain ⟨comp, c, k, -, h2, h3, h4⟩ := kx_aov h
  exact ⟨c, fun n z => ⟨fun k h => (by cases h), k, h2, comp, h3⟩, h4⟩
theorem kx_ncs : ∀ w ∈ kx_nc, w ∈ flatC (Jvm.Cond.and given_1 narrow_1) := by decide +kernel
set_option maxRecDepth 100000 in
theorem kx_entry {b L : Nat} {xs : Nat → Int32} (hts : ∀ w ∈ lw_tbl, w.before #[Value.ref b] s = true) (hX : va_X b L xs s s.heap) (hbl : b < s.heap.size) (hgv : (Jvm.Cond.and given_1 narrow_1).before #[Value.ref b] s = true) : ∃ G : kx_G, G.1 = s.heap.size ∧ gS G = b ∧ gN G = L ∧ kx_K G s := by
  have hfl := flat_of_before _ hgv
  have hb : ∀ w ∈ kx_tb, w.before #[Value.ref b] s = true := fun w hw => by
    rcases List.mem_append.mp hw with h | h
    · exact hts w h
    · exact hfl w (kx_ncs w h)
  have hws : ∀ w ∈ kx_ws, w.before #[Value.ref b] s = true := fun w hw => hb w (List.mem_filter.mp hw).1
  have hcl : ∀ c : Nat, ∃ p : ClassId × (Nat → Nat), ∀ q : vw_C, kx_cl[c]? = some q → u_Kn s q.1 q.2.1 q.2.2 p.1 p.2 := by
    intro c
    by_cases hc : c < kx_cl.length
    · have key : ∀ q : vw_C, kx_cl[c]? = some q → ∃ p : ClassId × (Nat → Nat), u_Kn s q.1 q.2.1 q.2.2 p.1 p.2 := by
        intro q hq
        match c, hq with
        | 0, hq => cases hq; obtain ⟨a, b, h⟩ := u_known (C := kR_V) (T := kF_V) (N := 10) (n := 10) hws kI_V (hb _ (kx_tbm (by decide +kernel))); exact ⟨(a, b), h⟩
        | 1, hq => cases hq; obtain ⟨a, b, h⟩ := u_known (C := kR_T) (T := kF_T) (N := 3) (n := 3) hws kI_T (hb _ (kx_tbm (by decide +kernel))); exact ⟨(a, b), h⟩
        | 2, hq => cases hq; obtain ⟨a, b, h⟩ := u_known (C := kR_P) (T := kF_P) (N := 4) (n := 4) hws kI_P (hb _ (kx_tbm (by decide +kernel))); exact ⟨(a, b), h⟩
        | 3, hq => cases hq; obtain ⟨a, b, h⟩ := u_known (C := kR_S) (T := kF_S) (N := 3) (n := 3) hws kI_S (hb _ (kx_tbm (by decide +kernel))); exact ⟨(a, b), h⟩
        | 4, hq => cases hq; obtain ⟨a, b, h⟩ := u_known (C := kR_B) (T := kF_B) (N := 4) (n := 4) hws kI_B (hb _ (kx_tbm (by decide +kernel))); exact ⟨(a, b), h⟩
        | 5, hq => cases hq; obtain ⟨a, b, h⟩ := u_known (C := kR_R) (T := kF_R) (N := 1) (n := 1) hws kI_R (hb _ (kx_tbm (by decide +kernel))); exact ⟨(a, b), h⟩
        | 6, hq => cases hq; obtain ⟨a, b, h⟩ := u_known (C := kR_Q) (T := kF_Q) (N := 5) (n := 5) hws kI_Q (hb _ (kx_tbm (by decide +kernel))); exact ⟨(a, b), h⟩
        | 7, hq => cases hq; obtain ⟨a, b, h⟩ := u_known (C := kR_N) (T := kF_N) (N := 4) (n := 4) hws kI_N (hb _ (kx_tbm (by decide +kernel))); exact ⟨(a, b), h⟩
        | 8, hq => cases hq; obtain ⟨a, b, h⟩ := u_known (C := kR_M) (T := kF_M) (N := 29) (n := 29) hws kI_M (hb _ (kx_tbm (by decide +kernel))); exact ⟨(a, b), h⟩
        | 9, hq => cases hq; obtain ⟨a, b, h⟩ := u_known (C := "java/lang/IllegalArgumentException") (T := kF_E) (N := 0) (n := 6) hws (kx_all (by decide +kernel)) (hb _ (kx_tbm (by decide +kernel))); exact ⟨(a, b), h⟩
        | 10, hq => cases hq; obtain ⟨a, b, h⟩ := u_known (C := "java/lang/IllegalStateException") (T := kF_E) (N := 0) (n := 6) hws (kx_all (by decide +kernel)) (hb _ (kx_tbm (by decide +kernel))); exact ⟨(a, b), h⟩
        | 11, hq => cases hq; obtain ⟨a, b, h⟩ := u_known (C := "java/util/NoSuchElementException") (T := kF_E) (N := 0) (n := 6) hws (kx_all (by decide +kernel)) (hb _ (kx_tbm (by decide +kernel))); exact ⟨(a, b), h⟩
        | 12, hq => cases hq; obtain ⟨a, b, h⟩ := u_known (C := "java/lang/UnsupportedOperationException") (T := kF_E) (N := 0) (n := 6) hws (kx_all (by decide +kernel)) (hb _ (kx_tbm (by decide +kernel))); exact ⟨(a, b), h⟩
        | 13, hq => cases hq; obtain ⟨a, b, h⟩ := u_known (C := "java/lang/ArithmeticException") (T := kF_E) (N := 0) (n := 6) hws (kx_all (by decide +kernel)) (hb _ (kx_tbm (by decide +kernel))); exact ⟨(a, b), h⟩
        | 14, hq => cases hq; obtain ⟨a, b, h⟩ := u_known (C := "java/lang/IndexOutOfBoundsException") (T := kF_E) (N := 0) (n := 6) hws (kx_all (by decide +kernel)) (hb _ (kx_tbm (by decide +kernel))); exact ⟨(a, b), h⟩
        | k + 15, hq => cases hq
      obtain ⟨p, hp⟩ := key _ (List.getElem?_eq_getElem hc)
      exact ⟨p, fun q hq => by
        have e := (List.getElem?_eq_getElem hc).symm.trans hq
        cases e
        exact hp⟩
    · exact ⟨(0, fun _ => 0), fun q hq => absurd (List.getElem?_eq_some_iff.mp hq).1 hc⟩
  obtain ⟨D, hD⟩ := Classical.axiomOfChoice hcl
  have hat : ∀ t : Nat, ∃ cA : ClassId, ∀ ty : FieldType, kx_at[t]? = some ty → ArrOfT s cA ty ∧ va_RA s cA ty := by
    intro t
    by_cases hc : t < kx_at.length
    · have key : ∀ ty : FieldType, kx_at[t]? = some ty → ∃ cA : ClassId, ArrOfT s cA ty ∧ va_RA s cA ty := by
        intro q hq
        match t, hq with
        | 0, hq => cases hq; exact kx_atp rfl (hb _ (kx_tbm (by decide +kernel)))
        | 1, hq => cases hq; exact kx_ato (hb _ (kx_tbm (by decide +kernel)))
        | 2, hq => cases hq; exact kx_ato (hb _ (kx_tbm (by decide +kernel)))
        | 3, hq => cases hq; exact kx_ato (hb _ (kx_tbm (by decide +kernel)))
        | 4, hq => cases hq; exact kx_ato (hb _ (kx_tbm (by decide +kernel)))
        | 5, hq => cases hq; exact kx_ato (hb _ (kx_tbm (by decide +kernel)))
        | 6, hq => cases hq; exact kx_ata (hb _ (kx_tbm (by decide +kernel)))
        | 7, hq => cases hq; exact kx_atp rfl (hb _ (kx_tbm (by decide +kernel)))
        | 8, hq => cases hq; exact kx_atp rfl (hb _ (kx_tbm (by decide +kernel)))
        | 9, hq => cases hq; exact kx_atp rfl (hb _ (kx_tbm (by decide +kernel)))
        | k + 10, hq => cases hq
      obtain ⟨p, hp⟩ := key _ (List.getElem?_eq_getElem hc)
      exact ⟨p, fun q hq => by
        have e := (List.getElem?_eq_getElem hc).symm.trans hq
        cases e
        exact hp⟩
    · exact ⟨0, fun q hq => absurd (List.getElem?_eq_some_iff.mp hq).1 hc⟩
  obtain ⟨cA, hcA⟩ := Classical.axiomOfChoice hat
  have hA : ∀ a : Nat, a < s.heap.size → ¬ (fun q : Nat => s.heap.size ≤ q) a := fun a ha => Nat.not_le.mpr ha
  obtain ⟨ad, hEn⟩ := va_Enof (args := #[Value.ref b]) (s := s) (E := "VersionedTables$State") (d := "LVersionedTables$State;") (nm := ["OPEN", "DONE", "BROKEN"]) (F := []) (A := fun q : Nat => s.heap.size ≤ q)
    (fun i hi => by
      have hi3 : i = 0 ∨ i = 1 ∨ i = 2 := by have : i < 3 := hi; omega
      rcases hi3 with rfl | rfl | rfl <;> exact hts _ (by decide +kernel))
    (hts _ (by decide +kernel))
    (fun i hi => by
      have hi3 : i = 0 ∨ i = 1 ∨ i = 2 := by have : i < 3 := hi; omega
      rcases hi3 with rfl | rfl | rfl <;> exact hfl _ (by decide +kernel))
    (fun q hq => by cases hq)
    (fun i j hi hj hne => by
      have hi3 : i = 0 ∨ i = 1 ∨ i = 2 := by have : i < 3 := hi; omega
      have hj3 : j = 0 ∨ j = 1 ∨ j = 2 := by have : j < 3 := hj; omega
      rcases hi3 with rfl | rfl | rfl <;> rcases hj3 with rfl | rfl | rfl <;> first | exact absurd rfl hne | exact Or.inl (hfl _ (by decide +kernel)) | exact Or.inr (hfl _ (by decide +kernel)))
    hA
  refine ⟨(s.heap.size, (fun c => (D c).1, fun c => (D c).2), cA, ad, b, L, xs), rfl, rfl, rfl, ⟨fun c q hq => hD c q hq, fun k q hk => ?_⟩, fun w hw B => kx_wm (List.mem_filter.mp hw).2 (State.WarmedH.refl s) (hws w hw), hEn, ⟨?_, ?_⟩, ⟨?_, ?_⟩, hX, hbl⟩
  · have hk' : ((List.range kx_at.length).map fun t => (cA t, kx_at.getD t .int))[k]? = some q := hk
    rw [List.getElem?_map] at hk'
    cases hr : (List.range kx_at.length)[k]? with
    | none => rw [hr] at hk'; cases hk'
    | some y =>
      rw [hr] at hk'
      obtain ⟨h1, h2⟩ := List.getElem?_eq_some_iff.mp hr
      have hlt : k < kx_at.length := by simpa using h1
      have hy : y = k := by rw [← h2]; simp
      subst hy
      have e : q = (cA y, kx_at.getD y .int) := (Option.some.inj hk').symm
      rw [e]
      refine hcA y _ ?_
      rw [List.getElem?_eq_getElem hlt, List.getD_eq_getElem?_getD, List.getElem?_eq_getElem hlt]; rfl
  · exact va_Zqof (hts _ (by decide +kernel)) (hts _ (by decide +kernel)) (hfl _ (by decide +kernel)) hA
  · exact kx_LS.of (hts _ (by decide +kernel)) hA
  · exact va_Zqof (hts _ (by decide +kernel)) (hts _ (by decide +kernel)) (hfl _ (by decide +kernel)) hA
  · exact kx_LS.of (hts _ (by decide +kernel)) hA
end KL3
def R_law : String := "VersionedTablesLaw"
def lw_P (b : Addr) (xs : List Int32) (args : Array Value) (s : State) : Prop := args = #[.ref b] ∧ s.IntsAt b xs ∧ xs.length ≤ 3584 ∧ (Jvm.Cond.and given_1 narrow_1).before args s = true
def lw_Q (_ : Array Value) (s : State) (o : Outcome) (t : State) : Prop := o = .returned (some (.int 1)) ∧ Framed s o t [] 601024 7293034
def lw_Z (below : List Frame) (a : Array Value) (s : State) : State → Prop := fun t => ∃ o, t.status = .running ∧ Ended t below o ∧ lw_Q a s o t
/-- from the entry, for every script of at most 3584 ints, the law comes to its end with true -/
theorem whole_start {p : Program} {e : Env} {s : State} {m : MethodId} {below : List Frame} {meth : Method} {c : Code} (l : Launch) (hst : l.stackTraces = false) {b L : Nat} {xs : Nat → Int32} (hL : L ≤ 3584) (hx : p.tables.exec = Jvm.exec) (hb : c.code = code) (hr : meth.sig.returnType = ret) (hml : c.maxLocals = 9) (hown : s.vm.findClass R_law = some m.cls) (hts : ∀ w ∈ lw_tbl, w.before #[Value.ref b] s = true) (hX : va_X b L xs s s.heap) (hbl : b < s.heap.size) (hlocks : meth.locks = false) (hgv : (Jvm.Cond.and given_1 narrow_1).before #[Value.ref b] s = true) (hnm : meth.name = "law") (hex : c.exceptionTable.toList = []) :
    W p l e room_1 s m #[Value.ref b] below meth c s.heap [] 0 0 (lw_Z below #[Value.ref b] s) (entryFrame m ([Value.ref b] : List Value).toArray 9) := by
  obtain ⟨G, hG, hGS, hGN, hK⟩ := kx_entry hts hX hbl hgv
  have hl := lv_entry ([.ref b]) (n := 9) (Nat.le_of_ble_eq_true rfl)
  rw [lg_entry_eq]
  have w := law_start (G := G) (l := l) (Q := fun o _ => o = .returned (some (.int 1))) (h := (G.1, fun _ => .inr (0, []))) hst (by rw [hGN]; exact hL) rfl (fun _ => rfl)
  rw [hGS] at w
  have X : kx_X G l mL_law 20 p room_1 s m meth c := ⟨hx, hb, hml, hown, hr, hlocks, hnm, by rw [hex]; rfl, hK, by rw [hG]; exact Nat.le_refl _, Nat.le_of_ble_eq_true rfl, Nat.le_of_ble_eq_true rfl, hst⟩
  have w2 := w p e room_1 s m #[Value.ref b] below meth c X s.heap [] _ 0 0 ⟨hG.symm, Nat.le_refl _, fun a h1 h2 => absurd h2 (Nat.not_lt.mpr h1)⟩ va_S.rf hl (Nat.le_of_ble_eq_true rfl) (Nat.le_of_ble_eq_true rfl)
  intro T hT Y
  obtain ⟨t, a1, o, h', b1, b2, b3, -, L, b4, b5⟩ := w2 T hT Y
  refine ⟨t, a1, o, b1, b2, b3, ⟨_, b3⟩, b4.1, ?_⟩
  have b6 : s.sameButNew ({ t with vm := s.vm } : State) ([] ++ L) 601024 7293034 := b4.2
  exact b6.drop_fresh (fun q hq => by rw [← hG]; exact b5 q hq)
set_option maxHeartbeats 4000000 in
theorem lw_walk (l : Launch) (hst : l.stackTraces = false) (b : Addr) (xs : List Int32) : MetFree l x (headSpec (Jvm.Cond.code x code maxLocals ret :: tables_1) room_1) (lw_P b xs) (fun _ _ _ _ _ => True) lw_Q := by
  refine MetFree.of_bodyS (code := code) (maxLocals := maxLocals) (ret := ret) (by decide) ?_ ?_
  · intro args s m h hn
    obtain ⟨meth, c, h1, h2, h3, h4, h5, h6, -, -⟩ := Cond.code_spec hn (atoms_spec (ws := Jvm.Cond.code x code maxLocals ret :: tables_1) h _ List.mem_cons_self)
    exact ⟨meth, c, h1, h2, h3, h4, h5, h6⟩
  · intro p e s m args below meth c s₁ B hml0 hP _
    obtain ⟨rfl, hx, hbd, hgv⟩ := hP
    obtain ⟨scr, harrAt, hlist, hof, hsmall⟩ := hx
    obtain ⟨hcb, hkn, -, -⟩ := State.arrayAt?_spec harrAt
    have hown : s.vm.findClass R_law = some m.cls := findClass_of_methodNamed B.named
    have hts0 : ∀ c ∈ (Jvm.Cond.code x code maxLocals ret :: tables_1), c.before #[Value.ref b] s = true := atoms_spec (ws := Jvm.Cond.code x code maxLocals ret :: tables_1) B.pre
    have hts : ∀ w ∈ lw_tbl, w.before #[Value.ref b] s = true := k2_hts_sels lw_privs (fun w hw => hts0 w (List.mem_cons_of_mem _ hw)) lw_privs_ok
    have hml : c.maxLocals = 9 := B.maxLocals_eq (hts0 _ List.mem_cons_self)
    have X₀ : Stand p l e room_1 s m #[Value.ref b] below meth c s₁ [] 0 0 := Stand.of_body B
    have hh0 : s₁.heap = s.heap := by rw [B.state]; rfl
    have hsz : scr.slots.size = xs.length := by rw [← Array.length_toList, hlist, List.length_map]
    have hval : ∀ j : Nat, j < xs.length → scr.slots[j]? = some (.int (xs.getD j 0)) := fun j hj => by
      rw [← Array.getElem?_toList, hlist]
      simp [hj]
    have hbl : b < s.heap.size := (Array.getElem?_eq_some_iff.mp hcb).1
    have hX : va_X b xs.length (fun j => xs.getD j 0) s s.heap := ⟨scr, hcb, hof, hkn, hsz, hval⟩
    have hnm : meth.name = "law" := (name_of_methodNamed B.named B.method).1
    have hex : c.exceptionTable.toList = [] := by
      obtain ⟨meth', c', e1, e2, -, -, -, -, e7, -⟩ := Cond.code_spec B.named (hts0 _ List.mem_cons_self)
      cases B.method.symm.trans e1
      cases X₀.code.symm.trans e2
      simpa using e7
    have K : W p l e room_1 s m #[Value.ref b] below meth c s₁.heap [] 0 0 (lw_Z below #[Value.ref b] s) (entryFrame m ([Value.ref b] : List Value).toArray 9) := by
      rw [hh0]
      exact whole_start l hst hbd B.exec B.bytes B.returns hml hown hts hX hbl B.notSynchronized hgv hnm hex
    obtain ⟨t, a1, o, b1, b2, b3⟩ := K s₁ rfl X₀
    exact ⟨t, o, a1, b1, b2, b3⟩
theorem lw_pre_spec {args : Array Value} {s : State} (h : (Jvm.Cond.and given_1 narrow_1).before args s = true) (hr : rest_1_c.before args s = true) : ∃ (b : Addr) (xs : List Int32), lw_P b xs args s := by
  have hs := flat_of_before _ h
  have hq := flat_of_before _ hr
  have hc : (Cond.count 1).before args s = true := hs _ (by decide +kernel)
  have harr : (Cond.arrayOf (.arg 0) .int).before args s = true := hs _ (by decide +kernel)
  have hle : (Cond.le (.length (.arg 0)) (.int 3584)).before args s = true := hs _ (by decide +kernel)
  have hlen : (Cond.isInt (.length (.arg 0))).before args s = true := hq _ (by decide +kernel)
  have hall : (Cond.all (.arg 0) (.isInt (.elem (.arg 0) (.index 0)))).before args s = true := hq _ (by decide +kernel)
  obtain ⟨b, xs, hb, hx⟩ := State.ints_of_pre rfl harr hlen hall
  have hsm : xs.length < 2 ^ 31 := hx.choose_spec.2.2.2
  have hev : (Term.length (.arg 0)).eval args s none [] s = some (.int xs.length.toInt32) := hx.length_eval hb
  have hv := Cond.le_ints hev (show (Term.int 3584).eval args s none [] s = some (.int 3584) from rfl)
  have hd : xs.length.toInt32 ≤ 3584 := by
    simpa [Cond.before, Cond.holds, hv] using hle
  have hN : xs.length ≤ 3584 := (Int32.ofNat_le_ofNat hsm (by decide)).mp (show Int32.ofNat xs.length ≤ Int32.ofNat 3584 from hd)
  exact ⟨b, xs, Cond.one_arg hc (show args[0]? = some (.ref b) from hb), hx, hN, h⟩
theorem lw_comes (l : Launch) (hst : l.stackTraces = false) : Comes l x (Jvm.Cond.code x code maxLocals ret :: tables_1) room_1 (fun tb e args s => Calls_1 tb e args s ∧ rest_1 tb e args s ∧ Pre_1 tb e args s)
    (fun _ _ args s o t => lw_Q args s o t) := by
  intro p e ha hc hk s m args below hf hfit hheap happ hpre
  obtain ⟨b, xs, hP⟩ := lw_pre_spec hpre.2.2 hpre.2.1
  obtain ⟨k, o, h1, h2, h3, hQ⟩ := lw_walk l hst b xs p e ha hc hk s m args below hf ((Spec.applies_iff_loose hf).mp happ).1 hP trivial
  exact ⟨k, o, h1, h2, h3, hQ⟩
theorem lw_frame {s t : State} {o : Outcome} {args : Array Value} (h : Framed s o t [] 601024 7293034) :
    Framed s o t (fieldLocs frame_1_writes args s ++ arrayLocs frame_1_arrays args s ++ staticLocs frame_1_statics s) 601024 7293034 := h
theorem lw_limb (L : Cond) (hL : ∀ (args : Array Value) (s t : State), L.after args s (.returned (some (.int 1))) t = true) :
    ArmFor flags0 classFile x code maxLocals ret World_1 tables_1 room_1 Calls_1 rest_1 Pre_1
      (fun tb e a s o t => postC L tb e a s o t ∧ Framed s o t (fieldLocs frame_1_writes a s ++ arrayLocs frame_1_arrays a s ++ staticLocs frame_1_statics s) 601024 7293034) := by
  intro l hfl _ _ p e ha hc hk s m args below hf hfit hheap happ hpre
  have hst : l.stackTraces = false := by
    unfold Launch.stackTraces
    rw [hfl]
    decide +kernel
  obtain ⟨k, o, h1, h2, h3, rfl, hF⟩ := lw_comes l hst p e ha hc hk s m args below hf hfit hheap happ hpre
  exact ⟨k, _, h1, h2, h3, hL args s _, lw_frame hF⟩
theorem i_vc : Claimed_1_1 ∧ Claimed_1_2 := ⟨lw_limb limb_1_1 (fun args s t => by simp [limb_1_1, Cond.after, Cond.holds, Cond.value]), lw_limb limb_1_2 (fun args s t => Cond.after_iff.mpr (by
  first | (rw [show limb_1_2 = Cond.eq .result (.int 1) from rfl, Cond.eq_ints (x := 1) (y := 1) rfl rfl]; simp; done) | (simp [limb_1_2, Cond.value, Term.eval]; done)))⟩
