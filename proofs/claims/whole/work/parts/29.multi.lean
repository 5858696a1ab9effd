/-! ===== new int[n][k] ===== -/
def kx_mo (c : ClassId) (N b i : Nat) : Cell := arrV c N (fun j => va_rf (if j < i then some (b + 1 + j) else none))
def kx_mf (s : State) (c k : ClassId) (N K : Nat) : Nat → State
  | 0 => s.pushCell (kx_mo c N s.heap.size 0)
  | i + 1 => ((kx_mf s c k N K i).pushCell (arrV k K (fun _ => .int 0))).setCell s.heap.size (kx_mo c N s.heap.size (i + 1))
theorem kx_mo_set (c : ClassId) (N b i : Nat) : (kx_mo c N b i).setSlot i (.ref (b + 1 + i)) = kx_mo c N b (i + 1) := by
  unfold kx_mo
  rw [arrV_store]
  congr 1
  funext j
  by_cases e : j = i
  · subst e
    simp [updV, va_rf]
  · by_cases g : j < i
    · simp [updV, e, g, Nat.lt_succ_of_lt g]
    · simp [updV, e, g, show ¬ j < i + 1 by omega]
theorem kx_mf_f (s : State) (c k : ClassId) (N K : Nat) : ∀ i, (kx_mf s c k N K i).heap.size = s.heap.size + 1 + i ∧ (kx_mf s c k N K i).heap[s.heap.size]? = some (kx_mo c N s.heap.size i) ∧ (kx_mf s c k N K i).vm = s.vm ∧ (kx_mf s c k N K i).slotsUsed = s.slotsUsed + N + i * K
  | 0 => ⟨by simp [kx_mf], by simp [kx_mf], rfl, by simp [kx_mf, kx_mo, arrV_size]⟩
  | i + 1 => by
    obtain ⟨a, b, d, u⟩ := kx_mf_f s c k N K i
    have hlt : s.heap.size < (kx_mf s c k N K i).heap.size := by omega
    have hb' : ((kx_mf s c k N K i).pushCell (arrV k K (fun _ => .int 0))).heap[s.heap.size]? = some (kx_mo c N s.heap.size i) := by rw [State.heap_pushCell_of_lt (h := hlt)]; exact b
    refine ⟨?_, State.heap_setCell_self hb', by simp [kx_mf, d], ?_⟩
    · simp [kx_mf, State.setCell, a]; omega
    · simp [kx_mf, u, arrV_size, Nat.succ_mul]; omega
theorem kx_mf_top (s : State) (f : JFrame) (c k : ClassId) (N K : Nat) : ∀ i, kx_mf (s.setTop f) c k N K i = (kx_mf s c k N K i).setTop f
  | 0 => rfl
  | i + 1 => by simp only [kx_mf, kx_mf_top s f c k N K i, State.heap_setTop, State.pushCell_setTop, State.setCell_setTop]
theorem kx_mf_old (s : State) (c k : ClassId) (N K : Nat) {a : Nat} (ha : a < s.heap.size) : ∀ i, (kx_mf s c k N K i).heap[a]? = s.heap[a]?
  | 0 => State.heap_pushCell_of_lt _ _ ha
  | i + 1 => by
    have f1 := (kx_mf_f s c k N K i).1
    have hlt : a < (kx_mf s c k N K i).heap.size := Nat.lt_of_lt_of_le ha (by rw [f1]; omega)
    show (((kx_mf s c k N K i).pushCell _).setCell s.heap.size _).heap[a]? = _
    rw [State.heap_setCell_other (Nat.ne_of_gt ha), State.heap_pushCell_of_lt (h := hlt)]
    exact kx_mf_old s c k N K ha i
theorem kx_mf_in (s : State) (c k : ClassId) (N K : Nat) : ∀ i j, j < i → (kx_mf s c k N K i).heap[s.heap.size + 1 + j]? = some (arrV k K (fun _ => .int 0))
  | 0, _, h => absurd h (Nat.not_lt_zero _)
  | i + 1, j, h => by
    have f1 := (kx_mf_f s c k N K i).1
    show (((kx_mf s c k N K i).pushCell _).setCell s.heap.size _).heap[s.heap.size + 1 + j]? = _
    rw [State.heap_setCell_other (show s.heap.size ≠ s.heap.size + 1 + j by omega)]
    rcases Nat.lt_or_ge j i with hj | hj
    · have hlt : s.heap.size + 1 + j < (kx_mf s c k N K i).heap.size := by rw [f1]; omega
      rw [State.heap_pushCell_of_lt (h := hlt)]
      exact kx_mf_in s c k N K i j hj
    · have e : j = i := by omega
      subst e
      rw [← f1]
      exact State.heap_pushCell_size _ _
section KXI
variable {E : CtlPost} {e : Env} {d : Bool} {acts : List Action} {s : State}
theorem kx_na {c comp : ClassId} {k : Class} {ty : FieldType} {len : Nat} {v0 : Value} (hk : s.vm.classes[c]? = some k) (hkind : k.kind = .array comp ty) (hlim : ¬ len > e.platform.arrayLengthLimit) (hby : ¬ len * componentBytes ty > e.platform.maxHeapBytes) (hfit : fits ty v0 = true) (hdef : v0.isDefault = true)
    (h1 : s.heap.size < e.platform.maxCells) (h2 : s.slotsUsed + len ≤ e.platform.maxSlots) {Q : Addr → Pre} (hq : Q s.heap.size d acts (s.pushCell (arrV c len (fun _ => v0)))) : wp (Jvm.newArray c len v0) Q E e d acts s := by
  have hfs : ∀ i v, (Array.replicate len v0)[i]? = some v → s.fitsSlot c .none i v = true := by
    intro i v hv
    simp only [Array.getElem?_replicate] at hv
    split at hv
    · cases hv; simp [State.fitsSlot, State.slotType?, hk, hkind, hfit]
    · cases hv
  have hda : allocActs (Array.replicate len v0) s.heap.size acts = acts := by
    have hall : ((Array.replicate len v0).all (·.isDefault)) = true := by
      rw [Array.all_replicate]; split <;> simp [hdef]
    unfold allocActs
    rw [if_pos hall]
  rw [← arrV_new] at hq
  simp only [Jvm.newArray, Jvm.arrayFits, wp_bind', W.ask, W.ite, hlim, if_false, wp_pure', W.theClass, hk, hkind, hby, W.alloc, W.stop, Option.some.injEq, exists_eq_left', Array.size_replicate, hda]
  rw [if_neg (by omega)]
  exact ⟨h1, h2, hfs, hq⟩
theorem kx_mk2 {c comp cc : ClassId} {k kc : Class} {n m : Int32} (hk : s.vm.classes[c]? = some k) (hkind : k.kind = .array comp (.array .int)) (hkc : s.vm.classes[comp]? = some kc) (hkindc : kc.kind = .array cc .int) (hn : ¬ n < 0) (hm : ¬ m < 0)
    (hl1 : ¬ n.toNatClampNeg > e.platform.arrayLengthLimit) (hh1 : ¬ n.toNatClampNeg * componentBytes (.array .int) > e.platform.maxHeapBytes) (hl2 : ¬ m.toNatClampNeg > e.platform.arrayLengthLimit) (hh2 : ¬ m.toNatClampNeg * componentBytes .int > e.platform.maxHeapBytes)
    (hc : s.heap.size + 1 + n.toNatClampNeg ≤ e.platform.maxCells) (hs : s.slotsUsed + n.toNatClampNeg + n.toNatClampNeg * m.toNatClampNeg ≤ e.platform.maxSlots)
    {Q : Addr → Pre} (hq : ∀ d' acts', Q s.heap.size d' acts' (kx_mf s c comp n.toNatClampNeg m.toNatClampNeg n.toNatClampNeg)) : wp (multianewarray.make c [n, m]) Q E e d acts s := by
  have hfind : ([m].find? (· < 0)) = none := by simp [hm]
  rw [multianewarray.make]
  simp only [wp_bind', W.ite, hn, if_false, wp_pure', W.theClass, hk, hkind, Option.some.injEq, exists_eq_left']
  refine kx_na hk hkind hl1 hh1 rfl rfl (by omega) (by have := Nat.zero_le (n.toNatClampNeg * m.toNatClampNeg); omega) ?_
  simp only [hfind]
  rw [ite_self, wp_bind', Std.Legacy.Range.forIn_eq_forIn_range']
  have hsz : ([:n.toNatClampNeg] : Std.Legacy.Range).size = n.toNatClampNeg := by simp [Std.Legacy.Range.size]
  rw [hsz]
  show wp (forIn (List.range' 0 n.toNatClampNeg 1) PUnit.unit _) _ E e d acts _
  refine wp_forIn_inv (fun rest s' => ∃ i, i ≤ n.toNatClampNeg ∧ rest = List.range' i (n.toNatClampNeg - i) ∧ s' = kx_mf s c comp n.toNatClampNeg m.toNatClampNeg i) _ _ ⟨0, Nat.zero_le _, rfl, ?_⟩ ?_ ?_
  · show s.pushCell _ = s.pushCell _
    congr 1
  · rintro x rest s' d' acts' Q' ⟨i, hi, hl, rfl⟩ hnext
    have hlt : i < n.toNatClampNeg := by
      rcases Nat.lt_or_ge i n.toNatClampNeg with g | g
      · exact g
      · rw [show n.toNatClampNeg - i = 0 from by omega] at hl; simp at hl
    obtain ⟨rfl, hrest⟩ : x = i ∧ rest = List.range' (i + 1) (n.toNatClampNeg - (i + 1)) := by
      rw [show n.toNatClampNeg - i = (n.toNatClampNeg - (i + 1)) + 1 from by omega, List.range'_succ] at hl
      exact ⟨(List.cons.inj hl).1, (List.cons.inj hl).2⟩
    obtain ⟨f1, f2, f3, f4⟩ := kx_mf_f s c comp n.toNatClampNeg m.toNatClampNeg x
    have hmul : x * m.toNatClampNeg + m.toNatClampNeg ≤ n.toNatClampNeg * m.toNatClampNeg := by
      have := Nat.mul_le_mul_right m.toNatClampNeg (show x + 1 ≤ n.toNatClampNeg from hlt)
      rw [Nat.succ_mul] at this; exact this
    simp only [wp_bind']
    rw [multianewarray.make]
    simp only [wp_bind', W.ite, hm, if_false, wp_pure', W.theClass, f3, hkc, hkindc, Option.some.injEq, exists_eq_left']
    refine kx_na (by rw [f3]; exact hkc) hkindc hl2 hh2 rfl rfl (by rw [f1]; omega) (by rw [f4]; omega) ?_
    have hlt0 : s.heap.size < (kx_mf s c comp n.toNatClampNeg m.toNatClampNeg x).heap.size := by rw [f1]; omega
    simp only [wp_bind', W.writeLoc, wp_pure']
    refine ⟨kx_mo c n.toNatClampNeg s.heap.size x, by rw [State.heap_pushCell_of_lt (h := hlt0)]; exact f2, by simp [kx_mo, arrV], by simp only [kx_mo, arrV_size]; exact hlt, ?_, hnext _ _ _ ⟨x + 1, hlt, hrest, ?_⟩⟩
    · simp [kx_mo, arrV, State.fitsSlot, State.slotType?, f3, hk, hkind, fits]
    · rw [f1, kx_mo_set]
      rfl
  · rintro s' d' acts' ⟨i, hi, hl, rfl⟩
    have hiN : i = n.toNatClampNeg := by
      rcases Nat.lt_or_ge i n.toNatClampNeg with g | g
      · rw [show n.toNatClampNeg - i = (n.toNatClampNeg - (i + 1)) + 1 from by omega, List.range'_succ] at hl; cases hl
      · omega
    subst hiN
    simp only [wp_pure']
    exact hq _ _
end KXI
section KXJ
variable {p : Program} {l : Launch} {e : Env} {R : Room} {s : State} {m : MethodId} {args : Array Value} {below : List Frame} {meth : Method} {c : Code} {T : State} {locs : List Loc} {cells slots : Nat}
theorem kx_mfS (X : Stand p l e R s m args below meth c T locs cells slots) (cA comp : ClassId) (N K : Nat) :
    ∀ i, Stand p l e R s m args below meth c (kx_mf T cA comp N K i) (locs ++ (List.range i).map fun j => ⟨T.heap.size, j⟩) (cells + 1 + i) (slots + N + i * K)
  | 0 => by
    have h := X.pushed (kx_mo cA N T.heap.size 0)
    rw [show (kx_mo cA N T.heap.size 0).slots.size = N from arrV_size _ _ _] at h
    simpa [kx_mf] using h
  | i + 1 => by
    have Xi := kx_mfS X cA comp N K i
    obtain ⟨f1, f2, f3, f4⟩ := kx_mf_f T cA comp N K i
    have hlt0 : T.heap.size < (kx_mf T cA comp N K i).heap.size := by rw [f1]; omega
    have hcell : ((kx_mf T cA comp N K i).pushCell (arrV comp K (fun _ => .int 0))).heap[T.heap.size]? = some (kx_mo cA N T.heap.size i) := by rw [State.heap_pushCell_of_lt (h := hlt0)]; exact f2
    have h := (Xi.pushed (arrV comp K (fun _ => .int 0))).stored hcell i (.ref (T.heap.size + 1 + i))
    rw [kx_mo_set, arrV_size] at h
    have e2 : (locs ++ (List.range (i + 1)).map fun j => (⟨T.heap.size, j⟩ : Loc)) = (locs ++ (List.range i).map fun j => (⟨T.heap.size, j⟩ : Loc)) ++ [⟨T.heap.size, i⟩] := by simp [List.range_succ, List.append_assoc]
    have e3 : slots + N + (i + 1) * K = slots + N + i * K + K := by rw [Nat.succ_mul]; omega
    rw [e2, e3]
    exact h
end KXJ
theorem kx_aov {A : Array Value} {U : State} (h : (Cond.arrayOver (.array .int)).before A U = true) : ∃ (comp c : ClassId) (k : Class), U.vm.findClass "[I" = some comp ∧ U.vm.classes[c]? = some k ∧ k.kind = .array comp (.array .int) ∧ U.vm.findClass "[[I" = some c := by
  simp only [Cond.before, Cond.holds, Cond.value, beq_iff_eq] at h
  cases hc : U.vm.findClass (FieldType.array .int).toString with
  | none => simp [hc] at h
  | some comp =>
    simp only [hc, Option.bind_some, Option.bind_eq_some_iff, Option.map_eq_some_iff] at h
    obtain ⟨c, hi, k, hk, hb⟩ := h
    obtain ⟨hlt, hp, -⟩ := Array.findIdx?_eq_some_iff_getElem.mp hi
    have hkk : U.vm.classes[c] = k := (Array.getElem?_eq_some_iff.mp hk).2
    rw [hkk] at hp
    cases hkind : k.kind with
    | array component ty =>
      rw [hkind] at hb hp
      simp at hb hp
      exact ⟨comp, c, k, hc, hk, by rw [hkind, hp, hb.1], hb.2⟩
    | _ => rw [hkind] at hb; simp at hb
section KXU
variable {G : kx_G} {l : Launch} {M : kx_M} {d : Nat} {Q : Outcome → kx_H → Prop} {kc ks pc : Nat} {lv : kx_L} {st : List Value} {h : kx_H}
/-- the outer array, then the inner ones behind it -/
def kx_mh (h : kx_H) (to ti N K : Nat) : kx_H := (h.1 + 1 + N, fun a => if a = h.1 then .inl (to, N, .inr (.inr (.inr (.inr (fun j => if j < N then some (h.1 + 1 + j) else none))))) else if h.1 < a ∧ a ≤ h.1 + N then .inl (ti, K, .inl (fun _ => 0)) else h.2 a)
set_option maxHeartbeats 4000000 in
theorem kx_mul {idx to ti : Nat} {n k : Int32} {N K : Nat} (hto : kx_at[to]? = some (.array .int)) (hti : kx_at[ti]? = some .int) (hln : Cond.classLink M.1.cls idx "[[I" ∈ kx_ws) (hov : Cond.arrayOver (.array .int) ∈ kx_ws) (hn : ¬ n < 0) (hk : ¬ k < 0) (hN : n.toNatClampNeg = N) (hK0 : k.toNatClampNeg = K) (hNb : N ≤ 100000) (hKb : K ≤ 100000)
    (hd : decode M.2.1 pc = .ok (.multianewarray idx 2, 4)) (kk : kx_w G l M d Q kc ks (pc + 4) lv (.ref h.1 :: st) (kx_mh h to ti N K)) : kx_w G l M d Q (kc + (1 + N)) (ks + (N + N * K)) pc lv (.int k :: .int n :: st) h := by
  subst hN
  subst hK0
  intro p e R s m args below meth c X H locs ls cells slots hh hS hl q1 q2 T hT Y
  have hX := X
  obtain ⟨hx, hb, hml, hown, -, hlk, -, htab, hK, hbs, hfr, hlo, -⟩ := hX
  have hpl : e.platform.magicAccessors = ({} : Platform).magicAccessors := by rw [Y.admits.platform]
  obtain ⟨hArO, hRAO⟩ := kx_tyR hK hto
  obtain ⟨hArI, hRAI⟩ := kx_tyR hK hti
  have hfo : s.vm.findClass "[[I" = some (G.2.2.1 to) := hRAO
  have hfi : s.vm.findClass "[I" = some (G.2.2.1 ti) := hRAI
  obtain ⟨-, kC, hkC, cc, hkindC⟩ := hArI 0 (fun _ => .null)
  have hkC' : s.vm.classes[G.2.2.1 ti]? = some kC := hkC
  obtain ⟨comp, cO, kA, z1, hkA', hkindA, z2⟩ := kx_aov (hK.2.1 _ hov args)
  cases Option.some.inj (z1.symm.trans hfi)
  cases Option.some.inj (z2.symm.trans hfo)
  obtain ⟨c0, hfc0, hcl⟩ := Cond.classLink_spec hown (hK.2.1 _ hln args) e.platform hpl
  cases Option.some.inj (hfo.symm.trans hfc0)
  obtain ⟨w1, w2, w3⟩ := State.classEntry (e := e) Y.warmed hcl
  generalize T.vm.noted m.cls idx (.cls (G.2.2.1 to)) = vm₁ at w1 w2 w3
  have hal : s.vm.Alike vm₁ := w2.alike
  obtain ⟨kA₁, hkA₁, heA⟩ := hal.2.2 _ _ hkA'
  obtain ⟨kC₁, hkC₁, heC⟩ := hal.2.2 _ _ hkC'
  have hkindA₁ : kA₁.kind = .array (G.2.2.1 ti) (.array .int) := by rw [heA]; exact hkindA
  have hkindC₁ : kC₁.kind = .array cc .int := by rw [heC]; exact hkindC
  have X₁ := Y.noted w2
  have hr1 := Y.cellsAbove (n := 1 + n.toNatClampNeg) (by omega)
  have hr2 := Y.slotsAbove (n := n.toNatClampNeg + n.toNatClampNeg * k.toNatClampNeg) (by omega)
  have XF := kx_mfS X₁ (G.2.2.1 to) (G.2.2.1 ti) n.toNatClampNeg k.toNatClampNeg n.toNatClampNeg
  have hl1 : ¬ n.toNatClampNeg > e.platform.arrayLengthLimit := by rw [Launch.admits_arrayLengthLimit Y.admits]; omega
  have hh1 : ¬ n.toNatClampNeg * componentBytes (.array .int) > e.platform.maxHeapBytes := by
    rw [Launch.admits_maxHeapBytes Y.admits]; show ¬ n.toNatClampNeg * 4 > 536870912; omega
  have hl2 : ¬ k.toNatClampNeg > e.platform.arrayLengthLimit := by rw [Launch.admits_arrayLengthLimit Y.admits]; omega
  have hh2 : ¬ k.toNatClampNeg * componentBytes .int > e.platform.maxHeapBytes := by
    rw [Launch.admits_maxHeapBytes Y.admits]; show ¬ k.toNatClampNeg * 4 > 536870912; omega
  have hTh : (T.setVm vm₁).heap = H := hT
  obtain ⟨f1, f2, -, -⟩ := kx_mf_f (T.setVm vm₁) (G.2.2.1 to) (G.2.2.1 ti) n.toNatClampNeg k.toNatClampNeg n.toNatClampNeg
  have fo : ∀ a : Nat, a < H.size → (kx_mf (T.setVm vm₁) (G.2.2.1 to) (G.2.2.1 ti) n.toNatClampNeg k.toNatClampNeg n.toNatClampNeg).heap[a]? = H[a]? := fun a ha => by
    rw [kx_mf_old (T.setVm vm₁) _ _ _ _ (by rw [hTh]; exact ha), hTh]
  have fi := kx_mf_in (T.setVm vm₁) (G.2.2.1 to) (G.2.2.1 ti) n.toNatClampNeg k.toNatClampNeg n.toNatClampNeg
  have ftop := kx_mf_top (T.setVm vm₁) { (F0 m pc ls (.int k :: .int n :: st)) with stack := st } (G.2.2.1 to) (G.2.2.1 ti) n.toNatClampNeg k.toNatClampNeg n.toNatClampNeg
  rw [hTh] at f1 f2 fi
  have hsz : H.size = h.1 := hh.1
  have hTs : T.heap.size = h.1 := by rw [hT]; exact hsz
  have hnew : kx_hp G (kx_mh h to ti n.toNatClampNeg k.toNatClampNeg) (kx_mf (T.setVm vm₁) (G.2.2.1 to) (G.2.2.1 ti) n.toNatClampNeg k.toNatClampNeg n.toNatClampNeg).heap := by
    refine ⟨by rw [f1, hsz]; rfl, Nat.le_trans hh.2.1 (by show h.1 ≤ h.1 + 1 + n.toNatClampNeg; omega), fun a ha hl9 => ?_⟩
    have hl8 : a < h.1 + 1 + n.toNatClampNeg := hl9
    by_cases e1 : a = h.1
    · subst e1
      simp only [kx_mh, if_true]
      show _ = some (vp_cell _ _)
      rw [← hsz, f2, vp_cell_q, hsz]
      unfold kx_mo
      congr 2
    · by_cases e2 : h.1 < a ∧ a ≤ h.1 + n.toNatClampNeg
      · simp only [kx_mh, if_neg e1, if_pos e2]
        show _ = some (vp_cell _ _)
        obtain ⟨j, rfl⟩ : ∃ j, a = h.1 + 1 + j := ⟨a - h.1 - 1, by omega⟩
        have := fi j (by omega)
        rw [hsz] at this
        rw [this, vp_cell_i]
      · simp only [kx_mh, if_neg e1, if_neg e2]
        exact (hh.2.2 a ha (by omega)).kept (fo a (by omega))
  have hS' : va_S (fun q => G.1 ≤ q) s.heap (kx_mf (T.setVm vm₁) (G.2.2.1 to) (G.2.2.1 ti) n.toNatClampNeg k.toNatClampNeg n.toNatClampNeg).heap (locs ++ (List.range n.toNatClampNeg).map fun j => ⟨(T.setVm vm₁).heap.size, j⟩) := by
    refine ⟨by rw [f1]; have := hS.1; omega, fun x y1 y2 => (fo x (Nat.lt_of_lt_of_le y1 hS.1)).trans (hS.2.1 x y1 y2), fun q hq => ?_⟩
    rcases List.mem_append.mp hq with z | z
    · exact hS.2.2 q z
    · obtain ⟨j, -, hz⟩ := List.mem_map.mp z
      rw [← hz]
      show G.1 ≤ (T.setVm vm₁).heap.size
      rw [hTh, hsz]
      exact hh.2.1
  obtain ⟨t, a1, b1⟩ := kk p e R s m args below meth c X _ _ ls (cells + 1 + n.toNatClampNeg) (slots + n.toNatClampNeg + n.toNatClampNeg * k.toNatClampNeg) hnew hS' hl (by omega) (by omega) _ rfl XF
  refine ⟨t, ?_, b1⟩
  have hdg : decode c.code pc = .ok (.multianewarray idx 2, 4) := by rw [hb]; exact hd
  jvm_step Y.here [hx, hdg]
  simp only [multianewarray.sem, wp_bind', W.resolveClassAt_links (State.method?_setTop (F0 m pc ls (.int k :: .int n :: st)) Y.here.top) w1]
  rw [W.popN, if_neg (by decide)]
  refine ⟨F0 m pc ls (.int k :: .int n :: st), State.topJava?_setTop' (s := T.setVm vm₁) _ Y.here.top, [.int n, .int k], st, rfl, rfl, ?_⟩
  simp only [List.mapM_cons, List.mapM_nil, wp_bind', wp_pure']
  refine kx_mk2 (k := kA₁) (kc := kC₁) (comp := G.2.2.1 ti) (cc := cc) hkA₁ hkindA₁ hkC₁ hkindC₁ hn hk hl1 hh1 hl2 hh2 (by show T.heap.size + 1 + _ ≤ _; omega) (by show T.slotsUsed + _ + _ ≤ _; omega) (fun d' acts' => ?_)
  have eS : ((T.setTop (F0 m pc ls (.int k :: .int n :: st))).setVm vm₁).setTop { (F0 m pc ls (.int k :: .int n :: st)) with stack := st } = (T.setVm vm₁).setTop { (F0 m pc ls (.int k :: .int n :: st)) with stack := st } := by
    show ((T.setVm vm₁).setTop _).setTop _ = _
    rw [State.setTop_setTop]
  rw [eS, ftop]
  simp only [wp_bind', W.mark, W.pushRef, State.topJava?_setTop' _ XF.here.top, Option.some.injEq, exists_eq_left', State.setTop_setTop, State.heap_setTop]
  intro acts
  simp [jvm, XF.here.top]
  rw [hTs]
  exact a1
end KXU
