/-! ===== what is known of the machine's tables, and stays known ===== -/
def kx_okw (w : Cond) : Bool := (w.onTables && w.keeps) || (match w with
  | .arrayClass _ => true
  | .fieldLinkNest _ _ _ _ _ _ => true
  | .methodLinkNest _ _ _ _ => true
  | .castable _ _ => true
  | .declares _ => true
  | .stringRef _ _ _ => true
  | .arrayOver (.object _) => true
  | .arrayOver (.array _) => true
  | .not (.castable _ _) => true
  | _ => false)
theorem kx_wm {w : Cond} (hk : kx_okw w = true) {A A' : Array Value} {s U : State} (hW : s.WarmedH U.vm) (h : w.before A s = true) : w.before A' U = true := by
  by_cases hb : (w.onTables && w.keeps) = true
  · exact word_at hW (Or.inl hb) h
  · unfold kx_okw at hk
    rw [Bool.or_eq_true] at hk
    rcases hk with hk | hk
    · exact absurd hk hb
    · split at hk
      · exact word_at hW (Or.inr ⟨_, rfl⟩) h
      · exact va_Nw.use rfl (va_Nw.warmF hW (va_Nw.of rfl h))
      · exact va_Nw.use rfl (va_Nw.warmM hW (va_Nw.of rfl h))
      · exact va_Nw.use rfl (va_Nw.warmC hW (va_Nw.of rfl h))
      · exact va_Nw.use rfl (va_Nw.warmD hW (va_Nw.of rfl h))
      · have h9 := Cond.stringRef_warmed hW h
        first
          | exact va_tabs rfl (rfl : (s.setVm U.vm).vm = U.vm) h9
          | (simp only [Cond.before, Cond.holds, Cond.value, State.names, State.poolOf?, State.resolvedAt?] at h9 ⊢; exact h9)
      · exact va_AO.use (va_AO.moved hW.alike (va_AO.of h))
      · exact over_moved hW.alike h
      · obtain ⟨c, t, h1, h2, h3⟩ := va_Nc.moved hW.alike (va_Nc.of h)
        simp [Cond.before, Cond.holds, Cond.value, h1, h2, h3]
      · cases hk
def kx_LS (C n d : String) (A : Nat → Prop) (U : State) (H : Heap) : Prop := ∃ (c : ClassId) (k : Class) (i : Nat) (f : Field) (a : Nat) (cell : Cell), U.vm.findClass C = some c ∧ U.fieldFound? C n d = some (c, k, i, f) ∧ f.isStatic = true ∧ k.statics = some a ∧ H[a]? = some cell ∧ cell.vm.isStatics = true ∧ cell.cls = c ∧ f.slot < cell.slots.size ∧ k.staticTypes[f.slot]? = some f.type ∧ ¬ A a
theorem kx_LS.moved {C n d : String} {A : Nat → Prop} {u U : State} {H H1 : Heap} (hvm : u.vm.Alike U.vm) (hq : ∀ a : Nat, a < H.size → ¬ A a → H1[a]? = H[a]?) (h : kx_LS C n d A u H) : kx_LS C n d A U H1 := by
  obtain ⟨c, k, i, f, a, cell, h1, h2, h3, h4, h5, h6, h7, h8, h9, h10⟩ := h
  obtain ⟨k', hi', he⟩ := State.fieldFound?_setVm hvm h2
  exact ⟨c, k', i, f, a, cell, by rw [hvm.findClass]; exact h1, hi', h3, by rw [he]; exact h4, by rw [hq a (Array.getElem?_eq_some_iff.mp h5).1 h10]; exact h5, h6, h7, h8, by rw [he]; exact h9, h10⟩
theorem kx_LS.word {C n d : String} {A : Nat → Prop} {s : State} {B : Array Value} (h : kx_LS C n d A s s.heap) : (Cond.laysStatic C n d).before B s = true := by
  obtain ⟨c, k, i, f, a, cell, h1, h2, h3, h4, h5, h6, h7, h8, h9, -⟩ := h
  show (Cond.laysStatic C n d).holds B s none s [] = true
  exact Cond.laysStatic_of h1 h2 h3 h4 h5 h6 h7 h8 h9
theorem kx_LS.of {C n d : String} {A : Nat → Prop} {s : State} {B : Array Value} (h : (Cond.laysStatic C n d).before B s = true) (hA : ∀ a : Nat, a < s.heap.size → ¬ A a) : kx_LS C n d A s s.heap := by
  obtain ⟨c, k, i, f, a, cell, h1, h2, h3, h4, h5, h6, h7, h8, h9⟩ := Cond.laysStatic_spec h
  exact ⟨c, k, i, f, a, cell, h1, h2, h3, h4, h5, h6, h7, h8, h9, hA a (Array.getElem?_eq_some_iff.mp h5).1⟩
theorem kx_Zw {C n d : String} {A : Nat → Prop} {s : State} {B : Array Value} (h : va_Zq C n d A s s.heap) : (Cond.isRef (.static C n d)).before B s = true := by
  have key : ∀ v : Value, v.isRef = true → va_Z C n d v A s s.heap → (Cond.isRef (.static C n d)).before B s = true := by
    intro v hv hz
    obtain ⟨cf, kf, fi, f, a, cell, h1, h2, h3, h4, h5, h6, h7, -⟩ := hz
    have he : (Term.static C n d).eval B s none [] s = some v := by
      simp [Term.eval, State.fieldNamed?, h1, h2, h4, h5, h6, h7]
    simp only [Cond.before, Cond.holds, Cond.value, he]
    cases v <;> simp_all [Value.isRef]
  rcases h with h | ⟨t, h⟩
  · exact key _ rfl h
  · exact key _ rfl h
/-- the words that stay -/
def kx_ws : List Cond := kx_tb.filter kx_okw
theorem kx_by {w : Cond} (n : Nat) (h : kx_tb[n]? = some w) (h2 : kx_okw w = true) : w ∈ kx_ws := List.mem_filter.mpr ⟨List.mem_of_getElem? h, h2⟩
/-- where the walk's heap begins; the classes' numbers and slots; the array classes' numbers; the constants' addresses; the script's address, length, ints -/
abbrev kx_G : Type := Nat × va_G × (Nat → ClassId) × (Nat → Nat) × Nat × Nat × (Nat → Int32)
abbrev kx_En (G : kx_G) (U : State) (H : Heap) : Prop := va_En "VersionedTables$State" "LVersionedTables$State;" ["OPEN", "DONE", "BROKEN"] [] G.2.2.2.1 (fun q => G.1 ≤ q) U H
/-- what stood there before the walk, and is never written -/
def kx_St (G : kx_G) (U : State) (H : Heap) : Prop := kx_En G U H ∧ (va_Zq Bundle.tN "UNASSIGNED_STACK" Bundle.steD (fun q => G.1 ≤ q) U H ∧ kx_LS Bundle.tN "UNASSIGNED_STACK" Bundle.steD (fun q => G.1 ≤ q) U H) ∧ (va_Zq Bundle.tN "SUPPRESSED_SENTINEL" Bundle.listD (fun q => G.1 ≤ q) U H ∧ kx_LS Bundle.tN "SUPPRESSED_SENTINEL" Bundle.listD (fun q => G.1 ≤ q) U H) ∧ va_X G.2.2.2.2.1 G.2.2.2.2.2.1 G.2.2.2.2.2.2 U H ∧ G.2.2.2.2.1 < G.1
def kx_wz : List Cond := [.isRef (.static Bundle.tN "UNASSIGNED_STACK" Bundle.steD), .isRef (.static Bundle.tN "SUPPRESSED_SENTINEL" Bundle.listD), .laysStatic Bundle.tN "UNASSIGNED_STACK" Bundle.steD, .laysStatic Bundle.tN "SUPPRESSED_SENTINEL" Bundle.listD]
def kx_tys (G : kx_G) : List (ClassId × FieldType) := (List.range kx_at.length).map fun t => (G.2.2.1 t, kx_at.getD t .int)
theorem kx_tys_at (G : kx_G) {t : Nat} {ty : FieldType} (h : kx_at[t]? = some ty) : (kx_tys G)[t]? = some (G.2.2.1 t, ty) := by
  have hl : t < kx_at.length := (List.getElem?_eq_some_iff.mp h).1
  have h2 : kx_at.getD t .int = ty := by rw [List.getD_eq_getElem?_getD, h]; rfl
  unfold kx_tys
  rw [List.getElem?_map, List.getElem?_range hl]
  simp only [Option.map_some, h2]
/-- what is known of the machine's tables, and of what stood there before the walk -/
def kx_K (G : kx_G) (U : State) : Prop := va_K G.2.1 kx_cl (kx_tys G) U ∧ (∀ w ∈ kx_ws, ∀ A : Array Value, w.before A U = true) ∧ kx_St G U U.heap
theorem kx_St.moved {G : kx_G} {u U : State} {H H1 : Heap} (hvm : u.vm.Alike U.vm) (hq : ∀ a : Nat, a < H.size → ¬ G.1 ≤ a → H1[a]? = H[a]?) (h : kx_St G u H) : kx_St G U H1 := by
  obtain ⟨h1, ⟨h2, h3⟩, ⟨h4, h5⟩, h6, h7⟩ := h
  refine ⟨(h1.kept hq).moved hvm, ⟨(h2.kept hq).moved hvm, h3.moved hvm hq⟩, ⟨(h4.kept hq).moved hvm, h5.moved hvm hq⟩, ?_, h7⟩
  obtain ⟨scr, g1, g2, g3, g4, g5⟩ := h6
  refine ⟨scr, ?_, State.isArrayOf_alike hvm g2, g3, g4, g5⟩
  rw [hq _ (Array.getElem?_eq_some_iff.mp g1).1 (by omega)]
  exact g1
theorem kx_K.moved {G : kx_G} {s U : State} {H : Heap} {locs : List Loc} (h : kx_K G s) (hW : s.WarmedH U.vm) (hT : U.heap = H) (hS : va_S (fun q => G.1 ≤ q) s.heap H locs) (hb : G.1 ≤ s.heap.size) : kx_K G U := by
  refine ⟨va_K.moved hW.alike h.1, fun w hw A => ?_, ?_⟩
  · exact kx_wm (List.mem_filter.mp hw).2 hW (h.2.1 w hw A)
  · rw [hT]
    exact kx_St.moved hW.alike (fun a h1 h2 => hS.2.1 a h1 h2) h.2.2
theorem kx_K.z {G : kx_G} {U : State} (h : kx_K G U) : ∀ w ∈ kx_wz, ∀ A : Array Value, w.before A U = true := by
  intro w hw A
  obtain ⟨-, ⟨h2, h3⟩, ⟨h4, h5⟩, -⟩ := h.2.2
  simp only [kx_wz, List.mem_cons, List.not_mem_nil, or_false] at hw
  rcases hw with rfl | rfl | rfl | rfl
  · exact kx_Zw h2
  · exact kx_Zw h4
  · exact h3.word
  · exact h5.word
theorem kx_K.calling {G : kx_G} {U : State} {g : JFrame} {mk : MethodId} {a : Array Value} (h : kx_K G U) : kx_K G (U.calling g mk a) := by
  refine ⟨va_K.moved (u := U) (U := U.calling g mk a) (Vm.Alike.refl U.vm) h.1, fun w hw A => kx_wm (List.mem_filter.mp hw).2 (State.WarmedH.refl U) (h.2.1 w hw A), ?_⟩
  exact kx_St.moved (u := U) (U := U.calling g mk a) (H := U.heap) (H1 := U.heap) (Vm.Alike.refl U.vm) (fun _ _ _ => rfl) h.2.2
