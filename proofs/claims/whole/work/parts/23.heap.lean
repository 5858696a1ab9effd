section KXH
variable {G : kx_G} {l : Launch} {M : kx_M} {d : Nat} {Q : Outcome → kx_H → Prop} {kc ks pc : Nat} {lv : kx_L} {st : List Value} {h : kx_H} {t : kx_T}
/-! fields are written -/
theorem kx_putf {a ci k N idx : Nat} {C : String} {T : u_T} {ty0 : Nat → FieldType} {ty : FieldType} {fs : List Value} {v : Value} (hcl : kx_cl[ci]? = some (C, T, N)) (hin : ∀ w ∈ u_ws C T N, w ∈ kx_ws) (hty : ∀ k, k < N → parseFieldDescriptor (T k).2.2.1 = some (ty0 k)) (hnm : ∀ a, a < N → ∀ b, b < N → a ≠ b → (T a).2.1 ≠ (T b).2.1)
    (hk : k < N) (hln : Cond.fieldLink M.1.cls idx (T k).1 (T k).2.1 (T k).2.2.1 ∈ kx_ws) (hfin : (T k).2.2.2 = false) (hd0 : parseFieldDescriptor (T k).2.2.1 = some ty)
    (hd : decode M.2.1 pc = .ok (.putfield idx, 3)) (hc : kx_is G h a (.inr (ci, fs))) (hn : narrow ty v = v) (hfit : fits ty v = true) (hlen : k < fs.length) (kk : kx_w G l M d Q kc ks (pc + 3) lv st (kx_set h a (.inr (ci, fs.set k v)))) : kx_w G l M d Q kc ks pc lv (v :: .ref a :: st) h := by
  intro p e R s m args below meth c X H locs ls cells slots hh hS hl q1 q2
  obtain ⟨hx, hb, hml, hown, -, -, -, -, hK, -⟩ := id X
  have hts : ∀ w ∈ kx_ws, w.before args s = true := fun w hw => hK.2.1 w hw args
  have hap := va_apart (own := M.1.cls) hts hin ty0 hty hnm hK.1 hcl
  obtain ⟨r, g1, cell, g2, g3, g4, g5⟩ := hh.at hc
  have hr : r = (C, T, N) := Option.some.inj (g1.symm.trans hcl)
  subst hr
  obtain ⟨hSl, hfc, kC, hkC, hkind⟩ := hK.1.1 ci _ hcl
  obtain ⟨cf, kf, fi, f, hi, hsl⟩ := hSl k hk
  have hlay := hts _ (hin _ (u_in_lay hk))
  unfold u_lay at hlay
  rw [if_neg (by rw [hfin]; decide)] at hlay
  have hst := (u_facts hfc hkC (u_lays hts hin hk) hi).1
  have h6 := u_store hfc hkC hkind hlay hi hd0 hn hfit
  refine W.putK hx hb (f := f) ⟨hown, hts _ hln, ⟨_, _, _, hi⟩, hst⟩ (by rw [g3]; exact h6) g2 g4 (by rw [hsl]; exact k2_hasslot (g5 k hk)) rfl rfl hd fun H' e1 e2 e3 => ?_
  rw [hsl] at e1 ⊢
  exact kk p e R s m args below meth c X H' _ ls cells slots (hh.set ⟨_, hcl, t_OB.to (V := updV (vp_V fs) k v) ⟨_, e1, g3, g4, t_set g5 hap hk v⟩ (fun j _ => vp_updV_set hlen v j)⟩ e2 e3) (hS.put e2 e3 hc.1) hl q1 q2
theorem kx_putn {a ci k N idx : Nat} {C host : String} {T : u_T} {ty0 : Nat → FieldType} {ty : FieldType} {fs : List Value} {v : Value} (hcl : kx_cl[ci]? = some (C, T, N)) (hin : ∀ w ∈ u_ws C T N, w ∈ kx_ws) (hty : ∀ k, k < N → parseFieldDescriptor (T k).2.2.1 = some (ty0 k)) (hnm : ∀ a, a < N → ∀ b, b < N → a ≠ b → (T a).2.1 ≠ (T b).2.1)
    (hk : k < N) (hln : Cond.fieldLinkNest M.1.cls idx (T k).1 (T k).2.1 (T k).2.2.1 host ∈ kx_ws) (hfin : (T k).2.2.2 = false) (hd0 : parseFieldDescriptor (T k).2.2.1 = some ty)
    (hd : decode M.2.1 pc = .ok (.putfield idx, 3)) (hc : kx_is G h a (.inr (ci, fs))) (hn : narrow ty v = v) (hfit : fits ty v = true) (hlen : k < fs.length) (kk : kx_w G l M d Q kc ks (pc + 3) lv st (kx_set h a (.inr (ci, fs.set k v)))) : kx_w G l M d Q kc ks pc lv (v :: .ref a :: st) h := by
  intro p e R s m args below meth c X H locs ls cells slots hh hS hl q1 q2
  obtain ⟨hx, hb, hml, hown, -, -, -, -, hK, -⟩ := id X
  have hts : ∀ w ∈ kx_ws, w.before args s = true := fun w hw => hK.2.1 w hw args
  have hap := va_apart (own := M.1.cls) hts hin ty0 hty hnm hK.1 hcl
  obtain ⟨r, g1, cell, g2, g3, g4, g5⟩ := hh.at hc
  have hr : r = (C, T, N) := Option.some.inj (g1.symm.trans hcl)
  subst hr
  obtain ⟨hSl, hfc, kC, hkC, hkind⟩ := hK.1.1 ci _ hcl
  obtain ⟨cf, kf, fi, f, hi, hsl⟩ := hSl k hk
  have hlay := hts _ (hin _ (u_in_lay hk))
  unfold u_lay at hlay
  rw [if_neg (by rw [hfin]; decide)] at hlay
  have hst := (u_facts hfc hkC (u_lays hts hin hk) hi).1
  have h6 := u_store hfc hkC hkind hlay hi hd0 hn hfit
  refine va_WputK hx hb (f := f) hown (hts _ hln) hi hst (by rw [g3]; exact h6) g2 g4 (by rw [hsl]; exact k2_hasslot (g5 k hk)) rfl rfl hd fun H' e1 e2 e3 => ?_
  rw [hsl] at e1 ⊢
  exact kk p e R s m args below meth c X H' _ ls cells slots (hh.set ⟨_, hcl, t_OB.to (V := updV (vp_V fs) k v) ⟨_, e1, g3, g4, t_set g5 hap hk v⟩ (fun j _ => vp_updV_set hlen v j)⟩ e2 e3) (hS.put e2 e3 hc.1) hl q1 q2
/-- a final field, in its own constructor -/
theorem kx_puti {a ci k N idx : Nat} {C : String} {T : u_T} {ty0 : Nat → FieldType} {ty : FieldType} {fs : List Value} {v : Value} (hcl : kx_cl[ci]? = some (C, T, N)) (hin : ∀ w ∈ u_ws C T N, w ∈ kx_ws) (hty : ∀ k, k < N → parseFieldDescriptor (T k).2.2.1 = some (ty0 k)) (hnm : ∀ a, a < N → ∀ b, b < N → a ≠ b → (T a).2.1 ≠ (T b).2.1)
    (hk : k < N) (hln : Cond.fieldLink M.1.cls idx (T k).1 (T k).2.1 (T k).2.2.1 ∈ kx_ws) (hfin : (T k).2.2.2 = true) (hnmI : M.1.name = "<init>") (hdecl : (T k).1 = M.1.cls) (hd0 : parseFieldDescriptor (T k).2.2.1 = some ty)
    (hd : decode M.2.1 pc = .ok (.putfield idx, 3)) (hc : kx_is G h a (.inr (ci, fs))) (hn : narrow ty v = v) (hfit : fits ty v = true) (hlen : k < fs.length) (kk : kx_w G l M d Q kc ks (pc + 3) lv st (kx_set h a (.inr (ci, fs.set k v)))) : kx_w G l M d Q kc ks pc lv (v :: .ref a :: st) h := by
  intro p e R s m args below meth c X H locs ls cells slots hh hS hl q1 q2
  obtain ⟨hx, hb, hml, hown, -, -, hmn, -, hK, -⟩ := id X
  have hts : ∀ w ∈ kx_ws, w.before args s = true := fun w hw => hK.2.1 w hw args
  have hap := va_apart (own := M.1.cls) hts hin ty0 hty hnm hK.1 hcl
  obtain ⟨r, g1, cell, g2, g3, g4, g5⟩ := hh.at hc
  have hr : r = (C, T, N) := Option.some.inj (g1.symm.trans hcl)
  subst hr
  obtain ⟨hSl, hfc, kC, hkC, hkind⟩ := hK.1.1 ci _ hcl
  obtain ⟨cf, kf, fi, f, hi, hsl⟩ := hSl k hk
  have hlay := hts _ (hin _ (u_in_lay hk))
  unfold u_lay at hlay
  rw [if_pos hfin] at hlay
  have hst := (u_facts hfc hkC (u_lays hts hin hk) hi).1
  have hcf : m.cls = cf := by
    obtain ⟨_, _, c', _, _, _, -, -, hf', -, -, -, hown2, -⟩ := Cond.laysFinal_spec hlay
    have e1 : c' = cf := by have := hi.symm.trans hf'; simp at this; exact this.1.symm
    rw [hdecl] at hown2
    rw [← e1]; exact Option.some.inj (hown.symm.trans hown2)
  have h6 := u_fits hfc hkC hkind (Or.inr hlay) hi hd0 hn hfit
  refine W.putFinK hx hb hown (hts _ hln) hi hst hcf (hmn.trans hnmI) (by rw [g3]; exact h6) g2 g4 (by rw [hsl]; exact k2_hasslot (g5 k hk)) rfl rfl hd fun H' e1 e2 e3 => ?_
  rw [hsl] at e1 ⊢
  exact kk p e R s m args below meth c X H' _ ls cells slots (hh.set ⟨_, hcl, t_OB.to (V := updV (vp_V fs) k v) ⟨_, e1, g3, g4, t_set g5 hap hk v⟩ (fun j _ => vp_updV_set hlen v j)⟩ e2 e3) (hS.put e2 e3 hc.1) hl q1 q2
/-! arrays -/
theorem kx_tyR {U : State} {t : Nat} {ty : FieldType} (hK : kx_K G U) (ht : kx_at[t]? = some ty) : ArrOfT U (G.2.2.1 t) ty ∧ va_RA U (G.2.2.1 t) ty := hK.1.2 t _ (kx_tys_at G ht)
theorem kx_ild {a t n : Nat} {f : Nat → Int32} {i : Int32} (ht : kx_at[t]? = some .int) (hd : decode M.2.1 pc = .ok (.iaload, 1)) (hc : kx_is G h a (.inl (t, n, .inl f))) (hin : vp_in i n)
    (kk : kx_w G l M d Q kc ks (pc + 1) lv (.int (f i.toNatClampNeg) :: st) h) : kx_w G l M d Q kc ks pc lv (.int i :: .ref a :: st) h := by
  intro p e R s m args below meth c X H locs ls cells slots hh hS hl q1 q2
  obtain ⟨hx, hb, hml, hown, -, -, -, -, hK, -⟩ := id X
  exact va_iald hx hb hK.1 (hh.P hc) 0 t rfl (kx_tys_at G ht) hin hd (kk p e R s m args below meth c X H locs ls cells slots hh hS hl q1 q2)
theorem kx_lld {a t n : Nat} {f : Nat → Int64} {i : Int32} (ht : kx_at[t]? = some .long) (hd : decode M.2.1 pc = .ok (.laload, 1)) (hc : kx_is G h a (.inl (t, n, .inr (.inl f)))) (hin : vp_in i n)
    (kk : kx_w G l M d Q kc ks (pc + 1) lv (.long (f i.toNatClampNeg) :: st) h) : kx_w G l M d Q kc ks pc lv (.int i :: .ref a :: st) h := by
  intro p e R s m args below meth c X H locs ls cells slots hh hS hl q1 q2
  obtain ⟨hx, hb, hml, hown, -, -, -, -, hK, -⟩ := id X
  exact va_lald hx hb hK.1 (hh.P hc) 0 t rfl (kx_tys_at G ht) hin hd (kk p e R s m args below meth c X H locs ls cells slots hh hS hl q1 q2)
theorem kx_dld {a t n : Nat} {f : Nat → UInt64} {i : Int32} (ht : kx_at[t]? = some .double) (hd : decode M.2.1 pc = .ok (.daload, 1)) (hc : kx_is G h a (.inl (t, n, .inr (.inr (.inr (.inl f)))))) (hin : vp_in i n)
    (kk : kx_w G l M d Q kc ks (pc + 1) lv (.double (f i.toNatClampNeg) :: st) h) : kx_w G l M d Q kc ks pc lv (.int i :: .ref a :: st) h := by
  intro p e R s m args below meth c X H locs ls cells slots hh hS hl q1 q2
  obtain ⟨hx, hb, hml, hown, -, -, -, -, hK, -⟩ := id X
  exact va_dald hx hb hK.1 (hh.P hc) 0 t rfl (kx_tys_at G ht) hin hd (kk p e R s m args below meth c X H locs ls cells slots hh hS hl q1 q2)
/-- a reference is read, out of an array of objects or of arrays -/
theorem kx_qld {a t n : Nat} {f : Nat → Option Nat} {i : Int32} {ty : FieldType} (ht : kx_at[t]? = some ty) (hrt : ty.isReference = true) (hd : decode M.2.1 pc = .ok (.aaload, 1)) (hc : kx_is G h a (.inl (t, n, .inr (.inr (.inr (.inr f)))))) (hin : vp_in i n)
    (kk : kx_w G l M d Q kc ks (pc + 1) lv (va_rf (f i.toNatClampNeg) :: st) h) : kx_w G l M d Q kc ks pc lv (.int i :: .ref a :: st) h := by
  intro p e R s m args below meth c X H locs ls cells slots hh hS hl q1 q2
  obtain ⟨hx, hb, hml, hown, -, -, -, -, hK, -⟩ := id X
  have hlt : i.toNatClampNeg < n := Nat.not_le.mp fun q => hin (Or.inr q)
  exact W.aald (v := va_rf (f i.toNatClampNeg)) (ty := ty) hx hb (hh.at hc) ((kx_tyR hK ht).1 n (fun j => va_rf (f j))) hrt (fun q => by cases q) (by show ¬ (i < 0 ∨ (arrV _ _ _).slots.size ≤ _); rw [arrV_size]; exact hin) (by show (arrV _ _ _).slots[_]? = _; rw [arrV_read _ _ hlt]) rfl rfl hd (kk p e R s m args below meth c X H locs ls cells slots hh hS hl q1 q2)
theorem kx_alen {a t : Nat} {x : vp_A} {ty : FieldType} (ht : kx_at[t]? = some ty) (hd : decode M.2.1 pc = .ok (.arraylength, 1)) (hc : kx_is G h a (.inl (t, x)))
    (kk : kx_w G l M d Q kc ks (pc + 1) lv (.int (Int32.ofNat x.1) :: st) h) : kx_w G l M d Q kc ks pc lv (.ref a :: st) h := by
  intro p e R s m args below meth c X H locs ls cells slots hh hS hl q1 q2
  obtain ⟨hx, hb, hml, hown, -, -, -, -, hK, -⟩ := id X
  exact va_alen hx hb hK.1 (hh.P hc) 0 t rfl (kx_tys_at G ht) rfl hd (kk p e R s m args below meth c X H locs ls cells slots hh hS hl q1 q2)
theorem kx_ist {a t n : Nat} {f : Nat → Int32} {i x : Int32} (ht : kx_at[t]? = some .int) (hd : decode M.2.1 pc = .ok (.iastore, 1)) (hc : kx_is G h a (.inl (t, n, .inl f))) (hin : vp_in i n)
    (kk : kx_w G l M d Q kc ks (pc + 1) lv st (kx_set h a (.inl (t, n, .inl (va_up f i.toNatClampNeg x))))) : kx_w G l M d Q kc ks pc lv (.int x :: .int i :: .ref a :: st) h := by
  intro p e R s m args below meth c X H locs ls cells slots hh hS hl q1 q2
  obtain ⟨hx, hb, hml, hown, -, -, -, -, hK, -⟩ := id X
  refine W.iast hx hb (hh.at hc) ((kx_tyR hK ht).1 n (fun j => .int (f j))) (fun q => by cases q) (by show ¬ (i < 0 ∨ (arrV _ _ _).slots.size ≤ _); rw [arrV_size]; exact hin) rfl rfl hd fun H1 e1 z oq => ?_
  refine kk p e R s m args below meth c X H1 _ ls cells slots (hh.set ?_ z oq) (hS.put z oq hc.1) hl q1 q2
  show H1[a]? = some (vp_cell _ _)
  rw [e1]
  show some ((arrV _ _ _).setSlot _ _) = _
  rw [vp_cell_i, arrV_store]
  congr 2
  funext q
  by_cases hq : q = i.toNatClampNeg
  · subst hq
    simp [updV, va_up]
  · simp [updV, va_up, hq]
theorem kx_lst {a t n : Nat} {f : Nat → Int64} {i : Int32} {x : Int64} (ht : kx_at[t]? = some .long) (hd : decode M.2.1 pc = .ok (.lastore, 1)) (hc : kx_is G h a (.inl (t, n, .inr (.inl f)))) (hin : vp_in i n)
    (kk : kx_w G l M d Q kc ks (pc + 1) lv st (kx_set h a (.inl (t, n, .inr (.inl (va_up f i.toNatClampNeg x)))))) : kx_w G l M d Q kc ks pc lv (.long x :: .int i :: .ref a :: st) h := by
  intro p e R s m args below meth c X H locs ls cells slots hh hS hl q1 q2
  obtain ⟨hx, hb, hml, hown, -, -, -, -, hK, -⟩ := id X
  refine W.last hx hb (hh.at hc) ((kx_tyR hK ht).1 n (fun j => .long (f j))) (fun q => by cases q) (by show ¬ (i < 0 ∨ (arrV _ _ _).slots.size ≤ _); rw [arrV_size]; exact hin) rfl rfl hd fun H1 e1 z oq => ?_
  refine kk p e R s m args below meth c X H1 _ ls cells slots (hh.set ?_ z oq) (hS.put z oq hc.1) hl q1 q2
  show H1[a]? = some (vp_cell _ _)
  rw [e1]
  show some ((arrV _ _ _).setSlot _ _) = _
  rw [vp_cell_l, arrV_store]
  congr 2
  funext q
  by_cases hq : q = i.toNatClampNeg
  · subst hq
    simp [updV, va_up]
  · simp [updV, va_up, hq]
theorem kx_dst {a t n : Nat} {f : Nat → UInt64} {i : Int32} {x : UInt64} (ht : kx_at[t]? = some .double) (hd : decode M.2.1 pc = .ok (.dastore, 1)) (hc : kx_is G h a (.inl (t, n, .inr (.inr (.inr (.inl f)))))) (hin : vp_in i n)
    (kk : kx_w G l M d Q kc ks (pc + 1) lv st (kx_set h a (.inl (t, n, .inr (.inr (.inr (.inl (va_up f i.toNatClampNeg x)))))))) : kx_w G l M d Q kc ks pc lv (.double x :: .int i :: .ref a :: st) h := by
  intro p e R s m args below meth c X H locs ls cells slots hh hS hl q1 q2
  obtain ⟨hx, hb, hml, hown, -, -, -, -, hK, -⟩ := id X
  refine W.dast hx hb (hh.at hc) ((kx_tyR hK ht).1 n (fun j => .double (f j))) (fun q => by cases q) (by show ¬ (i < 0 ∨ (arrV _ _ _).slots.size ≤ _); rw [arrV_size]; exact hin) rfl rfl hd fun H1 e1 z oq => ?_
  refine kk p e R s m args below meth c X H1 _ ls cells slots (hh.set ?_ z oq) (hS.put z oq hc.1) hl q1 q2
  show H1[a]? = some (vp_cell _ _)
  rw [e1]
  show some ((arrV _ _ _).setSlot _ _) = _
  rw [vp_cell_d, arrV_store]
  congr 2
  funext q
  by_cases hq : q = i.toNatClampNeg
  · subst hq
    simp [updV, va_up]
  · simp [updV, va_up, hq]
/-- an object of the walk's heap is put into an array of its class -/
theorem kx_qst {a t n v ci N : Nat} {C : String} {T : u_T} {fs : List Value} {f : Nat → Option Nat} {i : Int32} (ht : kx_at[t]? = some (.object C)) (hcl : kx_cl[ci]? = some (C, T, N)) (hd : decode M.2.1 pc = .ok (.aastore, 1)) (hc : kx_is G h a (.inl (t, n, .inr (.inr (.inr (.inr f)))))) (hv : kx_is G h v (.inr (ci, fs))) (hin : vp_in i n)
    (kk : kx_w G l M d Q kc ks (pc + 1) lv st (kx_set h a (.inl (t, n, .inr (.inr (.inr (.inr (va_up f i.toNatClampNeg (some v))))))))) : kx_w G l M d Q kc ks pc lv (.ref v :: .int i :: .ref a :: st) h := by
  intro p e R s m args below meth c X H locs ls cells slots hh hS hl q1 q2
  obtain ⟨hx, hb, hml, hown, -, -, -, -, hK, -⟩ := id X
  have hlt : i.toNatClampNeg < n := Nat.not_le.mp fun q => hin (Or.inr q)
  have h0 : ¬ i < 0 := fun q => hin (Or.inl q)
  obtain ⟨r', hr', cellV, g1, g2, g3, -⟩ := hh.at hv
  have hcls := (hK.1.1 ci _ hcl).2
  obtain ⟨kA, comp, k1, k2, k3, -⟩ := (kx_tyR hK ht).2
  have hcomp : comp = G.2.1.1 ci := Option.some.inj (k3.symm.trans hcls.1)
  subst hcomp
  obtain ⟨kC, hkC, -⟩ := hcls.2
  refine W.aast hx hb (hh.at hc) (fun q h => by cases h) (fun h => by cases h) k1 k2 rfl hkC ⟨h0, by show _ < (arrV _ _ _).slots.size; rw [arrV_size]; exact hlt⟩ g1 (fun q h => by rw [g3] at h; cases h) (by rw [g2]; exact hkC) (by rw [g2]; exact va_assign hcls) rfl rfl hd fun H1 e1 z oq => ?_
  refine kk p e R s m args below meth c X H1 _ ls cells slots (hh.set ?_ z oq) (hS.put z oq hc.1) hl q1 q2
  show H1[a]? = some (vp_cell _ _)
  rw [e1]
  show some ((arrV _ _ _).setSlot _ _) = _
  rw [vp_cell_q, arrV_store]
  congr 2
  funext q
  by_cases hq : q = i.toNatClampNeg
  · subst hq
    simp [updV, va_up, va_rf]
  · simp [updV, va_up, hq]
theorem kx_qstN {a t n : Nat} {C : String} {f : Nat → Option Nat} {i : Int32} (ht : kx_at[t]? = some (.object C)) (hd : decode M.2.1 pc = .ok (.aastore, 1)) (hc : kx_is G h a (.inl (t, n, .inr (.inr (.inr (.inr f)))))) (hin : vp_in i n)
    (kk : kx_w G l M d Q kc ks (pc + 1) lv st (kx_set h a (.inl (t, n, .inr (.inr (.inr (.inr (va_up f i.toNatClampNeg none)))))))) : kx_w G l M d Q kc ks pc lv (.null :: .int i :: .ref a :: st) h := by
  intro p e R s m args below meth c X H locs ls cells slots hh hS hl q1 q2
  obtain ⟨hx, hb, hml, hown, -, -, -, -, hK, -⟩ := id X
  refine va_WaastN (C := C) hx hb (hh.at hc) ((kx_tyR hK ht).1 n (fun j => va_rf (f j))) (fun h => by cases h) (by show ¬ (i < 0 ∨ (arrV _ _ _).slots.size ≤ _); rw [arrV_size]; exact hin) rfl rfl hd fun H1 e1 z oq => ?_
  refine kk p e R s m args below meth c X H1 _ ls cells slots (hh.set ?_ z oq) (hS.put z oq hc.1) hl q1 q2
  show H1[a]? = some (vp_cell _ _)
  rw [e1]
  show some ((arrV _ _ _).setSlot _ _) = _
  rw [vp_cell_q, arrV_store]
  congr 2
  funext q
  by_cases hq : q = i.toNatClampNeg
  · subst hq
    simp [updV, va_up, va_rf]
  · simp [updV, va_up, hq]
/-! new objects and arrays -/
theorem kx_newo {ci N idx : Nat} {C : String} {T : u_T} {ty0 : Nat → FieldType} {fs : List Value} (hcl : kx_cl[ci]? = some (C, T, N)) (hin : ∀ w ∈ u_ws C T N, w ∈ kx_ws) (hty : ∀ k, k < N → parseFieldDescriptor (T k).2.2.1 = some (ty0 k)) (hln : Cond.classLink M.1.cls idx C ∈ kx_ws) (hins : Cond.instantiable C N ∈ kx_ws) (hini : Cond.initialized C ∈ kx_ws) (hfs : ∀ j, j < N → defaultValue (ty0 j) = vp_V fs j)
    (hd : decode M.2.1 pc = .ok (.new idx, 3)) (kk : kx_w G l M d Q kc ks (pc + 3) lv (.ref h.1 :: st) (kx_new h (.inr (ci, fs)))) : kx_w G l M d Q (kc + 1) (ks + N) pc lv st h := by
  intro p e R s m args below meth c X H locs ls cells slots hh hS hl q1 q2
  obtain ⟨hx, hb, hml, hown, -, -, -, -, hK, -⟩ := id X
  have hts : ∀ w ∈ kx_ws, w.before args s = true := fun w hw => hK.2.1 w hw args
  have hKn := hK.1.1 ci _ hcl
  refine W.newcK hx hb hown (hts _ hln) (hts _ hins) (hts _ hini) rfl hd (by omega) (by omega) hKn.2.1 hh.1 fun H1 kC hkC e1 z1 o1 => ?_
  refine kk p e R s m args below meth c X H1 locs ls (cells + 1) (slots + N) (hh.push ⟨_, hcl, (u_born ty0 hts hin hKn hkC e1 hty).to hfs⟩ (by rw [hh.1]; exact z1) (by rw [hh.1]; exact o1)) (kx_S.push hS (by rw [hh.1]; exact z1) (by rw [hh.1]; exact o1)) hl (by omega) (by omega)
theorem kx_newi {t : Nat} {ty : FieldType} {atype : ArrayType} {n : Int32} {N : Nat} {a0 : vp_A} (ht : kx_at[t]? = some ty) (hat : newarray.typeOf atype = ty) (hw : Cond.arrayClass ty ∈ kx_ws) (hnr : va_RA = va_RA ∧ ty.isReference = false) (ha : ∀ cA : ClassId, vp_cell cA a0 = arrV cA N (fun _ => defaultValue ty)) (hn : ¬ n < 0) (hN : n.toNatClampNeg = N) (hby : N * componentBytes ty ≤ 536870912)
    (hd : decode M.2.1 pc = .ok (.newarray atype, 2)) (kk : kx_w G l M d Q kc ks (pc + 2) lv (.ref h.1 :: st) (kx_new h (.inl (t, a0)))) : kx_w G l M d Q (kc + 1) (ks + N) pc lv (.int n :: st) h := by
  subst hat
  intro p e R s m args below meth c X H locs ls cells slots hh hS hl q1 q2
  obtain ⟨hx, hb, hml, hown, -, -, -, -, hK, -⟩ := id X
  refine va_newaK hx hb (hK.2.1 _ hw args) rfl hd rfl hn hN hby (by omega) (by omega) hh.1 fun H1 cA e1 z1 o1 hAr hNm => ?_
  have hcA : cA = G.2.2.1 t := by
    have h9 := (kx_tyR hK ht).2
    cases atype <;> exact Option.some.inj (hNm.symm.trans h9)
  subst hcA
  refine kk p e R s m args below meth c X H1 locs ls (cells + 1) (slots + N) (hh.push ?_ (by rw [hh.1]; exact z1) (by rw [hh.1]; exact o1)) (kx_S.push hS (by rw [hh.1]; exact z1) (by rw [hh.1]; exact o1)) hl (by omega) (by omega)
  show H1[h.1]? = some (vp_cell _ _)
  rw [ha]
  exact e1
theorem kx_newq {t idx : Nat} {C : String} {n : Int32} {N : Nat} (ht : kx_at[t]? = some (.object C)) (hln : Cond.classLink M.1.cls idx C ∈ kx_ws) (hov : Cond.arrayOver (.object C) ∈ kx_ws) (hn : ¬ n < 0) (hN : n.toNatClampNeg = N) (hby : N * 4 ≤ 536870912)
    (hd : decode M.2.1 pc = .ok (.anewarray idx, 3)) (kk : kx_w G l M d Q kc ks (pc + 3) lv (.ref h.1 :: st) (kx_new h (.inl (t, N, .inr (.inr (.inr (.inr (fun _ => none)))))))) : kx_w G l M d Q (kc + 1) (ks + N) pc lv (.int n :: st) h := by
  subst hN
  intro p e R s m args below meth c X H locs ls cells slots hh hS hl q1 q2
  obtain ⟨hx, hb, hml, hown, -, -, -, -, hK, -⟩ := id X
  refine W.anew hx hb hown (hK.2.1 _ hln args) (hK.2.1 _ hov args) rfl hd rfl hn hby (by omega) (by omega) fun cA kA comp f1 f2 f3 f4 => ?_
  have hcA : cA = G.2.2.1 t := by
    obtain ⟨_, _, -, -, -, h9⟩ := (kx_tyR hK ht).2
    exact Option.some.inj (f1.symm.trans h9)
  subst hcA
  generalize hH1 : H.push ({ cls := G.2.2.1 t, slots := Array.replicate n.toNatClampNeg .null, vm := .none } : Cell) = H1
  have z1 : H1.size = H.size + 1 := by rw [← hH1, Array.size_push]
  have e1 : H1[H.size]? = some (arrV (G.2.2.1 t) n.toNatClampNeg (fun _ => .null)) := by rw [← hH1, Array.getElem?_push_size, ← arrV_new]
  have o1 : ∀ q : Nat, q < H.size → H1[q]? = H[q]? := fun q hq => by rw [← hH1, Array.getElem?_push, if_neg (Nat.ne_of_lt hq)]
  have hsz : H.size = h.1 := hh.1
  rw [hsz]
  refine kk p e R s m args below meth c X H1 locs ls (cells + 1) (slots + n.toNatClampNeg) (hh.push ?_ z1 o1) (kx_S.push hS z1 o1) hl (by omega) (by omega)
  show H1[h.1]? = some (vp_cell _ _)
  rw [vp_cell_q, ← hsz]
  exact e1
/-! Object.<init>, Math.max -/
theorem kx_obj {a idx : Nat} (hln : Cond.methodLink M.1.cls idx Lib.objectInit ∈ kx_ws) (hi : Cond.instanceMethod Lib.objectInit ∈ kx_ws) (hcd : Cond.code Lib.objectInit ⟨#[0xb1]⟩ 1 none ∈ kx_ws) (hst : (st.map fun v => v.category).sum ≤ 8)
    (hd : decode M.2.1 pc = .ok (.invokespecial idx, 3)) (kk : kx_w G l M d Q kc ks (pc + 3) lv st h) : kx_w G l M d Q kc ks pc lv (.ref a :: st) h := by
  intro p e R s m args below meth c X H locs ls cells slots hh hS hl q1 q2
  obtain ⟨hx, hb, hml, hown, -, -, -, -, hK, -, hfr, hlo, -⟩ := id X
  refine W.objInit hx hb hown (hK.2.1 _ hln args) (hK.2.1 _ hi args) (hK.2.1 _ hcd args) rfl (by rw [hml]; exact hl.1) rfl hd (by omega) (by show 2 * 0 + _ + 12 ≤ _; omega) ?_
  exact kk p e R s m args below meth c X H locs ls cells slots hh hS hl q1 q2
theorem kx_max {idx : Nat} {x y : Int32} (hln : Cond.methodLink M.1.cls idx Lib.Math.max.name ∈ kx_ws) (hs : Cond.static Lib.Math.max.name ∈ kx_ws) (hi : Cond.initialized "java/lang/Math" ∈ kx_ws) (hcd : Cond.code Lib.Math.max.name Lib.Math.max.code 2 (some .int) ∈ kx_ws) (hst : (st.map fun v => v.category).sum ≤ 8)
    (hd : decode M.2.1 pc = .ok (.invokestatic idx, 3)) (kk : kx_w G l M d Q kc ks (pc + 3) lv (.int (if x < y then y else x) :: st) h) : kx_w G l M d Q kc ks pc lv (.int y :: .int x :: st) h := by
  intro p e R s m args below meth c X H locs ls cells slots hh hS hl q1 q2
  obtain ⟨hx, hb, hml, hown, -, -, -, -, hK, -, hfr, hlo, -⟩ := id X
  exact va_mmax hx hb (by rw [hml]; exact hl.1.symm) hown (hK.2.1 _ hln args) (hK.2.1 _ hs args) (hK.2.1 _ hi args) (hK.2.1 _ hcd args) (by omega) (by omega) (by omega) (by omega) hd (kk p e R s m args below meth c X H locs ls cells slots hh hS hl q1 q2)
/-! the end of a method -/
theorem kx_mq {p : Program} {e : Env} {R : Room} {s : State} {m : MethodId} {args : Array Value} {below : List Frame} {meth : Method} {c : Code} {H : Heap} {locs : List Loc} {cells slots : Nat} {g : JFrame} {r : Option Value} (hc : cells ≤ R.cells) (hs : slots ≤ R.slots) (hh : kx_hp G h H) (hq : Q (.returned r) h)
    (k : W p l e R s m args below meth c H locs R.cells R.slots (MQ below (fun _ _ o t => o = .returned r ∧ t.heap = H) args s R.cells R.slots (fun q => G.1 ≤ q)) g) : W p l e R s m args below meth c H locs cells slots (kx_Q G Q below s R) g := by
  refine W.widen hc hs ?_
  intro T hT X
  obtain ⟨t, a1, o, b1, b2, ⟨b3, b4⟩, L, b5, b6⟩ := k T hT X
  refine ⟨t, a1, o, h, b1, b2, by rw [b3]; exact hq, by rw [b4]; exact hh, L, ⟨b5.2.1, b5.2.2⟩, b6⟩
theorem kx_ret {x : Int32} {ty : FieldType} (hd : decode M.2.1 pc = .ok (.ireturn, 1)) (hr : M.2.2.2.1 = some ty) (hn : narrow ty (.int x) = .int x) (hq : Q (.returned (some (.int x))) h) : kx_w G l M d Q kc ks pc lv [.int x] h := by
  intro p e R s m args below meth c X H locs ls cells slots hh hS hl q1 q2
  obtain ⟨hx, hb, hml, hown, hrt, hlk, -⟩ := id X
  exact kx_mq (by omega) (by omega) hh hq (W.zret hx hb (hrt.trans hr) hn (fun t ht hW => ⟨rfl, ht⟩) hS.2.2 hd hlk)
theorem kx_retv (hd : decode M.2.1 pc = .ok (.return_, 1)) (hr : M.2.2.2.1 = none) (hq : Q (.returned none) h) : kx_w G l M d Q kc ks pc lv [] h := by
  intro p e R s m args below meth c X H locs ls cells slots hh hS hl q1 q2
  obtain ⟨hx, hb, hml, hown, hrt, hlk, -⟩ := id X
  exact kx_mq (by omega) (by omega) hh hq (W.vret hx hb (hrt.trans hr) (fun t ht hW => ⟨rfl, ht⟩) hS.2.2 hd hlk)
theorem kx_reta {x : Option Nat} {ty : FieldType} (hd : decode M.2.1 pc = .ok (.areturn, 1)) (hr : M.2.2.2.1 = some ty) (hty : (∃ n, ty = .object n) ∨ ∃ t, ty = .array t) (hq : Q (.returned (some (va_rf x))) h) : kx_w G l M d Q kc ks pc lv [va_rf x] h := by
  intro p e R s m args below meth c X H locs ls cells slots hh hS hl q1 q2
  obtain ⟨hx, hb, hml, hown, hrt, hlk, -⟩ := id X
  exact kx_mq (by omega) (by omega) hh hq (W.aret hx hb (hrt.trans hr) hty (va_rf_or x) (fun t ht hW => ⟨rfl, ht⟩) hS.2.2 hd hlk)
theorem kx_retl {x : Int64} (hd : decode M.2.1 pc = .ok (.lreturn, 1)) (hr : M.2.2.2.1 = some .long) (hq : Q (.returned (some (.long x))) h) : kx_w G l M d Q kc ks pc lv [.long x] h := by
  intro p e R s m args below meth c X H locs ls cells slots hh hS hl q1 q2
  obtain ⟨hx, hb, hml, hown, hrt, hlk, -⟩ := id X
  exact kx_mq (by omega) (by omega) hh hq (W.lret hx hb (hrt.trans hr) (fun t ht hW => ⟨rfl, ht⟩) hS.2.2 hd hlk)
theorem kx_retd {x : UInt64} (hd : decode M.2.1 pc = .ok (.dreturn, 1)) (hr : M.2.2.2.1 = some .double) (hq : Q (.returned (some (.double x))) h) : kx_w G l M d Q kc ks pc lv [.double x] h := by
  intro p e R s m args below meth c X H locs ls cells slots hh hS hl q1 q2
  obtain ⟨hx, hb, hml, hown, hrt, hlk, -⟩ := id X
  exact kx_mq (by omega) (by omega) hh hq (W.dret hx hb (hrt.trans hr) (fun t ht hW => ⟨rfl, ht⟩) hS.2.2 hd hlk)
end KXH
