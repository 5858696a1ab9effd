section KXZ
variable {G : kx_G} {l : Launch} {M : kx_M} {d : Nat} {Q : Outcome → kx_H → Prop} {kc ks pc : Nat} {lv : kx_L} {st : List Value} {h : kx_H} {t : kx_T}
theorem kx_rem {x y : Int32} (hd : decode M.2.1 pc = .ok (.irem, 1)) (hne : ¬ y = 0) (k : kx_w G l M d Q kc ks (pc + 1) lv (.int (x - x / y * y) :: st) h) : kx_w G l M d Q kc ks pc lv (.int y :: .int x :: st) h := by
  intro p e R s m args below meth c X H locs ls cells slots hh hS hl q1 q2
  exact lv_irem X.1 X.2.1 hd hne (k p e R s m args below meth c X H locs ls cells slots hh hS hl q1 q2)
theorem kx_l2d {x : Int64} (hd : decode M.2.1 pc = .ok (.l2d, 1)) (k : kx_w G l M d Q kc ks (pc + 1) lv (.double (FP.l2d x) :: st) h) : kx_w G l M d Q kc ks pc lv (.long x :: st) h := by
  intro p e R s m args below meth c X H locs ls cells slots hh hS hl q1 q2
  exact lv_l2d X.1 X.2.1 hd (k p e R s m args below meth c X H locs ls cells slots hh hS hl q1 q2)
theorem kx_ddiv {x y : UInt64} (hd : decode M.2.1 pc = .ok (.ddiv, 1)) (hne : vf_n64 (FP.ddiv x y)) (k : kx_w G l M d Q kc ks (pc + 1) lv (.double (FP.ddiv x y) :: st) h) : kx_w G l M d Q kc ks pc lv (.double y :: .double x :: st) h := by
  intro p e R s m args below meth c X H locs ls cells slots hh hS hl q1 q2
  exact lv_ddiv X.1 X.2.1 hd hne (k p e R s m args below meth c X H locs ls cells slots hh hS hl q1 q2)
theorem kx_tin {dflt lo hi off : Int} {offs : Array Int} {len tgt : Nat} {x : Int32} (hd : decode M.2.1 pc = .ok (.tableswitch dflt lo hi offs, len)) (h1 : ¬ x.toInt < lo) (h2 : ¬ hi < x.toInt) (ho : offs[(x.toInt - lo).toNat]? = some off) (ht : (pc : Int) + off = (tgt : Int)) (k : kx_w G l M d Q kc ks tgt lv st h) : kx_w G l M d Q kc ks pc lv (.int x :: st) h := by
  intro p e R s m args below meth c X H locs ls cells slots hh hS hl q1 q2
  exact lv_tableIn X.1 X.2.1 hd h1 h2 ho ht (k p e R s m args below meth c X H locs ls cells slots hh hS hl q1 q2)
theorem kx_tout {dflt lo hi : Int} {offs : Array Int} {len tgt : Nat} {x : Int32} (hd : decode M.2.1 pc = .ok (.tableswitch dflt lo hi offs, len)) (h1 : x.toInt < lo ∨ hi < x.toInt) (ht : (pc : Int) + dflt = (tgt : Int)) (k : kx_w G l M d Q kc ks tgt lv st h) : kx_w G l M d Q kc ks pc lv (.int x :: st) h := by
  intro p e R s m args below meth c X H locs ls cells slots hh hS hl q1 q2
  exact lv_tableOut X.1 X.2.1 hd h1 ht (k p e R s m args below meth c X H locs ls cells slots hh hS hl q1 q2)
theorem kx_zld {a t n : Nat} {f : Nat → Int32} {i : Int32} (ht : kx_at[t]? = some .boolean) (hd : decode M.2.1 pc = .ok (.baload, 1)) (hc : kx_is G h a (.inl (t, n, .inl f))) (hin : vp_in i n)
    (kk : kx_w G l M d Q kc ks (pc + 1) lv (.int (f i.toNatClampNeg) :: st) h) : kx_w G l M d Q kc ks pc lv (.int i :: .ref a :: st) h := by
  intro p e R s m args below meth c X H locs ls cells slots hh hS hl q1 q2
  obtain ⟨hx, hb, hml, hown, -, -, -, -, hK, -⟩ := id X
  exact va_zald hx hb hK.1 (hh.P hc) 0 t rfl (kx_tys_at G ht) hin hd (kk p e R s m args below meth c X H locs ls cells slots hh hS hl q1 q2)
theorem kx_zst {a t n : Nat} {f : Nat → Int32} {i x : Int32} (ht : kx_at[t]? = some .boolean) (hd : decode M.2.1 pc = .ok (.bastore, 1)) (hc : kx_is G h a (.inl (t, n, .inl f))) (hin : vp_in i n) (hx0 : vp_nar .boolean x = x)
    (kk : kx_w G l M d Q kc ks (pc + 1) lv st (kx_set h a (.inl (t, n, .inl (va_up f i.toNatClampNeg x))))) : kx_w G l M d Q kc ks pc lv (.int x :: .int i :: .ref a :: st) h := by
  intro p e R s m args below meth c X H locs ls cells slots hh hS hl q1 q2
  obtain ⟨hx, hb, hml, hown, -, -, -, -, hK, -⟩ := id X
  refine W.zast hx hb (hh.at hc) ((kx_tyR hK ht).1 n (fun j => .int (f j))) (fun q => by cases q) (by show ¬ (i < 0 ∨ (arrV _ _ _).slots.size ≤ _); rw [arrV_size]; exact hin) rfl rfl hd fun H1 e1 z oq => ?_
  refine kk p e R s m args below meth c X H1 _ ls cells slots (hh.set ?_ z oq) (hS.put z oq hc.1) hl q1 q2
  show H1[a]? = some (vp_cell _ _)
  rw [e1]
  show some ((arrV _ _ _).setSlot _ _) = _
  rw [vp_cell_i, arrV_store]
  congr 2
  funext q
  by_cases hq : q = i.toNatClampNeg
  · subst hq
    rw [show va_up f i.toNatClampNeg x i.toNatClampNeg = vp_nar .boolean x by rw [va_up_self, hx0]]
    simp [updV, vp_nar]
    try rfl
  · simp [updV, va_up, hq]
/-- a constant of the enum -/
theorem kx_gst {idx k : Nat} {host : String} (hk : k < 3) (hln : Cond.fieldLink M.1.cls idx "VersionedTables$State" (["OPEN", "DONE", "BROKEN"].getD k "") "LVersionedTables$State;" ∈ kx_ws ∨ Cond.fieldLinkNest M.1.cls idx "VersionedTables$State" (["OPEN", "DONE", "BROKEN"].getD k "") "LVersionedTables$State;" host ∈ kx_ws) (hd : decode M.2.1 pc = .ok (.getstatic idx, 3))
    (kk : kx_w G l M d Q kc ks (pc + 3) lv (.ref (G.2.2.2.1 k) :: st) h) : kx_w G l M d Q kc ks pc lv st h := by
  intro p e R s m args below meth c X H locs ls cells slots hh hS hl q1 q2
  obtain ⟨hx, hb, hml, hown, -, -, -, -, hK, -⟩ := id X
  have hz := (hK.2.2.1.1 k hk).1
  rcases hln with hln | hln
  · exact va_gets hx hb hz hS hown (hK.2.1 _ hln args) (fun _ z => z) hd (kk p e R s m args below meth c X H locs ls cells slots hh hS hl q1 q2)
  · exact va_getsN hx hb hz hS hown (hK.2.1 _ hln args) (fun _ z => z) hd (kk p e R s m args below meth c X H locs ls cells slots hh hS hl q1 q2)
/-- a constant is put into an array of the enum -/
theorem kx_est {a t n k : Nat} {f : Nat → Option Nat} {i : Int32} (hk : k < 3) (ht : kx_at[t]? = some (.object "VersionedTables$State")) (hd : decode M.2.1 pc = .ok (.aastore, 1)) (hc : kx_is G h a (.inl (t, n, .inr (.inr (.inr (.inr f)))))) (hin : vp_in i n)
    (kk : kx_w G l M d Q kc ks (pc + 1) lv st (kx_set h a (.inl (t, n, .inr (.inr (.inr (.inr (va_up f i.toNatClampNeg (some (G.2.2.2.1 k)))))))))) : kx_w G l M d Q kc ks pc lv (.ref (G.2.2.2.1 k) :: .int i :: .ref a :: st) h := by
  intro p e R s m args below meth c X H locs ls cells slots hh hS hl q1 q2
  obtain ⟨hx, hb, hml, hown, -, -, -, -, hK, -⟩ := id X
  have hlt : i.toNatClampNeg < n := Nat.not_le.mp fun q => hin (Or.inr q)
  have h0 : ¬ i < 0 := fun q => hin (Or.inl q)
  obtain ⟨cellV, g1, g2, g3, g4⟩ := (hK.2.2.1.1 k hk).2.1
  have hcv : H[G.2.2.2.1 k]? = some cellV := by
    rw [hS.2.1 _ (Array.getElem?_eq_some_iff.mp g1).1 g4]
    exact g1
  obtain ⟨kA, comp, k1, k2, k3, -⟩ := (kx_tyR hK ht).2
  have hcomp : comp = cellV.cls := Option.some.inj (k3.symm.trans g3)
  subst hcomp
  obtain ⟨kE, hkE, -⟩ := Vm.findClass_spec k3
  refine W.aast hx hb (hh.at hc) (fun q h => by cases h) (fun h => by cases h) k1 k2 rfl hkE ⟨h0, by show _ < (arrV _ _ _).slots.size; rw [arrV_size]; exact hlt⟩ hcv (VmData.ne_statics_of g2) hkE (va_asg _ _) rfl rfl hd fun H1 e1 z oq => ?_
  refine kk p e R s m args below meth c X H1 _ ls cells slots (hh.set ?_ z oq) (hS.put z oq hc.1) hl q1 q2
  show H1[a]? = some (vp_cell _ _)
  rw [e1]
  show some ((arrV _ _ _).setSlot _ _) = _
  rw [vp_cell_q, arrV_store]
  congr 2
  funext q
  by_cases hq : q = i.toNatClampNeg
  · subst hq
    simp [updV, va_up, va_rf]
  · simp [updV, va_up, hq]
/-! the script -/
theorem kx_sld {i : Int32} (hd : decode M.2.1 pc = .ok (.iaload, 1)) (hin : vp_in i G.2.2.2.2.2.1)
    (kk : kx_w G l M d Q kc ks (pc + 1) lv (.int (G.2.2.2.2.2.2 i.toNatClampNeg) :: st) h) : kx_w G l M d Q kc ks pc lv (.int i :: .ref G.2.2.2.2.1 :: st) h := by
  intro p e R s m args below meth c X H locs ls cells slots hh hS hl q1 q2
  obtain ⟨hx, hb, hml, hown, -, -, -, -, hK, hbs, -⟩ := id X
  obtain ⟨-, -, -, hX, hlt⟩ := hK.2.2
  exact va_sld hx hb hX (by omega) (by show ¬ G.1 ≤ G.2.2.2.2.1; omega) hS hin hd (kk p e R s m args below meth c X H locs ls cells slots hh hS hl q1 q2)
theorem kx_sle (hd : decode M.2.1 pc = .ok (.arraylength, 1))
    (kk : kx_w G l M d Q kc ks (pc + 1) lv (.int (Int32.ofNat G.2.2.2.2.2.1) :: st) h) : kx_w G l M d Q kc ks pc lv (.ref G.2.2.2.2.1 :: st) h := by
  intro p e R s m args below meth c X H locs ls cells slots hh hS hl q1 q2
  obtain ⟨hx, hb, hml, hown, -, -, -, -, hK, hbs, -⟩ := id X
  obtain ⟨-, -, -, hX, hlt⟩ := hK.2.2
  exact va_slen hx hb hX (by omega) (by show ¬ G.1 ≤ G.2.2.2.2.1; omega) hS hd (kk p e R s m args below meth c X H locs ls cells slots hh hS hl q1 q2)
end KXZ
