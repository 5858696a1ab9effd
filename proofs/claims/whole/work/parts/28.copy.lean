/-! ===== System.arraycopy of ints ===== -/
section KXY
variable {G : kx_G} {l : Launch} {M : kx_M} {d : Nat} {Q : Outcome → kx_H → Prop} {kc ks pc : Nat} {lv : kx_L} {st : List Value} {h : kx_H}
theorem kx_cpy {idx a0 a t n0 n1 : Nat} {f g : Nat → Int32} {sp dp n : Int32} (hln : Cond.methodLink M.1.cls idx arraycopyName ∈ kx_ws) (hnat : Cond.native arraycopyName ∈ kx_ws) (hstt : Cond.static arraycopyName ∈ kx_ws) (hini : Cond.initialized "java/lang/System" ∈ kx_ws) (ht : kx_at[t]? = some .int) (hd : decode M.2.1 pc = .ok (.invokestatic idx, 3)) (hst : (st.map fun v => v.category).sum ≤ 8)
    (hc0 : kx_is G h a0 (.inl (t, n0, .inl f))) (hc1 : kx_is G h a (.inl (t, n1, .inl g))) (h1 : ¬ sp < 0) (h2 : ¬ dp < 0) (h3 : ¬ n < 0) (h4 : sp.toNatClampNeg + n.toNatClampNeg ≤ n0) (h5 : dp.toNatClampNeg + n.toNatClampNeg ≤ n1)
    (kk : kx_w G l M d Q kc ks (pc + 3) lv st (kx_set h a (.inl (t, n1, .inl (va_cpy f g sp.toNatClampNeg dp.toNatClampNeg n.toNatClampNeg))))) : kx_w G l M d Q kc ks pc lv (.int n :: .int dp :: .ref a :: .int sp :: .ref a0 :: st) h := by
  intro p e R s m args below meth c X H locs ls cells slots hh hS hl q1 q2 T hT Y
  have hX := X
  obtain ⟨hx, hb, hml, hown, -, hlk, -, htab, hK, hbs, hfr, hlo, -⟩ := hX
  have nn : ∀ z : Int32, ¬ z < 0 → z.toInt = (z.toNatClampNeg : Int) := by
    intro z hz
    have hz0 : (0 : Int) ≤ z.toInt := by simpa using Int32.le_iff_toInt_le.mp (Int32.not_lt.mp hz)
    show z.toInt = ((z.toInt.toNat : Nat) : Int)
    omega
  have g0 : H[a0]? = some (vp_cell (G.2.2.1 t) (n0, .inl f)) := hh.at hc0
  have g1 : H[a]? = some (vp_cell (G.2.2.1 t) (n1, .inl g)) := hh.at hc1
  obtain ⟨-, k0, hk0, cm0, hkk0⟩ := (kx_tyR hK ht).1 n0 (fun j => .int (f j))
  obtain ⟨-, k1, hk1, cm1, hkk1⟩ := (kx_tyR hK ht).1 n1 (fun j => .int (g j))
  obtain ⟨vm', X', step⟩ := Y.arraycopy hx hown (hK.2.1 _ hln args) (hK.2.1 _ hnat args) (hK.2.1 _ hstt args) (hK.2.1 _ hini args) (src := a0) (dst := a) (cs := vp_cell (G.2.2.1 t) (n0, .inl f)) (cd := vp_cell (G.2.2.1 t) (n1, .inl g)) (srcPos := sp) (destPos := dp) (n := n) (by rw [hT]; exact g0) (by rw [hT]; exact g1)
    (fun _ z => by cases z) (fun _ z => by cases z) (fun z => by cases z) (fun z => by cases z) hk0 hk1 hkk0 hkk1 (by decide) h1 h2 h3
    (by rw [nn sp h1, nn n h3]; show ¬ _ > ((arrV _ n0 (fun j => .int (f j))).slots.size : Int); rw [arrV_size]; omega)
    (by rw [nn dp h2, nn n h3]; show ¬ _ > ((arrV _ n1 (fun j => .int (g j))).slots.size : Int); rw [arrV_size]; omega)
    (fun vm₁ _ i hi => by
      have e9 : (vp_cell (G.2.2.1 t) (n0, .inl f)).slots.getD (sp.toNatClampNeg + i) .null = .int (f (sp.toNatClampNeg + i)) := by
        show (arrV _ n0 (fun j => .int (f j))).slots.getD _ _ = _
        rw [Array.getD_eq_getD_getElem?, arrV_read _ _ (by omega)]
        rfl
      refine ⟨?_, ?_⟩
      · rw [e9]
        rfl
      · rw [e9]
        exact trivial)
    (g := F0 m pc ls (.int n :: .int dp :: .ref a :: .int sp :: .ref a0 :: st)) rfl (by rw [hml]; exact hl.1) (rest := st) rfl (by rw [hb]; exact hd) (by omega) (by show 2 * 0 + _ + (nativeFrameWords "java/lang/System" "arraycopy" 5 + 11) ≤ _; have z9 : nativeFrameWords "java/lang/System" "arraycopy" 5 ≤ 300 := (by decide +kernel); omega)
  have e1 : copied (vp_cell (G.2.2.1 t) (n0, .inl f)) (vp_cell (G.2.2.1 t) (n1, .inl g)) sp dp n = vp_cell (G.2.2.1 t) (n1, .inl (va_cpy f g sp.toNatClampNeg dp.toNatClampNeg n.toNatClampNeg)) := va_copied (fun z => .int z) _ _ f g h4
  rw [e1] at X' step
  generalize hcell : vp_cell (G.2.2.1 t) (n1, .inl (va_cpy f g sp.toNatClampNeg dp.toNatClampNeg n.toNatClampNeg)) = cl at X' step
  have hlt : a < H.size := (Array.getElem?_eq_some_iff.mp g1).1
  have hheap : ((T.setVm vm').setCell a cl).heap = H.setIfInBounds a cl := by rw [← hT]; rfl
  have oq : ∀ q : Nat, q ≠ a → (H.setIfInBounds a cl)[q]? = H[q]? := fun q hq => by simp [Array.getElem?_setIfInBounds, Ne.symm hq]
  have zz : (H.setIfInBounds a cl).size = H.size := by simp
  have hat : va_at G.2.1 kx_cl (a, kx_cv G (.inl (t, n1, .inl (va_cpy f g sp.toNatClampNeg dp.toNatClampNeg n.toNatClampNeg)))) (H.setIfInBounds a cl) := by
    show (H.setIfInBounds a cl)[a]? = some (vp_cell _ _)
    rw [hcell]
    simp [Array.getElem?_setIfInBounds, hlt]
  have hS' : va_S (fun q => G.1 ≤ q) s.heap (H.setIfInBounds a cl) (locs ++ ((vp_cell (G.2.2.1 t) (n0, .inl f)).stretch sp.toNatClampNeg n.toNatClampNeg).zipIdx.map fun q => ⟨a, dp.toNatClampNeg + q.2⟩) := by
    refine ⟨by rw [zz]; exact hS.1, fun q y1 y2 => ?_, fun q hq => ?_⟩
    · rw [oq q (fun e9 => y2 (by rw [e9]; exact hc1.1))]
      exact hS.2.1 q y1 y2
    · rcases List.mem_append.mp hq with z | z
      · exact hS.2.2 q z
      · obtain ⟨z1, -, hz⟩ := List.mem_map.mp z
        rw [← hz]
        exact hc1.1
  obtain ⟨t9, a1, b1⟩ := kk p e R s m args below meth c X (H.setIfInBounds a cl) _ ls cells slots (hh.set hat zz oq) hS' hl q1 q2 _ hheap X'
  exact ⟨t9, step t9 a1, b1⟩
end KXY
