/-! ===== the law: what its own steps need ===== -/
section KL0
variable {G : kx_G} {l : Launch} {M : kx_M} {d : Nat} {Q : Outcome → kx_H → Prop} {kc ks pc : Nat} {lv : kx_L} {st : List Value} {h : kx_H} {m : Nat} {S S1 : Nat → Int32} {A A1 : Nat → Nat → Int32} {Z : cZ}
theorem kx_lcmpE {x : Int64} (hd : decode M.2.1 pc = .ok (.lcmp, 1)) (k : kx_w G l M d Q kc ks (pc + 1) lv (.int 0 :: st) h) : kx_w G l M d Q kc ks pc lv (.long x :: .long x :: st) h := by
  intro p e R s m args below meth c X H locs ls cells slots hh hS hl q1 q2 T hT Y
  obtain ⟨t, a, b⟩ := k p e R s m args below meth c X H locs ls cells slots hh hS hl q1 q2 T hT Y
  refine ⟨t, ?_, b⟩
  have hexec := X.1
  have hb := X.2.1
  have e1 : ¬ x < x := Int64.lt_irrefl
  jvm_step Y.here [Y.here.top, hexec, hb, hd, e1]
  exact a
theorem kx_lldN {a : Nat} {f : Nat → Int64} {x : Int64} (hd : decode M.2.1 pc = .ok (.laload, 1)) (hc : kx_is G h a (kLa f)) (hx : f 0 = x) (kk : kx_w G l M d Q kc ks (pc + 1) lv (.long x :: st) h) : kx_w G l M d Q kc ks pc lv (.int 0 :: .ref a :: st) h := by
  refine kx_lld rfl hd hc (vp_in_nI (n := 0) (N := 1) (by decide) (by decide)) ?_
  subst hx; exact kk
theorem kx_dldN {a : Nat} {f : Nat → UInt64} {x : UInt64} (hd : decode M.2.1 pc = .ok (.daload, 1)) (hc : kx_is G h a (kDa f)) (hx : f 0 = x) (kk : kx_w G l M d Q kc ks (pc + 1) lv (.double x :: st) h) : kx_w G l M d Q kc ks pc lv (.int 0 :: .ref a :: st) h := by
  refine kx_dld rfl hd hc (vp_in_nI (n := 0) (N := 1) (by decide) (by decide)) ?_
  subst hx; exact kk
/-! the script -/
abbrev gS (G : kx_G) : Nat := G.2.2.2.2.1
abbrev gN (G : kx_G) : Nat := G.2.2.2.2.2.1
abbrev gF (G : kx_G) : Nat → Int32 := G.2.2.2.2.2.2
theorem kx_sldN {i : Nat} (hd : decode M.2.1 pc = .ok (.iaload, 1)) (hN : gN G ≤ 3584) (hi : i < gN G) (kk : kx_w G l M d Q kc ks (pc + 1) lv (.int (gF G i) :: st) h) : kx_w G l M d Q kc ks pc lv (.int (nI i) :: .ref (gS G) :: st) h := by
  have hN' : G.2.2.2.2.2.1 ≤ 3584 := hN
  have hi' : i < G.2.2.2.2.2.1 := hi
  refine kx_sld hd (vp_in_nI hi' (by omega)) ?_
  rw [nI_clamp (by omega)]
  exact kk
theorem kx_sleN (hd : decode M.2.1 pc = .ok (.arraylength, 1)) (kk : kx_w G l M d Q kc ks (pc + 1) lv (.int (nI (gN G)) :: st) h) : kx_w G l M d Q kc ks pc lv (.ref (gS G) :: st) h := kx_sle hd kk
theorem law_cmp {n i : Nat} (hn : n ≤ 3584) (hi : i ≤ 4000) : nI n - 7 < nI i ↔ n < i + 7 := by
  rw [kI_lt, nI_toInt (by omega)]
  have e : (nI n - 7).toInt = (n : Int) - 7 := by
    rw [Int32.toInt_sub, nI_toInt (by omega)]
    have z : (7 : Int32).toInt = 7 := rfl
    rw [z]
    show Int.bmod _ _ = _
    rw [Int.bmod_eq_of_le (by omega) (by omega)]
  rw [e]; omega
theorem kW_al : Cond.arrayClass .long ∈ kx_ws := kx_all (l := [Cond.arrayClass .long]) (by decide +kernel) _ (List.mem_singleton.mpr rfl)
theorem kW_ad : Cond.arrayClass .double ∈ kx_ws := kx_all (l := [Cond.arrayClass .double]) (by decide +kernel) _ (List.mem_singleton.mpr rfl)
theorem kx_nwl (hd : decode M.2.1 pc = .ok (.newarray .long, 2)) (kk : kx_w G l M d Q kc ks (pc + 2) lv (.ref h.1 :: st) (kx_new h (kLa (fun _ => 0)))) : kx_w G l M d Q (kc + 1) (ks + 1) pc lv (.int 1 :: st) h := kx_newi (t := 8) (ty := .long) rfl rfl kW_al ⟨rfl, rfl⟩ (fun cA => by rw [vp_cell_l]; rfl) (by decide) (by decide) (by decide) hd kk
theorem kx_nwd (hd : decode M.2.1 pc = .ok (.newarray .double, 2)) (kk : kx_w G l M d Q kc ks (pc + 2) lv (.ref h.1 :: st) (kx_new h (kDa (fun _ => 0)))) : kx_w G l M d Q (kc + 1) (ks + 1) pc lv (.int 1 :: st) h := kx_newi (t := 9) (ty := .double) rfl rfl kW_ad ⟨rfl, rfl⟩ (fun cA => by rw [vp_cell_d]; rfl) (by decide) (by decide) (by decide) hd kk
/-! the reference stands where it stands -/
theorem a0 (hZ : cOk G m S A h Z) : kx_is G h m (.inr (8, mF m S)) := ⟨hZ.b1, by have := hZ.b2; omega, by
  have := hZ.blk.1 m (Nat.le_refl _) (by omega)
  rw [Nat.sub_self] at this; exact this⟩
theorem mH_19 : (mH h m S A).2 (m + 19) = h.2 (m + 19) := by
  show (if m ≤ m + 19 ∧ m + 19 ≤ m + 18 then _ else _) = _
  rw [if_neg (by omega)]
theorem mH_20 : (mH h m S A).2 (m + 20) = h.2 (m + 20) := by
  show (if m ≤ m + 20 ∧ m + 20 ≤ m + 18 then _ else _) = _
  rw [if_neg (by omega)]
theorem i19 {f : Nat → Int64} (hZ : cOk G m S A h Z) (hf : h.2 (m + 19) = kLa f) : kx_is G h (m + 19) (kLa f) := ⟨by have := hZ.b1; omega, by have := hZ.b2; omega, hf⟩
theorem i20 {f : Nat → UInt64} (hZ : cOk G m S A h Z) (hf : h.2 (m + 20) = kDa f) : kx_is G h (m + 20) (kDa f) := ⟨by have := hZ.b1; omega, by have := hZ.b2; omega, hf⟩
theorem thr_at (hst : l.stackTraces = false) (hZ : cOk G m S A h Z) : kx_c G l mM_thrown 19 0 0 [.ref m] h (fun o h' => o = .returned (some (.int (S 0))) ∧ h' = h) :=
  kx_ch (cz_mH hZ) (kx_cc (fun o h' hq => ⟨hq.1, hq.2.trans (cz_mH hZ).symm⟩) (cM_thrown hst (cz_mOk hZ)))
end KL0
