/-! ===== the other side: its making ===== -/
section KC47
variable {G : kx_G} {l : Launch} {d : Nat} {h : kx_H} {m : Nat} {S : Nat → Int32} {A : Nat → Nat → Int32} {Z : cZ}
theorem z0_cs {v b : Nat} {σ : cR} (h : lvZ (z0 v b) σ) : σ = (0, 0) ∨ σ = (1, 0) ∨ σ = (2, 0) ∨ σ = (3, 0) ∨ σ = (4, 0) ∨ σ = (5, 0) ∨ σ = (6, 0) ∨ σ = (7, 0) ∨ σ = (8, 0) ∨ σ = (9, 0) ∨ σ = (10, 0) ∨ σ = (10, 1) ∨ σ = (11, 0) ∨ σ = (11, 1) ∨ σ = (12, 0) ∨ σ = (12, 1) ∨ (∃ i, i < 24 ∧ σ = (13, i)) ∨ ∃ i, i < 24 ∧ σ = (13, i + 24) := by
  have g := z0_lv h
  obtain ⟨t, i⟩ := σ
  rcases g with ⟨g1, g2⟩ | ⟨g1, g2⟩ | ⟨g1, g2⟩ | ⟨g1, g2⟩
  · replace g1 : t ≤ 6 := g1
    replace g2 : i = 0 := g2
    subst g2
    have : t = 0 ∨ t = 1 ∨ t = 2 ∨ t = 3 ∨ t = 4 ∨ t = 5 ∨ t = 6 := by omega
    rcases this with e | e | e | e | e | e | e <;> (subst e; simp)
  · replace g2 : i = 0 := g2
    subst g2
    rcases g1 with e | e | e <;> (replace e : t = _ := e; subst e; simp)
  · replace g2 : i < 2 := g2
    have : i = 0 ∨ i = 1 := by omega
    rcases g1 with e | e | e <;> (replace e : t = _ := e; subst e; rcases this with y | y <;> (subst y; simp))
  · replace g1 : t = 13 := g1
    replace g2 : i < 48 := g2
    subst g1
    by_cases y : i < 24
    · simp [y]
    · have e2 : ∃ j, j < 24 ∧ ((13, i) : cR) = (13, j + 24) := ⟨i - 24, by omega, by rw [show i - 24 + 24 = i by omega]⟩
      simp only [e2, or_true]
set_option maxRecDepth 100000 in
theorem cV_init {v : Nat} (hst : l.stackTraces = false) (hv : kx_is G h v (.inr (0, [.null, .null, .null, .int 0, .int 0, .null, .null, .null, .null, .null]))) (hG : G.1 ≤ h.1) :
    kx_c G l mV_init (d + 1) 63 473 [.ref v] h (fun o h' => o = .returned none ∧ h'.1 = h.1 + 63 ∧ (∀ a, a < h.1 → a ≠ v → h'.2 a = h.2 a) ∧ ∀ ρ, lvZ (z0 v h.1) ρ → h'.2 ((z0 v h.1).ad ρ) = pic G (z0 v h.1) ρ) := by
  have hvl := hv.2.1
  refine kx_in (by decide +kernel) (Nat.le_of_ble_eq_true rfl) hst ?_
  refine kx_rn dV_init 1 1 [(0, .ref v)] [.ref v] rfl ?_
  refine cV_1 rfl (kx_tk_dec rfl dV_init) (Nat.le_of_ble_eq_true rfl) ?_
  refine kx_rn dV_init 2 6 [(0, .ref v)] [.int 3, .ref v] rfl ?_
  refine aV_9 (kc := 62) (ks := 470) (N := 3) rfl (kx_tk_dec rfl dV_init) (by decide) rfl (by decide) ?_
  refine qV_11 rfl rfl (kx_tk_dec rfl dV_init) (kx_is_new hv) rfl rfl (Nat.le_of_ble_eq_true rfl) ?_
  refine kx_rn dV_init 1 13 [(0, .ref v)] [.ref v] rfl ?_
  refine nV_15 (kc := 61) (ks := 467) rfl (kx_tk_dec rfl dV_init) ?_
  refine kx_rn dV_init 1 17 [(0, .ref v)] [.ref (h.1 + 1), .ref (h.1 + 1), .ref v] rfl ?_
  refine cV_17 (as := []) (st := [.ref (h.1 + 1), .ref v]) (mc := 1) (ms := 41) (kc := 60) (ks := 426) rfl (kx_tk_dec rfl dV_init) rfl rfl (Nat.le_of_ble_eq_true rfl) (cT_init hst (cxn_new (by show G.1 ≤ h.1 + 1; omega))) (fun o h' hq => ?_)
  obtain ⟨rfl, s1, o1, f1, g1⟩ := hq
  obtain ⟨x1, F1⟩ := h'
  replace s1 : x1 = h.1 + 3 := s1
  subst s1
  show kx_w _ _ _ _ _ _ _ _ _ _ _
  replace f1 : F1 (h.1 + 1) = .inr (1, [.ref (h.1 + 2), .int 0, .int 0]) := f1
  replace g1 : F1 (h.1 + 2) = kQa 2 41 (fun _ => none) := g1
  replace o1 : ∀ a, a < h.1 + 2 → a ≠ h.1 + 1 → F1 a = (va_up (va_up (va_up (h.2) (h.1) _) (v) _) (h.1 + 1) _) a := o1
  have hv1 : kx_is G (h.1 + 3, F1) v (.inr (0, [.ref h.1, .null, .null, .int 0, .int 0, .null, .null, .null, .null, .null])) := ⟨hv.1, by show v < h.1 + 3; omega, by
    show F1 v = _
    rw [o1 v (by omega) (by omega)]
    show va_up (va_up (va_up (h.2) (h.1) _) (v) _) (h.1 + 1) _ v = _
    rw [va_up_ne _ _ (by omega)]
    exact va_up_self _ _ _⟩
  refine qV_18 rfl rfl (kx_tk_dec rfl dV_init) hv1 rfl rfl (Nat.le_of_ble_eq_true rfl) ?_
  refine kx_rn dV_init 2 26 [(0, .ref v)] [.int 40, .ref v] rfl ?_
  refine kx_nwi (kc := 59) (ks := 386) (N := 40) (by decide) rfl (by decide) (kx_tk_dec rfl dV_init) ?_
  refine qV_22 rfl rfl (kx_tk_dec rfl dV_init) (kx_is_new (kx_is_eq hv1)) rfl rfl (Nat.le_of_ble_eq_true rfl) ?_
  refine kx_rn dV_init 2 33 [(0, .ref v)] [.int 0, .ref v] rfl ?_
  refine qV_26 rfl (kx_tk_dec rfl dV_init) (kx_is_eq (kx_is_new (kx_is_eq hv1))) rfl rfl (Nat.le_of_ble_eq_true rfl) ?_
  refine kx_rn dV_init 2 38 [(0, .ref v)] [.int ((-1)), .ref v] rfl ?_
  refine qV_30 rfl (kx_tk_dec rfl dV_init) (kx_is_eq (kx_is_eq (kx_is_new (kx_is_eq hv1)))) rfl rfl (Nat.le_of_ble_eq_true rfl) ?_
  refine kx_rn dV_init 1 42 [(0, .ref v)] [.ref v] rfl ?_
  refine nV_33 (kc := 58) (ks := 382) rfl (kx_tk_dec rfl dV_init) ?_
  refine kx_rn dV_init 1 46 [(0, .ref v)] [.ref (h.1 + 4), .ref (h.1 + 4), .ref v] rfl ?_
  refine cV_35 (as := []) (st := [.ref (h.1 + 4), .ref v]) (mc := 2) (ms := 80) (kc := 56) (ks := 302) rfl (kx_tk_dec rfl dV_init) rfl rfl (Nat.le_of_ble_eq_true rfl) (cP_init hst (cxn_new (by show G.1 ≤ h.1 + 4; omega))) (fun o h' hq => ?_)
  obtain ⟨rfl, s2, o2, f2, g2, k2⟩ := hq
  obtain ⟨x2, F2⟩ := h'
  replace s2 : x2 = h.1 + 7 := s2
  subst s2
  show kx_w _ _ _ _ _ _ _ _ _ _ _
  replace f2 : F2 (h.1 + 4) = pO (h.1 + 5) (h.1 + 6) 0 0 := f2
  replace g2 : F2 (h.1 + 5) = kIa 40 (fun _ => 0) := g2
  replace k2 : F2 (h.1 + 6) = kIa 40 (fun _ => 0) := k2
  replace o2 : ∀ a, a < h.1 + 5 → a ≠ h.1 + 4 → F2 a = (va_up (va_up (va_up (va_up (va_up (va_up (F1) (v) _) (h.1 + 3) _) (v) _) (v) _) (v) _) (h.1 + 4) _) a := o2
  have hv2 : kx_is G (h.1 + 7, F2) v (.inr (0, [.ref h.1, .ref (h.1 + 1), .ref (h.1 + 3), .int 0, .int ((-1)), .null, .null, .null, .null, .null])) := ⟨hv.1, by show v < h.1 + 7; omega, by
    show F2 v = _
    rw [o2 v (by omega) (by omega)]
    show va_up (va_up (va_up (va_up (va_up (va_up (F1) (v) _) (h.1 + 3) _) (v) _) (v) _) (v) _) (h.1 + 4) _ v = _
    rw [va_up_ne _ _ (by omega)]
    exact va_up_self _ _ _⟩
  refine qV_36 rfl (kx_tk_dec rfl dV_init) hv2 rfl rfl (Nat.le_of_ble_eq_true rfl) ?_
  refine kx_rn dV_init 2 54 [(0, .ref v)] [.int 4, .ref v] rfl ?_
  refine aV_33 (kc := 55) (ks := 298) (N := 4) rfl (kx_tk_dec rfl dV_init) (by decide) rfl (by decide) ?_
  refine qV_40 rfl rfl (kx_tk_dec rfl dV_init) (kx_is_new (kx_is_eq hv2)) rfl rfl (Nat.le_of_ble_eq_true rfl) ?_
  refine kx_rn dV_init 1 61 [(0, .ref v)] [.ref v] rfl ?_
  refine nV_44 (kc := 54) (ks := 295) rfl (kx_tk_dec rfl dV_init) ?_
  refine kx_rn dV_init 1 65 [(0, .ref v)] [.ref (h.1 + 8), .ref (h.1 + 8), .ref v] rfl ?_
  refine cV_46 (as := []) (st := [.ref (h.1 + 8), .ref v]) (mc := 26) (ms := 144) (kc := 28) (ks := 151) rfl (kx_tk_dec rfl dV_init) rfl rfl (Nat.le_of_ble_eq_true rfl) (cS_init hst (cxn_new (by show G.1 ≤ h.1 + 8; omega))) (fun o h' hq => ?_)
  obtain ⟨rfl, s3, o3, f3, g3, k3, q3⟩ := hq
  obtain ⟨x3, F3⟩ := h'
  replace s3 : x3 = h.1 + 35 := s3
  subst s3
  show kx_w _ _ _ _ _ _ _ _ _ _ _
  replace f3 : F3 (h.1 + 8) = .inr (3, [.ref (h.1 + 9), .ref (h.1 + 10), .int 0]) := f3
  replace g3 : F3 (h.1 + 9) = kIa 24 (fun _ => 0) := g3
  replace k3 : F3 (h.1 + 10) = kQa 6 24 (fun j => if j < 24 then some (h.1 + 11 + j) else none) := k3
  replace q3 : ∀ i, i < 24 → F3 (h.1 + 11 + i) = kIa 4 (fun _ => 0) := q3
  replace o3 : ∀ a, a < h.1 + 9 → a ≠ h.1 + 8 → F3 a = (va_up (va_up (va_up (va_up (F2) (v) _) (h.1 + 7) _) (v) _) (h.1 + 8) _) a := o3
  have hv3 : kx_is G (h.1 + 35, F3) v (.inr (0, [.ref h.1, .ref (h.1 + 1), .ref (h.1 + 3), .int 0, .int ((-1)), .ref (h.1 + 4), .ref (h.1 + 7), .null, .null, .null])) := ⟨hv.1, by show v < h.1 + 35; omega, by
    show F3 v = _
    rw [o3 v (by omega) (by omega)]
    show va_up (va_up (va_up (va_up (F2) (v) _) (h.1 + 7) _) (v) _) (h.1 + 8) _ v = _
    rw [va_up_ne _ _ (by omega)]
    exact va_up_self _ _ _⟩
  refine qV_47 rfl (kx_tk_dec rfl dV_init) hv3 rfl rfl (Nat.le_of_ble_eq_true rfl) ?_
  refine kx_rn dV_init 1 72 [(0, .ref v)] [.ref v] rfl ?_
  refine nV_44 (kc := 27) (ks := 148) rfl (kx_tk_dec rfl dV_init) ?_
  refine kx_rn dV_init 1 76 [(0, .ref v)] [.ref (h.1 + 35), .ref (h.1 + 35), .ref v] rfl ?_
  refine cV_46 (as := []) (st := [.ref (h.1 + 35), .ref v]) (mc := 26) (ms := 144) (kc := 1) (ks := 4) rfl (kx_tk_dec rfl dV_init) rfl rfl (Nat.le_of_ble_eq_true rfl) (cS_init hst (cxn_new (by show G.1 ≤ h.1 + 35; omega))) (fun o h' hq => ?_)
  obtain ⟨rfl, s4, o4, f4, g4, k4, q4⟩ := hq
  obtain ⟨x4, F4⟩ := h'
  replace s4 : x4 = h.1 + 62 := s4
  subst s4
  show kx_w _ _ _ _ _ _ _ _ _ _ _
  replace f4 : F4 (h.1 + 35) = .inr (3, [.ref (h.1 + 36), .ref (h.1 + 37), .int 0]) := f4
  replace g4 : F4 (h.1 + 36) = kIa 24 (fun _ => 0) := g4
  replace k4 : F4 (h.1 + 37) = kQa 6 24 (fun j => if j < 24 then some (h.1 + 38 + j) else none) := k4
  replace q4 : ∀ i, i < 24 → F4 (h.1 + 38 + i) = kIa 4 (fun _ => 0) := q4
  replace o4 : ∀ a, a < h.1 + 36 → a ≠ h.1 + 35 → F4 a = (va_up (va_up (F3) (v) _) (h.1 + 35) _) a := o4
  have hv4 : kx_is G (h.1 + 62, F4) v (.inr (0, [.ref h.1, .ref (h.1 + 1), .ref (h.1 + 3), .int 0, .int ((-1)), .ref (h.1 + 4), .ref (h.1 + 7), .ref (h.1 + 8), .null, .null])) := ⟨hv.1, by show v < h.1 + 62; omega, by
    show F4 v = _
    rw [o4 v (by omega) (by omega)]
    show va_up (va_up (F3) (v) _) (h.1 + 35) _ v = _
    rw [va_up_ne _ _ (by omega)]
    exact va_up_self _ _ _⟩
  refine qV_51 rfl (kx_tk_dec rfl dV_init) hv4 rfl rfl (Nat.le_of_ble_eq_true rfl) ?_
  refine kx_rn dV_init 2 84 [(0, .ref v)] [.int 4, .ref v] rfl ?_
  refine kx_nwi (kc := 0) (ks := 0) (N := 4) (by decide) rfl (by decide) (kx_tk_dec rfl dV_init) ?_
  refine qV_54 rfl rfl (kx_tk_dec rfl dV_init) (kx_is_new (kx_is_eq hv4)) rfl rfl (Nat.le_of_ble_eq_true rfl) ?_
  refine kx_retv (kx_tk_dec rfl dV_init) rfl ?_
  refine ⟨rfl, rfl, fun a ha hne => ?_, fun ρ hρ => ?_⟩
  · show va_up (va_up (va_up (F4) (v) _) (h.1 + 62) _) (v) _ a = _
    rw [va_up_ne _ _ (by omega), va_up_ne _ _ (by omega), va_up_ne _ _ (by omega)]
    rw [o4 a (by omega) (by omega)]
    show va_up (va_up (F3) (v) _) (h.1 + 35) _ a = _
    rw [va_up_ne _ _ (by omega), va_up_ne _ _ (by omega)]
    rw [o3 a (by omega) (by omega)]
    show va_up (va_up (va_up (va_up (F2) (v) _) (h.1 + 7) _) (v) _) (h.1 + 8) _ a = _
    rw [va_up_ne _ _ (by omega), va_up_ne _ _ (by omega), va_up_ne _ _ (by omega), va_up_ne _ _ (by omega)]
    rw [o2 a (by omega) (by omega)]
    show va_up (va_up (va_up (va_up (va_up (va_up (F1) (v) _) (h.1 + 3) _) (v) _) (v) _) (v) _) (h.1 + 4) _ a = _
    rw [va_up_ne _ _ (by omega), va_up_ne _ _ (by omega), va_up_ne _ _ (by omega), va_up_ne _ _ (by omega), va_up_ne _ _ (by omega), va_up_ne _ _ (by omega)]
    rw [o1 a (by omega) (by omega)]
    show va_up (va_up (va_up (h.2) (h.1) _) (v) _) (h.1 + 1) _ a = _
    rw [va_up_ne _ _ (by omega), va_up_ne _ _ (by omega), va_up_ne _ _ (by omega)]
  · rcases z0_cs hρ with rfl | rfl | rfl | rfl | rfl | rfl | rfl | rfl | rfl | rfl | rfl | rfl | rfl | rfl | rfl | rfl | ⟨i, hi, rfl⟩ | ⟨j, hi, rfl⟩
    · show _ = Sum.inr (0, [Value.ref (h.1), .ref (h.1 + 1), .ref (h.1 + 3), .int 0, .int (-1), .ref (h.1 + 4), .ref (h.1 + 7), .ref (h.1 + 8), .ref (h.1 + 35), .ref (h.1 + 62)])
      show va_up (va_up (va_up (F4) (v) _) (h.1 + 62) _) (v) _ v = _
      exact va_up_self _ _ _
    · show _ = kQa 1 3 (fun _ => none)
      show va_up (va_up (va_up (F4) (v) _) (h.1 + 62) _) (v) _ h.1 = _
      rw [va_up_ne _ _ (by omega), va_up_ne _ _ (by omega), va_up_ne _ _ (by omega)]
      rw [o4 h.1 (by omega) (by omega)]
      show va_up (va_up (F3) (v) _) (h.1 + 35) _ h.1 = _
      rw [va_up_ne _ _ (by omega), va_up_ne _ _ (by omega)]
      rw [o3 h.1 (by omega) (by omega)]
      show va_up (va_up (va_up (va_up (F2) (v) _) (h.1 + 7) _) (v) _) (h.1 + 8) _ h.1 = _
      rw [va_up_ne _ _ (by omega), va_up_ne _ _ (by omega), va_up_ne _ _ (by omega), va_up_ne _ _ (by omega)]
      rw [o2 h.1 (by omega) (by omega)]
      show va_up (va_up (va_up (va_up (va_up (va_up (F1) (v) _) (h.1 + 3) _) (v) _) (v) _) (v) _) (h.1 + 4) _ h.1 = _
      rw [va_up_ne _ _ (by omega), va_up_ne _ _ (by omega), va_up_ne _ _ (by omega), va_up_ne _ _ (by omega), va_up_ne _ _ (by omega), va_up_ne _ _ (by omega)]
      rw [o1 h.1 (by omega) (by omega)]
      show va_up (va_up (va_up (h.2) (h.1) _) (v) _) (h.1 + 1) _ h.1 = _
      rw [va_up_ne _ _ (by omega), va_up_ne _ _ (by omega)]
      exact va_up_self _ _ _
    · show _ = Sum.inr (1, [Value.ref (h.1 + 2), .int 0, .int 0])
      show va_up (va_up (va_up (F4) (v) _) (h.1 + 62) _) (v) _ (h.1 + 1) = _
      rw [va_up_ne _ _ (by omega), va_up_ne _ _ (by omega), va_up_ne _ _ (by omega)]
      rw [o4 (h.1 + 1) (by omega) (by omega)]
      show va_up (va_up (F3) (v) _) (h.1 + 35) _ (h.1 + 1) = _
      rw [va_up_ne _ _ (by omega), va_up_ne _ _ (by omega)]
      rw [o3 (h.1 + 1) (by omega) (by omega)]
      show va_up (va_up (va_up (va_up (F2) (v) _) (h.1 + 7) _) (v) _) (h.1 + 8) _ (h.1 + 1) = _
      rw [va_up_ne _ _ (by omega), va_up_ne _ _ (by omega), va_up_ne _ _ (by omega), va_up_ne _ _ (by omega)]
      rw [o2 (h.1 + 1) (by omega) (by omega)]
      show va_up (va_up (va_up (va_up (va_up (va_up (F1) (v) _) (h.1 + 3) _) (v) _) (v) _) (v) _) (h.1 + 4) _ (h.1 + 1) = _
      rw [va_up_ne _ _ (by omega), va_up_ne _ _ (by omega), va_up_ne _ _ (by omega), va_up_ne _ _ (by omega), va_up_ne _ _ (by omega), va_up_ne _ _ (by omega)]
      exact f1
    · show _ = kQa 2 41 (fun _ => none)
      show va_up (va_up (va_up (F4) (v) _) (h.1 + 62) _) (v) _ (h.1 + 2) = _
      rw [va_up_ne _ _ (by omega), va_up_ne _ _ (by omega), va_up_ne _ _ (by omega)]
      rw [o4 (h.1 + 2) (by omega) (by omega)]
      show va_up (va_up (F3) (v) _) (h.1 + 35) _ (h.1 + 2) = _
      rw [va_up_ne _ _ (by omega), va_up_ne _ _ (by omega)]
      rw [o3 (h.1 + 2) (by omega) (by omega)]
      show va_up (va_up (va_up (va_up (F2) (v) _) (h.1 + 7) _) (v) _) (h.1 + 8) _ (h.1 + 2) = _
      rw [va_up_ne _ _ (by omega), va_up_ne _ _ (by omega), va_up_ne _ _ (by omega), va_up_ne _ _ (by omega)]
      rw [o2 (h.1 + 2) (by omega) (by omega)]
      show va_up (va_up (va_up (va_up (va_up (va_up (F1) (v) _) (h.1 + 3) _) (v) _) (v) _) (v) _) (h.1 + 4) _ (h.1 + 2) = _
      rw [va_up_ne _ _ (by omega), va_up_ne _ _ (by omega), va_up_ne _ _ (by omega), va_up_ne _ _ (by omega), va_up_ne _ _ (by omega), va_up_ne _ _ (by omega)]
      exact g1
    · show _ = kIa 40 (fun _ => 0)
      show va_up (va_up (va_up (F4) (v) _) (h.1 + 62) _) (v) _ (h.1 + 3) = _
      rw [va_up_ne _ _ (by omega), va_up_ne _ _ (by omega), va_up_ne _ _ (by omega)]
      rw [o4 (h.1 + 3) (by omega) (by omega)]
      show va_up (va_up (F3) (v) _) (h.1 + 35) _ (h.1 + 3) = _
      rw [va_up_ne _ _ (by omega), va_up_ne _ _ (by omega)]
      rw [o3 (h.1 + 3) (by omega) (by omega)]
      show va_up (va_up (va_up (va_up (F2) (v) _) (h.1 + 7) _) (v) _) (h.1 + 8) _ (h.1 + 3) = _
      rw [va_up_ne _ _ (by omega), va_up_ne _ _ (by omega), va_up_ne _ _ (by omega), va_up_ne _ _ (by omega)]
      rw [o2 (h.1 + 3) (by omega) (by omega)]
      show va_up (va_up (va_up (va_up (va_up (va_up (F1) (v) _) (h.1 + 3) _) (v) _) (v) _) (v) _) (h.1 + 4) _ (h.1 + 3) = _
      rw [va_up_ne _ _ (by omega), va_up_ne _ _ (by omega), va_up_ne _ _ (by omega), va_up_ne _ _ (by omega)]
      exact va_up_self _ _ _
    · show _ = kQa 3 4 (fun c => if decide (c + 1 = 0) = true then some (ad0 v h.1 (rPrg (c + 1))) else none)
      rw [show (fun c => if decide (c + 1 = 0) = true then some (ad0 v h.1 (rPrg (c + 1))) else none) = (fun _ => none : Nat → Option Nat) from funext fun c => if_neg (by simp)]
      show va_up (va_up (va_up (F4) (v) _) (h.1 + 62) _) (v) _ (h.1 + 7) = _
      rw [va_up_ne _ _ (by omega), va_up_ne _ _ (by omega), va_up_ne _ _ (by omega)]
      rw [o4 (h.1 + 7) (by omega) (by omega)]
      show va_up (va_up (F3) (v) _) (h.1 + 35) _ (h.1 + 7) = _
      rw [va_up_ne _ _ (by omega), va_up_ne _ _ (by omega)]
      rw [o3 (h.1 + 7) (by omega) (by omega)]
      show va_up (va_up (va_up (va_up (F2) (v) _) (h.1 + 7) _) (v) _) (h.1 + 8) _ (h.1 + 7) = _
      rw [va_up_ne _ _ (by omega), va_up_ne _ _ (by omega)]
      exact va_up_self _ _ _
    · show _ = kIa 4 (fun _ => 0)
      show va_up (va_up (va_up (F4) (v) _) (h.1 + 62) _) (v) _ (h.1 + 62) = _
      rw [va_up_ne _ _ (by omega)]
      exact va_up_self _ _ _
    · show _ = pO (h.1 + 5) (h.1 + 6) 0 0
      show va_up (va_up (va_up (F4) (v) _) (h.1 + 62) _) (v) _ (h.1 + 4) = _
      rw [va_up_ne _ _ (by omega), va_up_ne _ _ (by omega), va_up_ne _ _ (by omega)]
      rw [o4 (h.1 + 4) (by omega) (by omega)]
      show va_up (va_up (F3) (v) _) (h.1 + 35) _ (h.1 + 4) = _
      rw [va_up_ne _ _ (by omega), va_up_ne _ _ (by omega)]
      rw [o3 (h.1 + 4) (by omega) (by omega)]
      show va_up (va_up (va_up (va_up (F2) (v) _) (h.1 + 7) _) (v) _) (h.1 + 8) _ (h.1 + 4) = _
      rw [va_up_ne _ _ (by omega), va_up_ne _ _ (by omega), va_up_ne _ _ (by omega), va_up_ne _ _ (by omega)]
      exact f2
    · show _ = kIa 40 (fun _ => 0)
      show va_up (va_up (va_up (F4) (v) _) (h.1 + 62) _) (v) _ (h.1 + 5) = _
      rw [va_up_ne _ _ (by omega), va_up_ne _ _ (by omega), va_up_ne _ _ (by omega)]
      rw [o4 (h.1 + 5) (by omega) (by omega)]
      show va_up (va_up (F3) (v) _) (h.1 + 35) _ (h.1 + 5) = _
      rw [va_up_ne _ _ (by omega), va_up_ne _ _ (by omega)]
      rw [o3 (h.1 + 5) (by omega) (by omega)]
      show va_up (va_up (va_up (va_up (F2) (v) _) (h.1 + 7) _) (v) _) (h.1 + 8) _ (h.1 + 5) = _
      rw [va_up_ne _ _ (by omega), va_up_ne _ _ (by omega), va_up_ne _ _ (by omega), va_up_ne _ _ (by omega)]
      exact g2
    · show _ = kIa 40 (fun _ => 0)
      show va_up (va_up (va_up (F4) (v) _) (h.1 + 62) _) (v) _ (h.1 + 6) = _
      rw [va_up_ne _ _ (by omega), va_up_ne _ _ (by omega), va_up_ne _ _ (by omega)]
      rw [o4 (h.1 + 6) (by omega) (by omega)]
      show va_up (va_up (F3) (v) _) (h.1 + 35) _ (h.1 + 6) = _
      rw [va_up_ne _ _ (by omega), va_up_ne _ _ (by omega)]
      rw [o3 (h.1 + 6) (by omega) (by omega)]
      show va_up (va_up (va_up (va_up (F2) (v) _) (h.1 + 7) _) (v) _) (h.1 + 8) _ (h.1 + 6) = _
      rw [va_up_ne _ _ (by omega), va_up_ne _ _ (by omega), va_up_ne _ _ (by omega), va_up_ne _ _ (by omega)]
      exact k2
    · show _ = Sum.inr (3, [Value.ref (h.1 + 9), .ref (h.1 + 10), .int 0])
      show va_up (va_up (va_up (F4) (v) _) (h.1 + 62) _) (v) _ (h.1 + 8) = _
      rw [va_up_ne _ _ (by omega), va_up_ne _ _ (by omega), va_up_ne _ _ (by omega)]
      rw [o4 (h.1 + 8) (by omega) (by omega)]
      show va_up (va_up (F3) (v) _) (h.1 + 35) _ (h.1 + 8) = _
      rw [va_up_ne _ _ (by omega), va_up_ne _ _ (by omega)]
      exact f3
    · show _ = Sum.inr (3, [Value.ref (h.1 + 36), .ref (h.1 + 37), .int 0])
      show va_up (va_up (va_up (F4) (v) _) (h.1 + 62) _) (v) _ (h.1 + 35) = _
      rw [va_up_ne _ _ (by omega), va_up_ne _ _ (by omega), va_up_ne _ _ (by omega)]
      exact f4
    · show _ = kIa 24 (fun _ => 0)
      show va_up (va_up (va_up (F4) (v) _) (h.1 + 62) _) (v) _ (h.1 + 9) = _
      rw [va_up_ne _ _ (by omega), va_up_ne _ _ (by omega), va_up_ne _ _ (by omega)]
      rw [o4 (h.1 + 9) (by omega) (by omega)]
      show va_up (va_up (F3) (v) _) (h.1 + 35) _ (h.1 + 9) = _
      rw [va_up_ne _ _ (by omega), va_up_ne _ _ (by omega)]
      exact g3
    · show _ = kIa 24 (fun _ => 0)
      show va_up (va_up (va_up (F4) (v) _) (h.1 + 62) _) (v) _ (h.1 + 36) = _
      rw [va_up_ne _ _ (by omega), va_up_ne _ _ (by omega), va_up_ne _ _ (by omega)]
      exact g4
    · show _ = kQa 6 24 (fun r => if r < 24 then some (ad0 v h.1 (rInn (24 * 0 + r))) else none)
      rw [show (fun r => if r < 24 then some (ad0 v h.1 (rInn (24 * 0 + r))) else none) = (fun j => if j < 24 then some (h.1 + 11 + j) else none) from funext fun r => by
        by_cases y : r < 24
        · rw [if_pos y, if_pos y]; congr 1; show h.1 + 11 + (24 * 0 + r) + 3 * ((24 * 0 + r) / 24) = _; omega
        · rw [if_neg y, if_neg y]]
      show va_up (va_up (va_up (F4) (v) _) (h.1 + 62) _) (v) _ (h.1 + 10) = _
      rw [va_up_ne _ _ (by omega), va_up_ne _ _ (by omega), va_up_ne _ _ (by omega)]
      rw [o4 (h.1 + 10) (by omega) (by omega)]
      show va_up (va_up (F3) (v) _) (h.1 + 35) _ (h.1 + 10) = _
      rw [va_up_ne _ _ (by omega), va_up_ne _ _ (by omega)]
      exact k3
    · show _ = kQa 6 24 (fun r => if r < 24 then some (ad0 v h.1 (rInn (24 * 1 + r))) else none)
      rw [show (fun r => if r < 24 then some (ad0 v h.1 (rInn (24 * 1 + r))) else none) = (fun j => if j < 24 then some (h.1 + 38 + j) else none) from funext fun r => by
        by_cases y : r < 24
        · rw [if_pos y, if_pos y]; congr 1; show h.1 + 11 + (24 * 1 + r) + 3 * ((24 * 1 + r) / 24) = _; omega
        · rw [if_neg y, if_neg y]]
      show va_up (va_up (va_up (F4) (v) _) (h.1 + 62) _) (v) _ (h.1 + 37) = _
      rw [va_up_ne _ _ (by omega), va_up_ne _ _ (by omega), va_up_ne _ _ (by omega)]
      exact k4
    · show _ = kIa 4 (fun _ => 0)
      rw [show (z0 v h.1).ad (13, i) = h.1 + 11 + i by show h.1 + 11 + i + 3 * (i / 24) = _; omega]
      show va_up (va_up (va_up (F4) (v) _) (h.1 + 62) _) (v) _ (h.1 + 11 + i) = _
      rw [va_up_ne _ _ (by omega), va_up_ne _ _ (by omega), va_up_ne _ _ (by omega)]
      rw [o4 (h.1 + 11 + i) (by omega) (by omega)]
      show va_up (va_up (F3) (v) _) (h.1 + 35) _ (h.1 + 11 + i) = _
      rw [va_up_ne _ _ (by omega), va_up_ne _ _ (by omega)]
      exact q3 i hi
    · show _ = kIa 4 (fun _ => 0)
      rw [show (z0 v h.1).ad (13, j + 24) = h.1 + 38 + j by show h.1 + 11 + (j + 24) + 3 * ((j + 24) / 24) = _; omega]
      show va_up (va_up (va_up (F4) (v) _) (h.1 + 62) _) (v) _ (h.1 + 38 + j) = _
      rw [va_up_ne _ _ (by omega), va_up_ne _ _ (by omega), va_up_ne _ _ (by omega)]
      exact q4 j hi
end KC47
