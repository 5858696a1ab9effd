/-! ===== the other side: lines taken ===== -/
section KC42
variable {G : kx_G} {l : Launch} {d : Nat} {h : kx_H} {m : Nat} {S : Nat → Int32} {A : Nat → Nat → Int32} {Z : cZ}
set_option maxRecDepth 100000 in
theorem cP_init {p : Nat} (hst : l.stackTraces = false) (hp : kx_is G h p (.inr (2, [.null, .null, .int 0, .int 0]))) :
    kx_c G l mP_init d 2 80 [.ref p] h (fun o h' => o = .returned none ∧ h'.1 = h.1 + 2 ∧ (∀ a, a < h.1 → a ≠ p → h'.2 a = h.2 a) ∧ h'.2 p = pO h.1 (h.1 + 1) 0 0 ∧ h'.2 h.1 = kIa 40 (fun _ => 0) ∧ h'.2 (h.1 + 1) = kIa 40 (fun _ => 0)) := by
  have hpl := hp.2.1
  refine kx_in (by decide +kernel) (Nat.le_of_ble_eq_true rfl) hst ?_
  refine kx_rn dP_init 1 1 [(0, .ref p)] [.ref p] rfl ?_
  refine cP_3 rfl (kx_tk_dec rfl dP_init) (Nat.le_of_ble_eq_true rfl) ?_
  refine kx_rn dP_init 2 7 [(0, .ref p)] [.int 40, .ref p] rfl ?_
  refine kx_nwi (kc := 1) (ks := 40) (N := 40) (by decide) rfl (by decide) (kx_tk_dec rfl dP_init) ?_
  refine qP_9 rfl rfl (kx_tk_dec rfl dP_init) (kx_is_new hp) rfl rfl (Nat.le_of_ble_eq_true rfl) ?_
  refine kx_rn dP_init 2 15 [(0, .ref p)] [.int 40, .ref p] rfl ?_
  refine kx_nwi (kc := 0) (ks := 0) (N := 40) (by decide) rfl (by decide) (kx_tk_dec rfl dP_init) ?_
  refine qP_15 rfl rfl (kx_tk_dec rfl dP_init) (kx_is_new (kx_is_eq (kx_is_new hp))) rfl rfl (Nat.le_of_ble_eq_true rfl) ?_
  refine kx_rn dP_init 2 22 [(0, .ref p)] [.int 0, .ref p] rfl ?_
  refine qP_18 rfl (kx_tk_dec rfl dP_init) (kx_is_eq (kx_is_new (kx_is_eq (kx_is_new hp)))) rfl rfl (Nat.le_of_ble_eq_true rfl) ?_
  refine kx_rn dP_init 2 27 [(0, .ref p)] [.int 0, .ref p] rfl ?_
  refine qP_22 rfl (kx_tk_dec rfl dP_init) (kx_is_eq (kx_is_eq (kx_is_new (kx_is_eq (kx_is_new hp))))) rfl rfl (Nat.le_of_ble_eq_true rfl) ?_
  refine kx_retv (kx_tk_dec rfl dP_init) rfl ?_
  refine ⟨rfl, rfl, fun a ha hne => ?_, ?_, ?_, ?_⟩
  · show va_up (va_up (va_up (va_up (va_up (va_up (h.2) (h.1) _) (p) _) (h.1 + 1) _) (p) _) (p) _) (p) _ a = _
    rw [va_up_ne _ _ (by omega), va_up_ne _ _ (by omega), va_up_ne _ _ (by omega), va_up_ne _ _ (by omega), va_up_ne _ _ (by omega), va_up_ne _ _ (by omega)]
  · show va_up (va_up (va_up (va_up (va_up (va_up (h.2) (h.1) _) (p) _) (h.1 + 1) _) (p) _) (p) _) (p) _ p = _
    skip
    exact va_up_self _ _ _
  · show va_up (va_up (va_up (va_up (va_up (va_up (h.2) (h.1) _) (p) _) (h.1 + 1) _) (p) _) (p) _) (p) _ h.1 = _
    rw [va_up_ne _ _ (by omega), va_up_ne _ _ (by omega), va_up_ne _ _ (by omega), va_up_ne _ _ (by omega), va_up_ne _ _ (by omega)]
    exact va_up_self _ _ _
  · show va_up (va_up (va_up (va_up (va_up (va_up (h.2) (h.1) _) (p) _) (h.1 + 1) _) (p) _) (p) _) (p) _ (h.1 + 1) = _
    rw [va_up_ne _ _ (by omega), va_up_ne _ _ (by omega), va_up_ne _ _ (by omega)]
    exact va_up_self _ _ _
theorem cxn_new {c : kx_C} (hG : G.1 ≤ h.1) : kx_is G (kx_new h c) h.1 c := ⟨hG, Nat.lt_succ_self _, va_up_self _ _ _⟩
set_option maxRecDepth 100000 in
theorem cQ_init {q tx ln : Nat} (hst : l.stackTraces = false) (hq : kx_is G h q (.inr (6, [.null, .int 0, .null, .int 0, .int 0]))) (hG : G.1 ≤ h.1) :
    kx_c G l mQ_init (d + 1) 3 84 [.ref q, .ref tx, .int (nI ln)] h (fun o h' => o = .returned none ∧ h'.1 = h.1 + 3 ∧ (∀ a, a < h.1 → a ≠ q → h'.2 a = h.2 a) ∧ h'.2 q = qO tx ln h.1 0 0 ∧ h'.2 h.1 = pO (h.1 + 1) (h.1 + 2) 0 0 ∧ h'.2 (h.1 + 1) = kIa 40 (fun _ => 0) ∧ h'.2 (h.1 + 2) = kIa 40 (fun _ => 0)) := by
  have hql := hq.2.1
  refine kx_in (by decide +kernel) (Nat.le_of_ble_eq_true rfl) hst ?_
  refine kx_rn dQ_init 1 1 [(0, .ref q), (1, .ref tx), (2, .int (nI ln))] [.ref q] rfl ?_
  refine cQ_3 rfl (kx_tk_dec rfl dQ_init) (Nat.le_of_ble_eq_true rfl) ?_
  refine kx_rn dQ_init 1 5 [(0, .ref q), (1, .ref tx), (2, .int (nI ln))] [.ref q] rfl ?_
  refine nQ_9 (kc := 2) (ks := 80) rfl (kx_tk_dec rfl dQ_init) ?_
  refine kx_rn dQ_init 1 9 [(0, .ref q), (1, .ref tx), (2, .int (nI ln))] [.ref h.1, .ref h.1, .ref q] rfl ?_
  refine cQ_11 (as := []) (st := [.ref h.1, .ref q]) (mc := 2) (ms := 80) (kc := 0) (ks := 0) rfl (kx_tk_dec rfl dQ_init) rfl rfl (Nat.le_of_ble_eq_true rfl) (cP_init (h := kx_new h (.inr (2, [.null, .null, .int 0, .int 0]))) hst (cxn_new hG)) (fun o h' hq2 => ?_)
  obtain ⟨rfl, g1, g2, g3, g4, g5⟩ := hq2
  replace g1 : h'.1 = h.1 + 1 + 2 := g1
  show kx_w _ _ _ _ _ _ _ _ _ _ _
  have hq1 : kx_is G h' q (.inr (6, [.null, .int 0, .null, .int 0, .int 0])) := ⟨hq.1, by rw [g1]; omega, by
    rw [g2 q (by show q < h.1 + 1; omega) (by omega)]
    show va_up h.2 h.1 _ q = _
    rw [va_up_ne _ _ (by omega)]; exact hq.2.2⟩
  refine qQ_12 rfl rfl (kx_tk_dec rfl dQ_init) hq1 rfl rfl (Nat.le_of_ble_eq_true rfl) ?_
  refine kx_rn dQ_init 2 17 [(0, .ref q), (1, .ref tx), (2, .int (nI ln))] [.int 0, .ref q] rfl ?_
  refine qQ_18 rfl (kx_tk_dec rfl dQ_init) (kx_is_eq hq1) rfl rfl (Nat.le_of_ble_eq_true rfl) ?_
  refine kx_rn dQ_init 2 22 [(0, .ref q), (1, .ref tx), (2, .int (nI ln))] [.int 0, .ref q] rfl ?_
  refine qQ_22 rfl (kx_tk_dec rfl dQ_init) (kx_is_eq (kx_is_eq hq1)) rfl rfl (Nat.le_of_ble_eq_true rfl) ?_
  refine kx_rn dQ_init 2 27 [(0, .ref q), (1, .ref tx), (2, .int (nI ln))] [.ref tx, .ref q] rfl ?_
  refine qQ_25 rfl rfl (kx_tk_dec rfl dQ_init) (kx_is_eq (kx_is_eq (kx_is_eq hq1))) rfl rfl (Nat.le_of_ble_eq_true rfl) ?_
  refine kx_rn dQ_init 2 32 [(0, .ref q), (1, .ref tx), (2, .int (nI ln))] [.int (nI ln), .ref q] rfl ?_
  refine qQ_29 rfl rfl (kx_tk_dec rfl dQ_init) (kx_is_eq (kx_is_eq (kx_is_eq (kx_is_eq hq1)))) rfl rfl (Nat.le_of_ble_eq_true rfl) ?_
  refine kx_retv (kx_tk_dec rfl dQ_init) rfl ?_
  refine ⟨rfl, g1, fun a ha hne => ?_, ?_, ?_, ?_, ?_⟩
  · show va_up (va_up (va_up (va_up (va_up (h'.2) (q) _) (q) _) (q) _) (q) _) (q) _ a = _
    rw [va_up_ne _ _ (by omega), va_up_ne _ _ (by omega), va_up_ne _ _ (by omega), va_up_ne _ _ (by omega), va_up_ne _ _ (by omega)]
    rw [g2 a (by show a < h.1 + 1; omega) (by show a ≠ h.1; omega)]
    show va_up h.2 h.1 _ a = _
    rw [va_up_ne _ _ (by omega)]
  · show va_up (va_up (va_up (va_up (va_up (h'.2) (q) _) (q) _) (q) _) (q) _) (q) _ q = _
    skip
    exact va_up_self _ _ _
  · show va_up (va_up (va_up (va_up (va_up (h'.2) (q) _) (q) _) (q) _) (q) _) (q) _ h.1 = _
    rw [va_up_ne _ _ (by omega), va_up_ne _ _ (by omega), va_up_ne _ _ (by omega), va_up_ne _ _ (by omega), va_up_ne _ _ (by omega)]
    exact g3
  · show va_up (va_up (va_up (va_up (va_up (h'.2) (q) _) (q) _) (q) _) (q) _) (q) _ (h.1 + 1) = _
    rw [va_up_ne _ _ (by omega), va_up_ne _ _ (by omega), va_up_ne _ _ (by omega), va_up_ne _ _ (by omega), va_up_ne _ _ (by omega)]
    exact g4
  · show va_up (va_up (va_up (va_up (va_up (h'.2) (q) _) (q) _) (q) _) (q) _) (q) _ (h.1 + 2) = _
    rw [va_up_ne _ _ (by omega), va_up_ne _ _ (by omega), va_up_ne _ _ (by omega), va_up_ne _ _ (by omega), va_up_ne _ _ (by omega)]
    exact g5
set_option maxRecDepth 100000 in
theorem cV_takeLine0 {q tx ln p : Nat} {at0 col : Int32} (hst : l.stackTraces = false) (hZ : cOk G m S A h Z) (hqf : kx_is G h q (qO tx ln p at0 col)) (hqv : q ≠ Z.ad rV) :
    kx_c G l mV_takeLine d 0 0 [.ref (Z.ad rV), .ref q, .int (b01 true)] h (fun o h' => o = .returned none ∧ (∀ a, a ≠ Z.ad rV → h'.2 a = h.2 a) ∧ h'.1 = h.1 ∧ cOk G m S A h' ((Z.sS rV 3 0).sS rV 4 (-1))) := by
  refine kx_in (by decide +kernel) (Nat.le_of_ble_eq_true rfl) hst ?_
  refine kx_rn dV_takeLine 2 2 [(0, .ref (Z.ad rV)), (1, .ref q), (2, .int (b01 true))] [.int 0, .ref (Z.ad rV)] rfl ?_
  refine qV_26 rfl (kx_tk_dec rfl dV_takeLine) (hZ.is rV rfl) rfl rfl (Nat.le_of_ble_eq_true rfl) ?_
  have hz1 := cz_sS (ρ := rV) hZ rfl 3 0 rfl
  refine kx_rn dV_takeLine 2 7 [(0, .ref (Z.ad rV)), (1, .ref q), (2, .int (b01 true))] [.int (b01 true), .ref (Z.ad rV)] rfl ?_
  refine kx_if (tgt := 14) (kx_tk_dec rfl dV_takeLine) rfl (fun e7 => ?_) (fun e7 => ?_)
  · skip
    replace e7 : b01 true = 0 := e7
    replace e7 : true = false := b01_f e7
    cases e7
  · skip
    replace e7 : ¬ b01 true = 0 := e7
    replace e7 : true = true := b01_t e7
    refine kx_rn dV_takeLine 2 18 [(0, .ref (Z.ad rV)), (1, .ref q), (2, .int (b01 true))] [.int ((-1)), .ref (Z.ad rV)] rfl ?_
    refine qV_30 rfl (kx_tk_dec rfl dV_takeLine) (hz1.is rV rfl) rfl rfl (Nat.le_of_ble_eq_true rfl) ?_
    have hz2 := cz_sS (ρ := rV) hz1 rfl 4 ((-1)) rfl
    refine kx_rn dV_takeLine 1 22 [(0, .ref (Z.ad rV)), (1, .ref q), (2, .int (b01 true))] [.int (b01 true)] rfl ?_
    refine kx_if (tgt := 35) (kx_tk_dec rfl dV_takeLine) rfl (fun e22 => ?_) (fun e22 => ?_)
    · skip
      replace e22 : ¬ b01 true = 0 := e22
      replace e22 : true = true := b01_t e22
      refine kx_retv (kx_tk_dec rfl dV_takeLine) rfl ?_
      exact ⟨rfl, fun a ha => by
        show va_up (va_up h.2 (Z.ad rV) _) (Z.ad rV) _ a = _
        rw [va_up_ne _ _ ha, va_up_ne _ _ ha], rfl, hz2⟩
    · skip
      replace e22 : b01 true = 0 := e22
      replace e22 : true = false := b01_f e22
      cases e22
set_option maxRecDepth 100000 in
theorem cV_takeLine1 {q tx ln p : Nat} {at0 col : Int32} (hst : l.stackTraces = false) (hZ : cOk G m S A h Z) (hqf : kx_is G h q (qO tx ln p at0 col)) (hqv : q ≠ Z.ad rV) :
    kx_c G l mV_takeLine d 1 6 [.ref (Z.ad rV), .ref q, .int (b01 false)] h (fun o h' => ∃ x, o = .threw x ∧ kx_is G h' x (.inr (9, [])) ∧ cOk G m S A h' ((Z.sS rV 3 0).sS rV 4 at0)) := by
  refine kx_in (by decide +kernel) (Nat.le_of_ble_eq_true rfl) hst ?_
  refine kx_rn dV_takeLine 2 2 [(0, .ref (Z.ad rV)), (1, .ref q), (2, .int (b01 false))] [.int 0, .ref (Z.ad rV)] rfl ?_
  refine qV_26 rfl (kx_tk_dec rfl dV_takeLine) (hZ.is rV rfl) rfl rfl (Nat.le_of_ble_eq_true rfl) ?_
  have hz1 := cz_sS (ρ := rV) hZ rfl 3 0 rfl
  refine kx_rn dV_takeLine 2 7 [(0, .ref (Z.ad rV)), (1, .ref q), (2, .int (b01 false))] [.int (b01 false), .ref (Z.ad rV)] rfl ?_
  refine kx_if (tgt := 14) (kx_tk_dec rfl dV_takeLine) rfl (fun e7 => ?_) (fun e7 => ?_)
  · skip
    replace e7 : b01 false = 0 := e7
    replace e7 : false = false := b01_f e7
    refine kx_rn dV_takeLine 1 15 [(0, .ref (Z.ad rV)), (1, .ref q), (2, .int (b01 false))] [.ref q, .ref (Z.ad rV)] rfl ?_
    refine pV_231 (v := .int at0) rfl (kx_tk_dec rfl dV_takeLine) (kx_is_ne hqf hqv) rfl ?_
    refine qV_30 rfl (kx_tk_dec rfl dV_takeLine) (hz1.is rV rfl) rfl rfl (Nat.le_of_ble_eq_true rfl) ?_
    refine cw_go (cz_sS (ρ := rV) hz1 rfl 4 at0 rfl) (fun h1 hz1 => ?_)
    refine kx_rn dV_takeLine 1 22 [(0, .ref (Z.ad rV)), (1, .ref q), (2, .int (b01 false))] [.int (b01 false)] rfl ?_
    refine kx_if (tgt := 35) (kx_tk_dec rfl dV_takeLine) rfl (fun e22 => ?_) (fun e22 => ?_)
    · skip
      replace e22 : ¬ b01 false = 0 := e22
      replace e22 : false = true := b01_t e22
      cases e22
    · skip
      replace e22 : b01 false = 0 := e22
      replace e22 : false = false := b01_f e22
      refine xV_234 (kc := 0) (ks := 0) rfl dV_takeLine rfl rfl rfl rfl rfl (fun q hq => by cases hq) (Nat.le_of_ble_eq_true rfl) ?_
      exact ⟨_, rfl, cx_new hz1.b1 hz1.b2, cz_new hz1 _⟩
  · skip
    replace e7 : ¬ b01 false = 0 := e7
    replace e7 : false = true := b01_t e7
    cases e7
/-- a new parser stands there, with its program -/
theorem qH_self {h1 h2 : kx_H} {tx ln : Nat} {T : Nat → Int32} (hZ : cOk G m S A h Z) (hG : G.1 ≤ h.1) (g1 : h2.1 = h.1 + 1 + 3) (g2 : ∀ a, a < h.1 + 1 → a ≠ h.1 → h2.2 a = (kx_new h (.inr (6, [.null, .int 0, .null, .int 0, .int 0]))).2 a) (g3 : h2.2 h.1 = qO tx ln (h.1 + 1) 0 0) (g4 : h2.2 (h.1 + 1) = pO (h.1 + 1 + 1) (h.1 + 1 + 2) 0 0) (g5 : h2.2 (h.1 + 1 + 1) = kIa 40 (fun _ => 0)) (ht : kx_is G h tx (kIa 40 T)) :
    qFx G h2 h.1 (h.1 + 1) (h.1 + 1 + 1) tx T ∧ h2 = qH h2 h.1 (h.1 + 1) (h.1 + 1 + 1) (h.1 + 1 + 2) tx ln (nI 0) 0 (fun _ => 0) 0 ∧ (∀ a, a < h.1 → h2.2 a = h.2 a) := by
  have hold : ∀ a, a < h.1 → h2.2 a = h.2 a := fun a ha => by
    rw [g2 a (by omega) (by omega)]
    show va_up h.2 h.1 _ a = _
    rw [va_up_ne _ _ (by omega)]
  have htl := ht.2.1
  refine ⟨⟨⟨hG, by omega⟩, ⟨by omega, by omega⟩, ⟨by omega, by omega⟩, ⟨ht.1, by omega, by rw [hold tx htl]; exact ht.2.2⟩, by omega, by omega, by omega, by omega, by omega, by omega⟩, ?_, hold⟩
  unfold qH
  have i1 : kx_is G h2 (h.1 + 1 + 1) (kIa 40 (fun _ => 0)) := ⟨by omega, by omega, g5⟩
  have i2 : kx_is G h2 (h.1 + 1) (pO (h.1 + 1 + 1) (h.1 + 1 + 2) (nI 0) 0) := ⟨by omega, by omega, g4⟩
  have i3 : kx_is G h2 h.1 (qO tx ln (h.1 + 1) (nI 0) 0) := ⟨hG, by omega, g3⟩
  rw [kx_set_self i1, kx_set_self i2, kx_set_self i3]
theorem qH_o {h2 : kx_H} {q p s k tx ln n a : Nat} {at0 col : Int32} {F : Nat → Int32} (h1 : a ≠ q) (h3 : a ≠ p) (h4 : a ≠ s) : (qH h2 q p s k tx ln at0 col F n).2 a = h2.2 a := by
  show va_up (va_up (va_up h2.2 s _) p _) q _ a = _
  rw [va_up_ne _ _ h1, va_up_ne _ _ h3, va_up_ne _ _ h4]
end KC42
