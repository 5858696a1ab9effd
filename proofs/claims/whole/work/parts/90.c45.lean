/-! ===== the other side: tables made, count ===== -/
section KC45
variable {G : kx_G} {l : Launch} {d : Nat} {h : kx_H} {m : Nat} {S : Nat → Int32} {A : Nat → Nat → Int32} {Z : cZ}
set_option maxRecDepth 100000 in
theorem cR_init {r : Nat} (hst : l.stackTraces = false) (hr : kx_is G h r (.inr (5, [.null]))) :
    kx_c G l mR_init d 1 41 [.ref r] h (fun o h' => o = .returned none ∧ h'.1 = h.1 + 1 ∧ (∀ a, a < h.1 → a ≠ r → h'.2 a = h.2 a) ∧ h'.2 r = .inr (5, [.ref h.1]) ∧ h'.2 h.1 = kQa 5 41 (fun _ => none)) := by
  have hrl := hr.2.1
  refine kx_in (by decide +kernel) (Nat.le_of_ble_eq_true rfl) hst ?_
  refine kx_rn dR_init 1 1 [(0, .ref r)] [.ref r] rfl ?_
  refine cR_3 rfl (kx_tk_dec rfl dR_init) (Nat.le_of_ble_eq_true rfl) ?_
  refine kx_rn dR_init 2 7 [(0, .ref r)] [.int 41, .ref r] rfl ?_
  refine aR_9 (kc := 0) (ks := 0) (N := 41) rfl (kx_tk_dec rfl dR_init) (by decide) rfl (by decide) ?_
  refine qR_11 rfl rfl (kx_tk_dec rfl dR_init) (kx_is_new hr) rfl rfl (Nat.le_of_ble_eq_true rfl) ?_
  refine kx_retv (kx_tk_dec rfl dR_init) rfl ?_
  refine ⟨rfl, rfl, fun a ha hne => ?_, ?_, ?_⟩
  · show va_up (va_up h.2 h.1 _) r _ a = _
    rw [va_up_ne _ _ hne, va_up_ne _ _ (by omega)]
  · exact va_up_self _ _ _
  · show va_up (va_up h.2 h.1 _) r _ h.1 = _
    rw [va_up_ne _ _ (by omega)]
    exact va_up_self _ _ _
set_option maxRecDepth 100000 in
theorem cB_init {b cl : Nat} (hst : l.stackTraces = false) (hb : kx_is G h b (.inr (4, [.int 0, .null, .int 0, .int 0]))) (hG : G.1 ≤ h.1) :
    kx_c G l mB_init (d + 1) 49 1032 [.ref b, .int (nI cl)] h (fun o h' => o = .returned none ∧ h'.1 = h.1 + 1 + 2 * 24 ∧ (∀ a, a < h.1 → a ≠ b → h'.2 a = h.2 a) ∧ h'.2 b = .inr (4, [.int (nI cl), .ref h.1, .int 0, .int 0]) ∧ h'.2 h.1 = kQa 4 24 (fun r => if r < 24 then some (h.1 + 1 + 2 * r) else none) ∧ ∀ r, r < 24 → h'.2 (h.1 + 1 + 2 * r) = .inr (5, [.ref (h.1 + 2 + 2 * r)]) ∧ h'.2 (h.1 + 2 + 2 * r) = kQa 5 41 (fun _ => none)) := by
  have hbl := hb.2.1
  refine kx_in (by decide +kernel) (Nat.le_of_ble_eq_true rfl) hst ?_
  have loop : ∀ n (j : Nat) (h2 : kx_H), j + n = 24 → (h2.1 = h.1 + 1 + 2 * j ∧ (∀ a, a < h.1 → a ≠ b → h2.2 a = h.2 a) ∧ h2.2 b = .inr (4, [.int (nI cl), .ref h.1, .int 0, .int 0]) ∧ h2.2 h.1 = kQa 4 24 (fun r => if r < j then some (h.1 + 1 + 2 * r) else none) ∧ ∀ r, r < j → h2.2 (h.1 + 1 + 2 * r) = .inr (5, [.ref (h.1 + 2 + 2 * r)]) ∧ h2.2 (h.1 + 2 + 2 * r) = kQa 5 41 (fun _ => none)) → kx_w G l mB_init (d + 1) (fun o h' => o = .returned none ∧ h'.1 = h.1 + 1 + 2 * 24 ∧ (∀ a, a < h.1 → a ≠ b → h'.2 a = h.2 a) ∧ h'.2 b = .inr (4, [.int (nI cl), .ref h.1, .int 0, .int 0]) ∧ h'.2 h.1 = kQa 4 24 (fun r => if r < 24 then some (h.1 + 1 + 2 * r) else none) ∧ ∀ r, r < 24 → h'.2 (h.1 + 1 + 2 * r) = .inr (5, [.ref (h.1 + 2 + 2 * r)]) ∧ h'.2 (h.1 + 2 + 2 * r) = kQa 5 41 (fun _ => none)) (2 * n) (42 * n) 30 [(0, .ref b), (1, .int (nI cl)), (2, .int (nI j))] [] h2 := by
    intro n
    induction n with
    | zero =>
      intro j h2 hj hf
      refine kx_rn dB_init 2 33 [(0, .ref b), (1, .int (nI cl)), (2, .int (nI j))] [.int 24, .int (nI j)] rfl ?_
      refine kx_ic (tgt := 55) (kx_tk_dec rfl dB_init) rfl (fun e33 => ?_) (fun e33 => ?_)
      · skip
        replace e33 : 24 ≤ nI j := e33
        replace e33 : 24 ≤ j := (nI_leI (a := 24) (b := j) (by omega) (by omega)).mp e33
        refine kx_retv (kx_tk_dec rfl dB_init) rfl ?_
        rw [show j = 24 by omega] at hf; exact ⟨rfl, hf⟩
      · skip
        replace e33 : ¬ 24 ≤ nI j := e33
        replace e33 : ¬ 24 ≤ j := fun z => e33 ((nI_leI (a := 24) (b := j) (by omega) (by omega)).mpr z)
        exfalso; omega
    | succ n ih =>
      intro j h2 hj hf
      obtain ⟨g1, g2, g3, g4, g5⟩ := hf
      have hb2 : kx_is G h2 b (.inr (4, [.int (nI cl), .ref h.1, .int 0, .int 0])) := ⟨hb.1, by omega, g3⟩
      have hr2 : kx_is G h2 h.1 (kQa 4 24 (fun r => if r < j then some (h.1 + 1 + 2 * r) else none)) := ⟨hG, by omega, g4⟩
      show kx_w _ _ _ _ _ (2 * n + 2) (42 * n + 42) _ _ _ _
      refine kx_rn dB_init 2 33 [(0, .ref b), (1, .int (nI cl)), (2, .int (nI j))] [.int 24, .int (nI j)] rfl ?_
      refine kx_ic (tgt := 55) (kx_tk_dec rfl dB_init) rfl (fun e33 => ?_) (fun e33 => ?_)
      · skip
        replace e33 : 24 ≤ nI j := e33
        replace e33 : 24 ≤ j := (nI_leI (a := 24) (b := j) (by omega) (by omega)).mp e33
        exfalso; omega
      · skip
        replace e33 : ¬ 24 ≤ nI j := e33
        replace e33 : ¬ 24 ≤ j := fun z => e33 ((nI_leI (a := 24) (b := j) (by omega) (by omega)).mpr z)
        refine kx_rn dB_init 1 37 [(0, .ref b), (1, .int (nI cl)), (2, .int (nI j))] [.ref b] rfl ?_
        refine pB_11 (v := .ref h.1) rfl (kx_tk_dec rfl dB_init) hb2 rfl ?_
        refine kx_rn dB_init 1 41 [(0, .ref b), (1, .int (nI cl)), (2, .int (nI j))] [.int (nI j), .ref h.1] rfl ?_
        refine nB_9 (kc := 2 * n + 1) (ks := 42 * n + 41) rfl (kx_tk_dec rfl dB_init) ?_
        refine kx_rn dB_init 1 45 [(0, .ref b), (1, .int (nI cl)), (2, .int (nI j))] [.ref h2.1, .ref h2.1, .int (nI j), .ref h.1] rfl ?_
        refine cB_27 (as := []) (st := [.ref h2.1, .int (nI j), .ref h.1]) (mc := 1) (ms := 41) (kc := 2 * n) (ks := 42 * n) rfl (kx_tk_dec rfl dB_init) rfl rfl (Nat.le_of_ble_eq_true rfl) (cR_init (h := kx_new h2 (.inr (5, [.null]))) hst (cxn_new (h := h2) (by omega))) (fun o h' hq => ?_)
        obtain ⟨rfl, k1, k2, k3, k4⟩ := hq
        replace k1 : h'.1 = h2.1 + 1 + 1 := k1
        replace k3 : h'.2 h2.1 = .inr (5, [.ref (h2.1 + 1)]) := k3
        replace k4 : h'.2 (h2.1 + 1) = kQa 5 41 (fun _ => none) := k4
        have k5 : ∀ a, a < h2.1 → h'.2 a = h2.2 a := fun a ha => by
          rw [k2 a (by show a < h2.1 + 1; omega) (by omega)]
          show va_up h2.2 h2.1 _ a = _
          rw [va_up_ne _ _ (by omega)]
        have hr3 : kx_is G h' h.1 (kQa 4 24 (fun r => if r < j then some (h.1 + 1 + 2 * r) else none)) := ⟨hG, by omega, by rw [k5 h.1 (by omega)]; exact g4⟩
        show kx_w _ _ _ _ _ _ _ _ _ _ _
        refine kx_qstO (i := j) rfl rfl (kx_tk_dec rfl dB_init) hr3 (⟨by omega, by omega, k3⟩) (by show j < 24; omega) (by decide) ?_
        refine kx_rn dB_init 2 30 [(0, .ref b), (1, .int (nI cl)), (2, .int ((nI j) + 1))] [] rfl ?_
        rw [show (nI j) + 1 = nI (j + 1) from kn_ad rfl rfl]
        refine ih (j + 1) _ (by omega) ⟨by show h'.1 = _; omega, fun a ha hne => ?_, ?_, ?_, fun r hr => ?_⟩
        · show va_up h'.2 h.1 _ a = _
          rw [va_up_ne _ _ (by omega), k5 a (by omega)]; exact g2 a ha hne
        · show va_up h'.2 h.1 _ b = _
          rw [va_up_ne _ _ (by omega), k5 b (by omega)]; exact g3
        · show va_up h'.2 h.1 _ h.1 = _
          rw [va_up_self]
          have : va_up (fun r => if r < j then some (h.1 + 1 + 2 * r) else none) j (some h2.1) = (fun r => if r < j + 1 then some (h.1 + 1 + 2 * r) else none) := by
            funext r
            by_cases e : r = j
            · rw [e, va_up_self, if_pos (by omega)]; congr 1
            · rw [va_up_ne _ _ e]
              by_cases y : r < j
              · rw [if_pos y, if_pos (by omega)]
              · rw [if_neg y, if_neg (by omega)]
          rw [this]
        · show va_up h'.2 h.1 _ (h.1 + 1 + 2 * r) = _ ∧ va_up h'.2 h.1 _ (h.1 + 2 + 2 * r) = _
          rw [va_up_ne _ _ (by omega), va_up_ne _ _ (by omega)]
          by_cases e : r = j
          · rw [e, show h.1 + 1 + 2 * j = h2.1 by omega, show h.1 + 2 + 2 * j = h2.1 + 1 by omega]
            exact ⟨k3, k4⟩
          · rw [k5 _ (by omega), k5 _ (by omega)]
            exact g5 r (by omega)
  refine kx_rn dB_init 1 1 [(0, .ref b), (1, .int (nI cl))] [.ref b] rfl ?_
  refine cB_3 rfl (kx_tk_dec rfl dB_init) (Nat.le_of_ble_eq_true rfl) ?_
  refine kx_rn dB_init 2 7 [(0, .ref b), (1, .int (nI cl))] [.int 24, .ref b] rfl ?_
  refine aB_9 (kc := 48) (ks := 1008) (N := 24) rfl (kx_tk_dec rfl dB_init) (by decide) rfl (by decide) ?_
  refine qB_11 rfl rfl (kx_tk_dec rfl dB_init) (kx_is_new hb) rfl rfl (Nat.le_of_ble_eq_true rfl) ?_
  refine kx_rn dB_init 2 15 [(0, .ref b), (1, .int (nI cl))] [.int 0, .ref b] rfl ?_
  refine qB_17 rfl (kx_tk_dec rfl dB_init) (kx_is_eq (kx_is_new hb)) rfl rfl (Nat.le_of_ble_eq_true rfl) ?_
  refine kx_rn dB_init 2 20 [(0, .ref b), (1, .int (nI cl))] [.int 0, .ref b] rfl ?_
  refine qB_21 rfl (kx_tk_dec rfl dB_init) (kx_is_eq (kx_is_eq (kx_is_new hb))) rfl rfl (Nat.le_of_ble_eq_true rfl) ?_
  refine kx_rn dB_init 2 25 [(0, .ref b), (1, .int (nI cl))] [.int (nI cl), .ref b] rfl ?_
  refine qB_24 rfl rfl (kx_tk_dec rfl dB_init) (kx_is_eq (kx_is_eq (kx_is_eq (kx_is_new hb)))) rfl rfl (Nat.le_of_ble_eq_true rfl) ?_
  refine kx_rn dB_init 2 30 [(0, .ref b), (1, .int (nI cl)), (2, .int 0)] [] rfl ?_
  refine loop 24 0 _ rfl ⟨rfl, fun a ha hne => ?_, va_up_self _ _ _, ?_, fun r hr => by omega⟩
  · show va_up (va_up (va_up (va_up (va_up h.2 h.1 _) b _) b _) b _) b _ a = _
    rw [va_up_ne _ _ hne, va_up_ne _ _ hne, va_up_ne _ _ hne, va_up_ne _ _ hne, va_up_ne _ _ (by omega)]
  · show va_up (va_up (va_up (va_up (va_up h.2 h.1 _) b _) b _) b _) b _ h.1 = _
    rw [va_up_ne _ _ (by omega), va_up_ne _ _ (by omega), va_up_ne _ _ (by omega), va_up_ne _ _ (by omega), va_up_self]
    have : (fun _ => none : Nat → Option Nat) = (fun r => if r < 0 then some (h.1 + 1 + 2 * r) else none) := by
      funext r; rw [if_neg (by omega)]
    rw [← this]
set_option maxRecDepth 100000 in
theorem cV_create1 {k c : Int32} (hst : l.stackTraces = false) (hZ : cOk G m S A h Z) (hbad : k < 0 ∨ ¬ k < 3 ∨ c < 1 ∨ ¬ c ≤ 4) :
    kx_c G l mV_create (d + 2) 1 6 [.ref (Z.ad rV), .int k, .int c] h (fun o h' => ∃ x, o = .threw x ∧ kx_is G h' x (.inr (9, [])) ∧ cOk G m S A h' Z) := by
  refine kx_in (by decide +kernel) (Nat.le_of_ble_eq_true rfl) hst ?_
  refine kx_rn dV_create 1 1 [(0, .ref (Z.ad rV)), (1, .int k), (2, .int c)] [.int k] rfl ?_
  refine kx_if (tgt := 19) (kx_tk_dec rfl dV_create) rfl (fun e1 => ?_) (fun e1 => ?_)
  · skip
    replace e1 : k < 0 := e1
    refine xV_59 (kc := 0) (ks := 0) rfl dV_create rfl rfl rfl rfl rfl (fun q hq => by cases hq) (Nat.le_of_ble_eq_true rfl) ?_
    exact ⟨_, rfl, cx_new hZ.b1 hZ.b2, cz_new hZ _⟩
  · skip
    replace e1 : ¬ k < 0 := e1
    refine kx_rn dV_create 2 6 [(0, .ref (Z.ad rV)), (1, .int k), (2, .int c)] [.int 3, .int k] rfl ?_
    refine kx_ic (tgt := 19) (kx_tk_dec rfl dV_create) rfl (fun e6 => ?_) (fun e6 => ?_)
    · skip
      replace e6 : 3 ≤ k := e6
      refine xV_59 (kc := 0) (ks := 0) rfl dV_create rfl rfl rfl rfl rfl (fun q hq => by cases hq) (Nat.le_of_ble_eq_true rfl) ?_
      exact ⟨_, rfl, cx_new hZ.b1 hZ.b2, cz_new hZ _⟩
    · skip
      replace e6 : ¬ 3 ≤ k := e6
      refine kx_rn dV_create 2 11 [(0, .ref (Z.ad rV)), (1, .int k), (2, .int c)] [.int 1, .int c] rfl ?_
      refine kx_ic (tgt := 19) (kx_tk_dec rfl dV_create) rfl (fun e11 => ?_) (fun e11 => ?_)
      · skip
        replace e11 : c < 1 := e11
        refine xV_59 (kc := 0) (ks := 0) rfl dV_create rfl rfl rfl rfl rfl (fun q hq => by cases hq) (Nat.le_of_ble_eq_true rfl) ?_
        exact ⟨_, rfl, cx_new hZ.b1 hZ.b2, cz_new hZ _⟩
      · skip
        replace e11 : ¬ c < 1 := e11
        refine kx_rn dV_create 2 16 [(0, .ref (Z.ad rV)), (1, .int k), (2, .int c)] [.int 4, .int c] rfl ?_
        refine kx_ic (tgt := 29) (kx_tk_dec rfl dV_create) rfl (fun e16 => ?_) (fun e16 => ?_)
        · skip
          replace e16 : c ≤ 4 := e16
          exact (hbad.elim e1 (fun z => z.elim (fun y => y (Int32.not_le.mp e6)) (fun z => z.elim e11 (fun y => y e16)))).elim
        · skip
          replace e16 : ¬ c ≤ 4 := e16
          refine xV_59 (kc := 0) (ks := 0) rfl dV_create rfl rfl rfl rfl rfl (fun q hq => by cases hq) (Nat.le_of_ble_eq_true rfl) ?_
          exact ⟨_, rfl, cx_new hZ.b1 hZ.b2, cz_new hZ _⟩
set_option maxRecDepth 100000 in
theorem cV_create2 {k cl : Nat} (hst : l.stackTraces = false) (hZ : cOk G m S A h Z) (hk : k < 3) (hc1 : 1 ≤ cl) (hc2 : cl ≤ 4) (ht : Z.tb k = true) :
    kx_c G l mV_create (d + 2) 1 6 [.ref (Z.ad rV), .int (nI k), .int (nI cl)] h (fun o h' => ∃ x, o = .threw x ∧ kx_is G h' x (.inr (10, [])) ∧ cOk G m S A h' Z) := by
  refine kx_in (by decide +kernel) (Nat.le_of_ble_eq_true rfl) hst ?_
  refine kx_rn dV_create 1 1 [(0, .ref (Z.ad rV)), (1, .int (nI k)), (2, .int (nI cl))] [.int (nI k)] rfl ?_
  refine kx_if (tgt := 19) (kx_tk_dec rfl dV_create) rfl (fun e1 => ?_) (fun e1 => ?_)
  · skip
    replace e1 : nI k < 0 := e1
    exact absurd e1 (nI_pos (by omega))
  · skip
    replace e1 : ¬ nI k < 0 := e1
    refine kx_rn dV_create 2 6 [(0, .ref (Z.ad rV)), (1, .int (nI k)), (2, .int (nI cl))] [.int 3, .int (nI k)] rfl ?_
    refine kx_ic (tgt := 19) (kx_tk_dec rfl dV_create) rfl (fun e6 => ?_) (fun e6 => ?_)
    · skip
      replace e6 : 3 ≤ nI k := e6
      replace e6 : 3 ≤ k := (nI_leI (a := 3) (b := k) (by omega) (by omega)).mp e6
      exfalso; omega
    · skip
      replace e6 : ¬ 3 ≤ nI k := e6
      replace e6 : ¬ 3 ≤ k := fun z => e6 ((nI_leI (a := 3) (b := k) (by omega) (by omega)).mpr z)
      refine kx_rn dV_create 2 11 [(0, .ref (Z.ad rV)), (1, .int (nI k)), (2, .int (nI cl))] [.int 1, .int (nI cl)] rfl ?_
      refine kx_ic (tgt := 19) (kx_tk_dec rfl dV_create) rfl (fun e11 => ?_) (fun e11 => ?_)
      · skip
        replace e11 : nI cl < 1 := e11
        replace e11 : cl < 1 := (nI_ltI (a := cl) (b := 1) (by omega) (by omega)).mp e11
        exfalso; omega
      · skip
        replace e11 : ¬ nI cl < 1 := e11
        replace e11 : ¬ cl < 1 := fun z => e11 ((nI_ltI (a := cl) (b := 1) (by omega) (by omega)).mpr z)
        refine kx_rn dV_create 2 16 [(0, .ref (Z.ad rV)), (1, .int (nI k)), (2, .int (nI cl))] [.int 4, .int (nI cl)] rfl ?_
        refine kx_ic (tgt := 29) (kx_tk_dec rfl dV_create) rfl (fun e16 => ?_) (fun e16 => ?_)
        · skip
          replace e16 : nI cl ≤ 4 := e16
          replace e16 : cl ≤ 4 := (nI_leI (a := cl) (b := 4) (by omega) (by omega)).mp e16
          refine kx_rn dV_create 1 30 [(0, .ref (Z.ad rV)), (1, .int (nI k)), (2, .int (nI cl))] [.ref (Z.ad rV)] rfl ?_
          refine pV_11 (v := .ref (Z.ad rTbs)) rfl (kx_tk_dec rfl dV_create) (hZ.is rV rfl) rfl ?_
          refine kx_rn dV_create 1 34 [(0, .ref (Z.ad rV)), (1, .int (nI k)), (2, .int (nI cl))] [.int (nI k), .ref (Z.ad rTbs)] rfl ?_
          refine kx_qldN (x := ((tbF Z)) k) (i := k) rfl rfl (kx_tk_dec rfl dV_create) (hZ.is rTbs rfl) (by show k < 3; omega) (by decide) rfl ?_
          refine kx_nul (tgt := 48) (kx_tk_dec rfl dV_create) rfl (fun e35 => ?_) (fun a35 e35 => ?_)
          · skip
            rw [tbF_n e35] at ht; cases ht
          · skip
            refine xV_66 (kc := 0) (ks := 0) rfl dV_create rfl rfl rfl rfl rfl (fun q hq => by cases hq) (Nat.le_of_ble_eq_true rfl) ?_
            exact ⟨_, rfl, cx_new hZ.b1 hZ.b2, cz_new hZ _⟩
        · skip
          replace e16 : ¬ nI cl ≤ 4 := e16
          replace e16 : ¬ cl ≤ 4 := fun z => e16 ((nI_leI (a := cl) (b := 4) (by omega) (by omega)).mpr z)
          exfalso; omega
set_option maxRecDepth 100000 in
theorem cV_create0 {k cl : Nat} (hst : l.stackTraces = false) (hZ : cOk G m S A h Z) (hk : k < 3) (hc1 : 1 ≤ cl) (hc2 : cl ≤ 4) (ht : Z.tb k = false) :
    kx_c G l mV_create (d + 2) 50 1036 [.ref (Z.ad rV), .int (nI k), .int (nI cl)] h (fun o h' => o = .returned none ∧ ∃ a, cOk G m S A h' (Z.nT k a (nI cl))) := by
  have hG : G.1 ≤ h.1 := by have := hZ.b1; have := hZ.b2; omega
  refine kx_in (by decide +kernel) (Nat.le_of_ble_eq_true rfl) hst ?_
  refine kx_rn dV_create 1 1 [(0, .ref (Z.ad rV)), (1, .int (nI k)), (2, .int (nI cl))] [.int (nI k)] rfl ?_
  refine kx_if (tgt := 19) (kx_tk_dec rfl dV_create) rfl (fun e1 => ?_) (fun e1 => ?_)
  · skip
    replace e1 : nI k < 0 := e1
    exact absurd e1 (nI_pos (by omega))
  · skip
    replace e1 : ¬ nI k < 0 := e1
    refine kx_rn dV_create 2 6 [(0, .ref (Z.ad rV)), (1, .int (nI k)), (2, .int (nI cl))] [.int 3, .int (nI k)] rfl ?_
    refine kx_ic (tgt := 19) (kx_tk_dec rfl dV_create) rfl (fun e6 => ?_) (fun e6 => ?_)
    · skip
      replace e6 : 3 ≤ nI k := e6
      replace e6 : 3 ≤ k := (nI_leI (a := 3) (b := k) (by omega) (by omega)).mp e6
      exfalso; omega
    · skip
      replace e6 : ¬ 3 ≤ nI k := e6
      replace e6 : ¬ 3 ≤ k := fun z => e6 ((nI_leI (a := 3) (b := k) (by omega) (by omega)).mpr z)
      refine kx_rn dV_create 2 11 [(0, .ref (Z.ad rV)), (1, .int (nI k)), (2, .int (nI cl))] [.int 1, .int (nI cl)] rfl ?_
      refine kx_ic (tgt := 19) (kx_tk_dec rfl dV_create) rfl (fun e11 => ?_) (fun e11 => ?_)
      · skip
        replace e11 : nI cl < 1 := e11
        replace e11 : cl < 1 := (nI_ltI (a := cl) (b := 1) (by omega) (by omega)).mp e11
        exfalso; omega
      · skip
        replace e11 : ¬ nI cl < 1 := e11
        replace e11 : ¬ cl < 1 := fun z => e11 ((nI_ltI (a := cl) (b := 1) (by omega) (by omega)).mpr z)
        refine kx_rn dV_create 2 16 [(0, .ref (Z.ad rV)), (1, .int (nI k)), (2, .int (nI cl))] [.int 4, .int (nI cl)] rfl ?_
        refine kx_ic (tgt := 29) (kx_tk_dec rfl dV_create) rfl (fun e16 => ?_) (fun e16 => ?_)
        · skip
          replace e16 : nI cl ≤ 4 := e16
          replace e16 : cl ≤ 4 := (nI_leI (a := cl) (b := 4) (by omega) (by omega)).mp e16
          refine kx_rn dV_create 1 30 [(0, .ref (Z.ad rV)), (1, .int (nI k)), (2, .int (nI cl))] [.ref (Z.ad rV)] rfl ?_
          refine pV_11 (v := .ref (Z.ad rTbs)) rfl (kx_tk_dec rfl dV_create) (hZ.is rV rfl) rfl ?_
          refine kx_rn dV_create 1 34 [(0, .ref (Z.ad rV)), (1, .int (nI k)), (2, .int (nI cl))] [.int (nI k), .ref (Z.ad rTbs)] rfl ?_
          refine kx_qldN (x := none) (i := k) rfl rfl (kx_tk_dec rfl dV_create) (hZ.is rTbs rfl) (by show k < 3; omega) (by decide) (if_neg (by rw [ht]; decide)) ?_
          refine kx_nul (x := none) (tgt := 48) (kx_tk_dec rfl dV_create) rfl (fun e35 => ?_) (fun a35 e35 => ?_)
          · skip
            refine kx_rn dV_create 1 49 [(0, .ref (Z.ad rV)), (1, .int (nI k)), (2, .int (nI cl))] [.ref (Z.ad rV)] rfl ?_
            refine pV_11 (v := .ref (Z.ad rTbs)) rfl (kx_tk_dec rfl dV_create) (hZ.is rV rfl) rfl ?_
            refine kx_rn dV_create 1 53 [(0, .ref (Z.ad rV)), (1, .int (nI k)), (2, .int (nI cl))] [.int (nI k), .ref (Z.ad rTbs)] rfl ?_
            refine nV_9 (kc := 49) (ks := 1032) rfl (kx_tk_dec rfl dV_create) ?_
            refine kx_rn dV_create 2 58 [(0, .ref (Z.ad rV)), (1, .int (nI k)), (2, .int (nI cl))] [.int (nI cl), .ref h.1, .ref h.1, .int (nI k), .ref (Z.ad rTbs)] rfl ?_
            refine cV_69 (as := [.int (nI cl)]) (st := [.ref h.1, .int (nI k), .ref (Z.ad rTbs)]) (mc := 49) (ms := 1032) (kc := 0) (ks := 0) rfl (kx_tk_dec rfl dV_create) rfl rfl (Nat.le_of_ble_eq_true rfl) (cB_init (d := d) (h := kx_new h (.inr (4, [.int 0, .null, .int 0, .int 0]))) (b := h.1) (cl := cl) hst (cxn_new hG) (by show G.1 ≤ h.1 + 1; omega)) (fun o h' hq => ?_)
            obtain ⟨rfl, g1, g2, g3, g4, g5⟩ := hq
            replace g1 : h'.1 = h.1 + 1 + 1 + 2 * 24 := g1
            replace g3 : h'.2 h.1 = .inr (4, [.int (nI cl), .ref (h.1 + 1), .int 0, .int 0]) := g3
            replace g4 : h'.2 (h.1 + 1) = kQa 4 24 (fun r => if r < 24 then some (h.1 + 1 + 1 + 2 * r) else none) := g4
            replace g5 : ∀ r, r < 24 → h'.2 (h.1 + 1 + 1 + 2 * r) = .inr (5, [.ref (h.1 + 1 + 2 + 2 * r)]) ∧ h'.2 (h.1 + 1 + 2 + 2 * r) = kQa 5 41 (fun _ => none) := g5
            have hold : ∀ a, a < h.1 → h'.2 a = h.2 a := fun a ha => by
              rw [g2 a (by show a < h.1 + 1; omega) (by omega)]
              show va_up h.2 h.1 _ a = _
              rw [va_up_ne _ _ (by omega)]
            have hzq : cOk G m S A h' Z := cz_ext hZ (by omega) hold
            show kx_w _ _ _ _ _ _ _ _ _ _ _
            refine kx_qstO (i := k) rfl rfl (kx_tk_dec rfl dV_create) (hzq.is rTbs rfl) (⟨hG, by omega, g3⟩) (by show k < 3; omega) (by decide) ?_
            have hz10 := cz_nT (a := h.1) (cl := nI cl) hzq hk ht (fun b hb => cz_fr hZ hb) ⟨hG, by omega, g3⟩ ⟨by omega, by omega, by
              rw [g4]⟩ (fun r hr => ⟨⟨by omega, by omega, by
              have y := (g5 r hr).1
              rw [show h.1 + 1 + 1 + 2 * r = h.1 + 2 + 2 * r by omega, show h.1 + 1 + 2 + 2 * r = h.1 + 3 + 2 * r by omega] at y
              exact y⟩, ⟨by omega, by omega, by
              have y := (g5 r hr).2
              rw [show h.1 + 1 + 2 + 2 * r = h.1 + 3 + 2 * r by omega] at y
              exact y⟩⟩) rfl
            refine cw_go hz10 (fun h11 hz11 => ?_)
            refine kx_retv (kx_tk_dec rfl dV_create) rfl ?_
            exact ⟨rfl, h.1, hz11⟩
          · skip
            cases e35
        · skip
          replace e16 : ¬ nI cl ≤ 4 := e16
          replace e16 : ¬ cl ≤ 4 := fun z => e16 ((nI_leI (a := cl) (b := 4) (by omega) (by omega)).mpr z)
          exfalso; omega
end KC45
