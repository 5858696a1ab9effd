/-! ===== the other side: where, setting ===== -/
section KC43
variable {G : kx_G} {l : Launch} {d : Nat} {h : kx_H} {m : Nat} {S : Nat → Int32} {A : Nat → Nat → Int32} {Z : cZ}
set_option maxRecDepth 100000 in
theorem cV_where0 {ln : Nat} (hst : l.stackTraces = false) (hZ : cOk G m S A h Z) (hlen : Z.sc rV 3 = nI ln) (hl40 : ln ≤ 40) (hrok : (pCond (Z.ia rLin) ln).1 = true) :
    kx_c G l mV_where (d + 17) 4 89 [.ref (Z.ad rV)] h (fun o h' => o = .returned none ∧ ∃ (F : Nat → Int32) (n p s k : Nat), cOk G m S A h' (((Z.sS rV 3 0).sS rV 4 (-1)).nP 0 p s k (nI n) F (fun _ => 0)) ∧ n = (pCond (Z.ia rLin) ln).2.2.length ∧ prg F (pCond (Z.ia rLin) ln).2.2) := by
  have hG : G.1 ≤ h.1 := by have := hZ.b1; have := hZ.b2; omega
  refine kx_in (by decide +kernel) (Nat.le_of_ble_eq_true rfl) hst ?_
  refine nV_76 (kc := 3) (ks := 84) rfl (kx_tk_dec rfl dV_where) ?_
  refine kx_rn dV_where 2 5 [(0, .ref (Z.ad rV))] [.ref (Z.ad rV), .ref h.1, .ref h.1] rfl ?_
  refine pV_22 (v := .ref (Z.ad rLin)) rfl (kx_tk_dec rfl dV_where) ((cz_new hZ _).is rV rfl) rfl ?_
  refine kx_rn dV_where 1 9 [(0, .ref (Z.ad rV))] [.ref (Z.ad rV), .ref (Z.ad rLin), .ref h.1, .ref h.1] rfl ?_
  refine pV_26 (v := .int (Z.sc rV 3)) rfl (kx_tk_dec rfl dV_where) ((cz_new hZ _).is rV rfl) rfl ?_
  rw [hlen]
  refine cV_78 (as := [.ref (Z.ad rLin), .int (nI ln)]) (st := [.ref h.1]) (mc := 3) (ms := 84) (kc := 0) (ks := 0) rfl (kx_tk_dec rfl dV_where) rfl rfl (Nat.le_of_ble_eq_true rfl) (cQ_init (d := d + 15) (h := kx_new h (.inr (6, [.null, .int 0, .null, .int 0, .int 0]))) (q := h.1) (tx := Z.ad rLin) (ln := ln) hst (cxn_new hG) (by show G.1 ≤ h.1 + 1; omega)) (fun o h' hq => ?_)
  obtain ⟨rfl, g1, g2, g3, g4, g5, g6⟩ := hq
  obtain ⟨hn, hhn⟩ : ∃ hn, hn = h' := ⟨_, rfl⟩
  subst hhn
  show kx_w _ _ _ _ _ _ _ _ _ _ _
  obtain ⟨hqx, hself, hold⟩ := qH_self (h1 := h) (T := Z.ia rLin) hZ hG g1 g2 g3 g4 g5 (hZ.is rLin rfl)
  replace g1 : hn.1 = h.1 + 1 + 3 := g1
  replace g6 : hn.2 (h.1 + 1 + 2) = kIa 40 (fun _ => 0) := g6
  have hzq : cOk G m S A hn Z := cz_ext hZ (by omega) hold
  refine kx_rn dV_where 4 19 [(0, .ref (Z.ad rV)), (1, .ref h.1)] [.ref h.1, .ref h.1, .ref (Z.ad rV)] rfl ?_
  have hrd := cQ_readCondition (d := d) (k := h.1 + 1 + 2) (T := Z.ia rLin) (F := fun _ => 0) (col := 0) hst hqx hl40
  rw [← hself] at hrd
  refine cV_81 (as := []) (st := [.ref h.1, .ref (Z.ad rV)]) (mc := 0) (ms := 0) (kc := 0) (ks := 0) rfl (kx_tk_dec rfl dV_where) (⟨hG, by omega, g3⟩) rfl rfl (Nat.le_of_ble_eq_true rfl) (hrd) (fun o h' hq => ?_)
  obtain ⟨F9, n9, rfl, hh9, hn9, hg9⟩ := hq
  subst hh9
  show kx_w _ _ _ _ _ _ _ _ _ _ _
  have hzr : cOk G m S A (qH hn h.1 (h.1 + 1) (h.1 + 1 + 1) (h.1 + 1 + 2) (Z.ad rLin) ln (nI (pCond (Z.ia rLin) ln).2.1) 0 F9 n9) Z := by
    refine cz_ext (h' := qH hn h.1 (h.1 + 1) (h.1 + 1 + 1) (h.1 + 1 + 2) (Z.ad rLin) ln (nI (pCond (Z.ia rLin) ln).2.1) 0 F9 n9) hZ (by show h.1 ≤ hn.1; omega) (fun a ha => ?_)
    rw [qH_o (by omega) (by omega) (by omega)]; exact hold a ha
  have hvl : Z.ad rV < h.1 := (hZ.is rV rfl).2.1
  have hqf : kx_is G (qH hn h.1 (h.1 + 1) (h.1 + 1 + 1) (h.1 + 1 + 2) (Z.ad rLin) ln (nI (pCond (Z.ia rLin) ln).2.1) 0 F9 n9) h.1 (qO (Z.ad rLin) ln (h.1 + 1) (nI (pCond (Z.ia rLin) ln).2.1) 0) := qH_q hqx
  have hpf : kx_is G (qH hn h.1 (h.1 + 1) (h.1 + 1 + 1) (h.1 + 1 + 2) (Z.ad rLin) ln (nI (pCond (Z.ia rLin) ln).2.1) 0 F9 n9) (h.1 + 1) (pO (h.1 + 1 + 1) (h.1 + 1 + 2) (nI n9) 0) := qH_p hqx
  have hsf : kx_is G (qH hn h.1 (h.1 + 1) (h.1 + 1 + 1) (h.1 + 1 + 2) (Z.ad rLin) ln (nI (pCond (Z.ia rLin) ln).2.1) 0 F9 n9) (h.1 + 1 + 1) (kIa 40 F9) := qH_s hqx
  have hkf : kx_is G (qH hn h.1 (h.1 + 1) (h.1 + 1 + 1) (h.1 + 1 + 2) (Z.ad rLin) ln (nI (pCond (Z.ia rLin) ln).2.1) 0 F9 n9) (h.1 + 1 + 2) (kIa 40 (fun _ => 0)) := ⟨by omega, by show h.1 + 1 + 2 < hn.1; omega, by rw [qH_o (by omega) (by omega) (by omega)]; exact g6⟩
  generalize qH hn h.1 (h.1 + 1) (h.1 + 1 + 1) (h.1 + 1 + 2) (Z.ad rLin) ln (nI (pCond (Z.ia rLin) ln).2.1) 0 F9 n9 = hx at hzr hqf hpf hsf hkf ⊢
  rw [hrok]
  refine cV_85 (as := [.ref h.1, .int (b01 true)]) (st := []) (mc := 0) (ms := 0) (kc := 0) (ks := 0) rfl (kx_tk_dec rfl dV_where) (hzr.is rV rfl) rfl rfl (Nat.le_of_ble_eq_true rfl) (cV_takeLine0 hst hzr hqf (by omega)) (fun o h' hq => ?_)
  obtain ⟨rfl, ho9, hs9, hz9⟩ := hq
  show kx_w _ _ _ _ _ _ _ _ _ _ _
  have hst9 : ∀ a c, a ≠ Z.ad rV → kx_is G hx a c → kx_is G h' a c := fun a c hne hc => ⟨hc.1, by rw [hs9]; exact hc.2.1, by rw [ho9 a hne]; exact hc.2.2⟩
  have hqf9 := hst9 _ _ (by omega) hqf
  have hpf9 := hst9 _ _ (by omega) hpf
  have hsf9 := hst9 _ _ (by omega) hsf
  have hkf9 := hst9 _ _ (by omega) hkf
  have hfre : ∀ a, h.1 ≤ a → (∀ τ, lvZ ((Z.sS rV 3 0).sS rV 4 (-1)) τ → ((Z.sS rV 3 0).sS rV 4 (-1)).ad τ ≠ a) ∧ ¬ (m ≤ a ∧ a ≤ m + 20) := fun a ha => cz_fr hZ ha
  refine kx_rn dV_where 2 27 [(0, .ref (Z.ad rV)), (1, .ref h.1)] [.ref h.1, .ref (Z.ad rV)] rfl ?_
  refine pV_89 (v := .ref (h.1 + 1)) rfl (kx_tk_dec rfl dV_where) hqf9 rfl ?_
  refine qV_36 rfl (kx_tk_dec rfl dV_where) (hz9.is rV rfl) rfl rfl (Nat.le_of_ble_eq_true rfl) ?_
  have hz10 := cz_nP (Z := ((Z.sS rV 3 0).sS rV 4 (-1))) (i := 0) (ρ := rV) (p := h.1 + 1) (s := h.1 + 1 + 1) (k := h.1 + 1 + 2) (n := nI n9) (F := F9) (K := fun _ => 0) hz9 (by decide) hpf9 hsf9 hkf9 (hfre _ (by omega)) (hfre _ (by omega)) (hfre _ (by omega)) (by omega) (by omega) (by omega) rfl rfl
  refine cw_go hz10 (fun h11 hz11 => ?_)
  refine kx_retv (kx_tk_dec rfl dV_where) rfl ?_
  exact ⟨rfl, F9, n9, _, _, _, hz11, hg9 hrok⟩
set_option maxRecDepth 100000 in
theorem cV_where1 {ln : Nat} (hst : l.stackTraces = false) (hZ : cOk G m S A h Z) (hlen : Z.sc rV 3 = nI ln) (hl40 : ln ≤ 40) (hrok : (pCond (Z.ia rLin) ln).1 = false) :
    kx_c G l mV_where (d + 17) 5 95 [.ref (Z.ad rV)] h (fun o h' => ∃ x, o = .threw x ∧ kx_is G h' x (.inr (9, [])) ∧ cOk G m S A h' ((Z.sS rV 3 0).sS rV 4 (nI (pCond (Z.ia rLin) ln).2.1))) := by
  have hG : G.1 ≤ h.1 := by have := hZ.b1; have := hZ.b2; omega
  refine kx_in (by decide +kernel) (Nat.le_of_ble_eq_true rfl) hst ?_
  refine nV_76 (kc := 4) (ks := 90) rfl (kx_tk_dec rfl dV_where) ?_
  refine kx_rn dV_where 2 5 [(0, .ref (Z.ad rV))] [.ref (Z.ad rV), .ref h.1, .ref h.1] rfl ?_
  refine pV_22 (v := .ref (Z.ad rLin)) rfl (kx_tk_dec rfl dV_where) ((cz_new hZ _).is rV rfl) rfl ?_
  refine kx_rn dV_where 1 9 [(0, .ref (Z.ad rV))] [.ref (Z.ad rV), .ref (Z.ad rLin), .ref h.1, .ref h.1] rfl ?_
  refine pV_26 (v := .int (Z.sc rV 3)) rfl (kx_tk_dec rfl dV_where) ((cz_new hZ _).is rV rfl) rfl ?_
  rw [hlen]
  refine cV_78 (as := [.ref (Z.ad rLin), .int (nI ln)]) (st := [.ref h.1]) (mc := 3) (ms := 84) (kc := 1) (ks := 6) rfl (kx_tk_dec rfl dV_where) rfl rfl (Nat.le_of_ble_eq_true rfl) (cQ_init (d := d + 15) (h := kx_new h (.inr (6, [.null, .int 0, .null, .int 0, .int 0]))) (q := h.1) (tx := Z.ad rLin) (ln := ln) hst (cxn_new hG) (by show G.1 ≤ h.1 + 1; omega)) (fun o h' hq => ?_)
  obtain ⟨rfl, g1, g2, g3, g4, g5, g6⟩ := hq
  obtain ⟨hn, hhn⟩ : ∃ hn, hn = h' := ⟨_, rfl⟩
  subst hhn
  show kx_w _ _ _ _ _ _ _ _ _ _ _
  obtain ⟨hqx, hself, hold⟩ := qH_self (h1 := h) (T := Z.ia rLin) hZ hG g1 g2 g3 g4 g5 (hZ.is rLin rfl)
  replace g1 : hn.1 = h.1 + 1 + 3 := g1
  replace g6 : hn.2 (h.1 + 1 + 2) = kIa 40 (fun _ => 0) := g6
  have hzq : cOk G m S A hn Z := cz_ext hZ (by omega) hold
  refine kx_rn dV_where 4 19 [(0, .ref (Z.ad rV)), (1, .ref h.1)] [.ref h.1, .ref h.1, .ref (Z.ad rV)] rfl ?_
  have hrd := cQ_readCondition (d := d) (k := h.1 + 1 + 2) (T := Z.ia rLin) (F := fun _ => 0) (col := 0) hst hqx hl40
  rw [← hself] at hrd
  refine cV_81 (as := []) (st := [.ref h.1, .ref (Z.ad rV)]) (mc := 0) (ms := 0) (kc := 1) (ks := 6) rfl (kx_tk_dec rfl dV_where) (⟨hG, by omega, g3⟩) rfl rfl (Nat.le_of_ble_eq_true rfl) (hrd) (fun o h' hq => ?_)
  obtain ⟨F9, n9, rfl, hh9, hn9, hg9⟩ := hq
  subst hh9
  show kx_w _ _ _ _ _ _ _ _ _ _ _
  have hzr : cOk G m S A (qH hn h.1 (h.1 + 1) (h.1 + 1 + 1) (h.1 + 1 + 2) (Z.ad rLin) ln (nI (pCond (Z.ia rLin) ln).2.1) 0 F9 n9) Z := by
    refine cz_ext (h' := qH hn h.1 (h.1 + 1) (h.1 + 1 + 1) (h.1 + 1 + 2) (Z.ad rLin) ln (nI (pCond (Z.ia rLin) ln).2.1) 0 F9 n9) hZ (by show h.1 ≤ hn.1; omega) (fun a ha => ?_)
    rw [qH_o (by omega) (by omega) (by omega)]; exact hold a ha
  have hvl : Z.ad rV < h.1 := (hZ.is rV rfl).2.1
  have hqf : kx_is G (qH hn h.1 (h.1 + 1) (h.1 + 1 + 1) (h.1 + 1 + 2) (Z.ad rLin) ln (nI (pCond (Z.ia rLin) ln).2.1) 0 F9 n9) h.1 (qO (Z.ad rLin) ln (h.1 + 1) (nI (pCond (Z.ia rLin) ln).2.1) 0) := qH_q hqx
  have hpf : kx_is G (qH hn h.1 (h.1 + 1) (h.1 + 1 + 1) (h.1 + 1 + 2) (Z.ad rLin) ln (nI (pCond (Z.ia rLin) ln).2.1) 0 F9 n9) (h.1 + 1) (pO (h.1 + 1 + 1) (h.1 + 1 + 2) (nI n9) 0) := qH_p hqx
  have hsf : kx_is G (qH hn h.1 (h.1 + 1) (h.1 + 1 + 1) (h.1 + 1 + 2) (Z.ad rLin) ln (nI (pCond (Z.ia rLin) ln).2.1) 0 F9 n9) (h.1 + 1 + 1) (kIa 40 F9) := qH_s hqx
  have hkf : kx_is G (qH hn h.1 (h.1 + 1) (h.1 + 1 + 1) (h.1 + 1 + 2) (Z.ad rLin) ln (nI (pCond (Z.ia rLin) ln).2.1) 0 F9 n9) (h.1 + 1 + 2) (kIa 40 (fun _ => 0)) := ⟨by omega, by show h.1 + 1 + 2 < hn.1; omega, by rw [qH_o (by omega) (by omega) (by omega)]; exact g6⟩
  generalize qH hn h.1 (h.1 + 1) (h.1 + 1 + 1) (h.1 + 1 + 2) (Z.ad rLin) ln (nI (pCond (Z.ia rLin) ln).2.1) 0 F9 n9 = hx at hzr hqf hpf hsf hkf ⊢
  rw [hrok]
  refine cV_85 (as := [.ref h.1, .int (b01 false)]) (st := []) (mc := 1) (ms := 6) (kc := 0) (ks := 0) rfl (kx_tk_dec rfl dV_where) (hzr.is rV rfl) rfl rfl (Nat.le_of_ble_eq_true rfl) (cV_takeLine1 hst hzr hqf (by omega)) (fun o h' hq => ?_)
  obtain ⟨x, rfl, hx2, hz9⟩ := hq
  exact kx_out (fun q hq => by cases hq) ⟨x, rfl, hx2, hz9⟩
theorem plF_nP {p s k : Nat} {n : Int32} {F K : Nat → Int32} (c : Nat) : pic G (Z.nP (c + 1) p s k n F K) rSta = kQa 3 4 (va_up (plF Z) c (some p)) := by
  have : plF (Z.nP (c + 1) p s k n F K) = va_up (plF Z) c (some p) := by
    funext y
    show (if va_up Z.pl (c + 1) true (y + 1) = true then some ((Z.nP (c + 1) p s k n F K).ad (rPrg (y + 1))) else none) = _
    by_cases e : y = c
    · rw [e, va_up_self, va_up_self, if_pos rfl]
      congr 1
      exact if_pos rfl
    · rw [va_up_ne _ _ (by omega), va_up_ne _ _ e, ad_nP (arg_ne (by omega)) (tag_ne (by decide)) (tag_ne (by decide))]; rfl
  show kQa 3 4 (plF (Z.nP (c + 1) p s k n F K)) = _
  rw [this]
set_option maxRecDepth 100000 in
theorem cV_setting0 {ln : Nat} (hst : l.stackTraces = false) (hZ : cOk G m S A h Z) (hlen : Z.sc rV 3 = nI ln) (hl40 : ln ≤ 40) (hrok : (pSet (Z.ia rLin) ln).1 = true) :
    kx_c G l mV_setting (d + 4) 4 89 [.ref (Z.ad rV)] h (fun o h' => ∃ c, c < 4 ∧ Z.ia rLin 0 = nI (97 + c) ∧ o = .returned (some (.int (nI (cnt (fun c2 => va_up Z.pl (c + 1) true (c2 + 1)) 4)))) ∧ ∃ (F : Nat → Int32) (n p s k : Nat), cOk G m S A h' (((Z.sS rV 3 0).sS rV 4 (-1)).nP (c + 1) p s k (nI n) F (fun _ => 0)) ∧ n = (pSet (Z.ia rLin) ln).2.2.length ∧ prg F (pSet (Z.ia rLin) ln).2.2) := by
  have hG : G.1 ≤ h.1 := by have := hZ.b1; have := hZ.b2; omega
  refine kx_in (by decide +kernel) (Nat.le_of_ble_eq_true rfl) hst ?_
  refine nV_76 (kc := 3) (ks := 84) rfl (kx_tk_dec rfl dV_setting) ?_
  refine kx_rn dV_setting 2 5 [(0, .ref (Z.ad rV))] [.ref (Z.ad rV), .ref h.1, .ref h.1] rfl ?_
  refine pV_22 (v := .ref (Z.ad rLin)) rfl (kx_tk_dec rfl dV_setting) ((cz_new hZ _).is rV rfl) rfl ?_
  refine kx_rn dV_setting 1 9 [(0, .ref (Z.ad rV))] [.ref (Z.ad rV), .ref (Z.ad rLin), .ref h.1, .ref h.1] rfl ?_
  refine pV_26 (v := .int (Z.sc rV 3)) rfl (kx_tk_dec rfl dV_setting) ((cz_new hZ _).is rV rfl) rfl ?_
  rw [hlen]
  refine cV_78 (as := [.ref (Z.ad rLin), .int (nI ln)]) (st := [.ref h.1]) (mc := 3) (ms := 84) (kc := 0) (ks := 0) rfl (kx_tk_dec rfl dV_setting) rfl rfl (Nat.le_of_ble_eq_true rfl) (cQ_init (d := d + 2) (h := kx_new h (.inr (6, [.null, .int 0, .null, .int 0, .int 0]))) (q := h.1) (tx := Z.ad rLin) (ln := ln) hst (cxn_new hG) (by show G.1 ≤ h.1 + 1; omega)) (fun o h' hq => ?_)
  obtain ⟨rfl, g1, g2, g3, g4, g5, g6⟩ := hq
  obtain ⟨hn, hhn⟩ : ∃ hn, hn = h' := ⟨_, rfl⟩
  subst hhn
  show kx_w _ _ _ _ _ _ _ _ _ _ _
  obtain ⟨hqx, hself, hold⟩ := qH_self (h1 := h) (T := Z.ia rLin) hZ hG g1 g2 g3 g4 g5 (hZ.is rLin rfl)
  replace g1 : hn.1 = h.1 + 1 + 3 := g1
  replace g6 : hn.2 (h.1 + 1 + 2) = kIa 40 (fun _ => 0) := g6
  have hzq : cOk G m S A hn Z := cz_ext hZ (by omega) hold
  refine kx_rn dV_setting 4 19 [(0, .ref (Z.ad rV)), (1, .ref h.1)] [.ref h.1, .ref h.1, .ref (Z.ad rV)] rfl ?_
  have hrd := cQ_readSetting (d := d) (k := h.1 + 1 + 2) (T := Z.ia rLin) (F := fun _ => 0) (col := 0) hst hqx hl40
  rw [← hself] at hrd
  refine cV_92 (as := []) (st := [.ref h.1, .ref (Z.ad rV)]) (mc := 0) (ms := 0) (kc := 0) (ks := 0) rfl (kx_tk_dec rfl dV_setting) (⟨hG, by omega, g3⟩) rfl rfl (Nat.le_of_ble_eq_true rfl) (hrd) (fun o h' hq => ?_)
  obtain ⟨F9, n9, col9, rfl, hh9, hn9, hg9⟩ := hq
  subst hh9
  show kx_w _ _ _ _ _ _ _ _ _ _ _
  have hzr : cOk G m S A (qH hn h.1 (h.1 + 1) (h.1 + 1 + 1) (h.1 + 1 + 2) (Z.ad rLin) ln (nI (pSet (Z.ia rLin) ln).2.1) col9 F9 n9) Z := by
    refine cz_ext (h' := qH hn h.1 (h.1 + 1) (h.1 + 1 + 1) (h.1 + 1 + 2) (Z.ad rLin) ln (nI (pSet (Z.ia rLin) ln).2.1) col9 F9 n9) hZ (by show h.1 ≤ hn.1; omega) (fun a ha => ?_)
    rw [qH_o (by omega) (by omega) (by omega)]; exact hold a ha
  have hvl : Z.ad rV < h.1 := (hZ.is rV rfl).2.1
  have hqf : kx_is G (qH hn h.1 (h.1 + 1) (h.1 + 1 + 1) (h.1 + 1 + 2) (Z.ad rLin) ln (nI (pSet (Z.ia rLin) ln).2.1) col9 F9 n9) h.1 (qO (Z.ad rLin) ln (h.1 + 1) (nI (pSet (Z.ia rLin) ln).2.1) col9) := qH_q hqx
  have hpf : kx_is G (qH hn h.1 (h.1 + 1) (h.1 + 1 + 1) (h.1 + 1 + 2) (Z.ad rLin) ln (nI (pSet (Z.ia rLin) ln).2.1) col9 F9 n9) (h.1 + 1) (pO (h.1 + 1 + 1) (h.1 + 1 + 2) (nI n9) 0) := qH_p hqx
  have hsf : kx_is G (qH hn h.1 (h.1 + 1) (h.1 + 1 + 1) (h.1 + 1 + 2) (Z.ad rLin) ln (nI (pSet (Z.ia rLin) ln).2.1) col9 F9 n9) (h.1 + 1 + 1) (kIa 40 F9) := qH_s hqx
  have hkf : kx_is G (qH hn h.1 (h.1 + 1) (h.1 + 1 + 1) (h.1 + 1 + 2) (Z.ad rLin) ln (nI (pSet (Z.ia rLin) ln).2.1) col9 F9 n9) (h.1 + 1 + 2) (kIa 40 (fun _ => 0)) := ⟨by omega, by show h.1 + 1 + 2 < hn.1; omega, by rw [qH_o (by omega) (by omega) (by omega)]; exact g6⟩
  generalize qH hn h.1 (h.1 + 1) (h.1 + 1 + 1) (h.1 + 1 + 2) (Z.ad rLin) ln (nI (pSet (Z.ia rLin) ln).2.1) col9 F9 n9 = hx at hzr hqf hpf hsf hkf ⊢
  rw [hrok]
  refine cV_85 (as := [.ref h.1, .int (b01 true)]) (st := []) (mc := 0) (ms := 0) (kc := 0) (ks := 0) rfl (kx_tk_dec rfl dV_setting) (hzr.is rV rfl) rfl rfl (Nat.le_of_ble_eq_true rfl) (cV_takeLine0 hst hzr hqf (by omega)) (fun o h' hq => ?_)
  obtain ⟨rfl, ho9, hs9, hz9⟩ := hq
  show kx_w _ _ _ _ _ _ _ _ _ _ _
  have hst9 : ∀ a c, a ≠ Z.ad rV → kx_is G hx a c → kx_is G h' a c := fun a c hne hc => ⟨hc.1, by rw [hs9]; exact hc.2.1, by rw [ho9 a hne]; exact hc.2.2⟩
  have hqf9 := hst9 _ _ (by omega) hqf
  have hpf9 := hst9 _ _ (by omega) hpf
  have hsf9 := hst9 _ _ (by omega) hsf
  have hkf9 := hst9 _ _ (by omega) hkf
  have hfre : ∀ a, h.1 ≤ a → (∀ τ, lvZ ((Z.sS rV 3 0).sS rV 4 (-1)) τ → ((Z.sS rV 3 0).sS rV 4 (-1)).ad τ ≠ a) ∧ ¬ (m ≤ a ∧ a ≤ m + 20) := fun a ha => cz_fr hZ ha
  refine kx_rn dV_setting 1 26 [(0, .ref (Z.ad rV)), (1, .ref h.1)] [.ref (Z.ad rV)] rfl ?_
  refine pV_40 (v := .ref (Z.ad rSta)) rfl (kx_tk_dec rfl dV_setting) (hz9.is rV rfl) rfl ?_
  refine kx_rn dV_setting 1 30 [(0, .ref (Z.ad rV)), (1, .ref h.1)] [.ref h.1, .ref (Z.ad rSta)] rfl ?_
  obtain ⟨c, hc4, hc97, hcc⟩ := pSet_col hrok
  obtain ⟨hgc, hgn⟩ := hg9 hrok
  refine pV_95 (v := .int col9) rfl (kx_tk_dec rfl dV_setting) hqf9 rfl ?_
  rw [hgc, hcc]
  refine kx_rn dV_setting 1 34 [(0, .ref (Z.ad rV)), (1, .ref h.1)] [.ref h.1, .int (nI c), .ref (Z.ad rSta)] rfl ?_
  refine pV_89 (v := .ref (h.1 + 1)) rfl (kx_tk_dec rfl dV_setting) hqf9 rfl ?_
  refine kx_qstO (i := c) rfl rfl (kx_tk_dec rfl dV_setting) (hz9.is rSta rfl) hpf9 (by show c < 4; omega) (by decide) ?_
  have hz10 := cz_nP (Z := ((Z.sS rV 3 0).sS rV 4 (-1))) (i := c + 1) (ρ := rSta) (p := h.1 + 1) (s := h.1 + 1 + 1) (k := h.1 + 1 + 2) (n := nI n9) (F := F9) (K := fun _ => 0) hz9 (by omega) hpf9 hsf9 hkf9 (hfre _ (by omega)) (hfre _ (by omega)) (hfre _ (by omega)) (by omega) (by omega) (by omega) (by rw [if_neg (by omega)]) (plF_nP c)
  refine cw_go hz10 (fun h11 hz11 => ?_)
  refine kx_rn dV_setting 1 39 [(0, .ref (Z.ad rV)), (1, .ref h.1)] [.ref (Z.ad rV)] rfl ?_
  have had : ∀ σ : cR, σ.1 ≠ 7 → σ.1 ≠ 8 → σ.1 ≠ 9 → (((Z.sS rV 3 0).sS rV 4 (-1)).nP (c + 1) (h.1 + 1) (h.1 + 1 + 1) (h.1 + 1 + 2) (nI n9) F9 (fun _ => 0)).ad σ = Z.ad σ := fun σ y1 y2 y3 => ad_nP (fun z => y1 (by rw [z])) (fun z => y2 (by rw [z])) (fun z => y3 (by rw [z]))
  have hsc := cV_settingsThere (d := d + 3) hst hz11
  rw [had rV (by decide) (by decide) (by decide)] at hsc
  refine cV_98 (as := []) (st := []) (mc := 0) (ms := 0) (kc := 0) (ks := 0) rfl (kx_tk_dec rfl dV_setting) ((by have y := hz11.is rV rfl; rw [show (((Z.sS rV 3 0).sS rV 4 (-1)).nP (c + 1) (h.1 + 1) (h.1 + 1 + 1) (h.1 + 1 + 2) (nI n9) F9 (fun _ => 0)).ad rV = Z.ad rV from ad_nP (tag_ne (by decide)) (tag_ne (by decide)) (tag_ne (by decide))] at y; exact y)) rfl rfl (Nat.le_of_ble_eq_true rfl) (hsc) (fun o h' hq => ?_)
  obtain ⟨rfl, hz12⟩ := hq
  show kx_w _ _ _ _ _ _ _ _ _ _ _
  refine kx_ret (ty := .int) (kx_tk_dec rfl dV_setting) rfl rfl ?_
  exact ⟨c, hc4, hc97, rfl, F9, n9, _, _, _, hz12, hgn⟩
set_option maxRecDepth 100000 in
theorem cV_setting1 {ln : Nat} (hst : l.stackTraces = false) (hZ : cOk G m S A h Z) (hlen : Z.sc rV 3 = nI ln) (hl40 : ln ≤ 40) (hrok : (pSet (Z.ia rLin) ln).1 = false) :
    kx_c G l mV_setting (d + 4) 5 95 [.ref (Z.ad rV)] h (fun o h' => ∃ x, o = .threw x ∧ kx_is G h' x (.inr (9, [])) ∧ cOk G m S A h' ((Z.sS rV 3 0).sS rV 4 (nI (pSet (Z.ia rLin) ln).2.1))) := by
  have hG : G.1 ≤ h.1 := by have := hZ.b1; have := hZ.b2; omega
  refine kx_in (by decide +kernel) (Nat.le_of_ble_eq_true rfl) hst ?_
  refine nV_76 (kc := 4) (ks := 90) rfl (kx_tk_dec rfl dV_setting) ?_
  refine kx_rn dV_setting 2 5 [(0, .ref (Z.ad rV))] [.ref (Z.ad rV), .ref h.1, .ref h.1] rfl ?_
  refine pV_22 (v := .ref (Z.ad rLin)) rfl (kx_tk_dec rfl dV_setting) ((cz_new hZ _).is rV rfl) rfl ?_
  refine kx_rn dV_setting 1 9 [(0, .ref (Z.ad rV))] [.ref (Z.ad rV), .ref (Z.ad rLin), .ref h.1, .ref h.1] rfl ?_
  refine pV_26 (v := .int (Z.sc rV 3)) rfl (kx_tk_dec rfl dV_setting) ((cz_new hZ _).is rV rfl) rfl ?_
  rw [hlen]
  refine cV_78 (as := [.ref (Z.ad rLin), .int (nI ln)]) (st := [.ref h.1]) (mc := 3) (ms := 84) (kc := 1) (ks := 6) rfl (kx_tk_dec rfl dV_setting) rfl rfl (Nat.le_of_ble_eq_true rfl) (cQ_init (d := d + 2) (h := kx_new h (.inr (6, [.null, .int 0, .null, .int 0, .int 0]))) (q := h.1) (tx := Z.ad rLin) (ln := ln) hst (cxn_new hG) (by show G.1 ≤ h.1 + 1; omega)) (fun o h' hq => ?_)
  obtain ⟨rfl, g1, g2, g3, g4, g5, g6⟩ := hq
  obtain ⟨hn, hhn⟩ : ∃ hn, hn = h' := ⟨_, rfl⟩
  subst hhn
  show kx_w _ _ _ _ _ _ _ _ _ _ _
  obtain ⟨hqx, hself, hold⟩ := qH_self (h1 := h) (T := Z.ia rLin) hZ hG g1 g2 g3 g4 g5 (hZ.is rLin rfl)
  replace g1 : hn.1 = h.1 + 1 + 3 := g1
  replace g6 : hn.2 (h.1 + 1 + 2) = kIa 40 (fun _ => 0) := g6
  have hzq : cOk G m S A hn Z := cz_ext hZ (by omega) hold
  refine kx_rn dV_setting 4 19 [(0, .ref (Z.ad rV)), (1, .ref h.1)] [.ref h.1, .ref h.1, .ref (Z.ad rV)] rfl ?_
  have hrd := cQ_readSetting (d := d) (k := h.1 + 1 + 2) (T := Z.ia rLin) (F := fun _ => 0) (col := 0) hst hqx hl40
  rw [← hself] at hrd
  refine cV_92 (as := []) (st := [.ref h.1, .ref (Z.ad rV)]) (mc := 0) (ms := 0) (kc := 1) (ks := 6) rfl (kx_tk_dec rfl dV_setting) (⟨hG, by omega, g3⟩) rfl rfl (Nat.le_of_ble_eq_true rfl) (hrd) (fun o h' hq => ?_)
  obtain ⟨F9, n9, col9, rfl, hh9, hn9, hg9⟩ := hq
  subst hh9
  show kx_w _ _ _ _ _ _ _ _ _ _ _
  have hzr : cOk G m S A (qH hn h.1 (h.1 + 1) (h.1 + 1 + 1) (h.1 + 1 + 2) (Z.ad rLin) ln (nI (pSet (Z.ia rLin) ln).2.1) col9 F9 n9) Z := by
    refine cz_ext (h' := qH hn h.1 (h.1 + 1) (h.1 + 1 + 1) (h.1 + 1 + 2) (Z.ad rLin) ln (nI (pSet (Z.ia rLin) ln).2.1) col9 F9 n9) hZ (by show h.1 ≤ hn.1; omega) (fun a ha => ?_)
    rw [qH_o (by omega) (by omega) (by omega)]; exact hold a ha
  have hvl : Z.ad rV < h.1 := (hZ.is rV rfl).2.1
  have hqf : kx_is G (qH hn h.1 (h.1 + 1) (h.1 + 1 + 1) (h.1 + 1 + 2) (Z.ad rLin) ln (nI (pSet (Z.ia rLin) ln).2.1) col9 F9 n9) h.1 (qO (Z.ad rLin) ln (h.1 + 1) (nI (pSet (Z.ia rLin) ln).2.1) col9) := qH_q hqx
  have hpf : kx_is G (qH hn h.1 (h.1 + 1) (h.1 + 1 + 1) (h.1 + 1 + 2) (Z.ad rLin) ln (nI (pSet (Z.ia rLin) ln).2.1) col9 F9 n9) (h.1 + 1) (pO (h.1 + 1 + 1) (h.1 + 1 + 2) (nI n9) 0) := qH_p hqx
  have hsf : kx_is G (qH hn h.1 (h.1 + 1) (h.1 + 1 + 1) (h.1 + 1 + 2) (Z.ad rLin) ln (nI (pSet (Z.ia rLin) ln).2.1) col9 F9 n9) (h.1 + 1 + 1) (kIa 40 F9) := qH_s hqx
  have hkf : kx_is G (qH hn h.1 (h.1 + 1) (h.1 + 1 + 1) (h.1 + 1 + 2) (Z.ad rLin) ln (nI (pSet (Z.ia rLin) ln).2.1) col9 F9 n9) (h.1 + 1 + 2) (kIa 40 (fun _ => 0)) := ⟨by omega, by show h.1 + 1 + 2 < hn.1; omega, by rw [qH_o (by omega) (by omega) (by omega)]; exact g6⟩
  generalize qH hn h.1 (h.1 + 1) (h.1 + 1 + 1) (h.1 + 1 + 2) (Z.ad rLin) ln (nI (pSet (Z.ia rLin) ln).2.1) col9 F9 n9 = hx at hzr hqf hpf hsf hkf ⊢
  rw [hrok]
  refine cV_85 (as := [.ref h.1, .int (b01 false)]) (st := []) (mc := 1) (ms := 6) (kc := 0) (ks := 0) rfl (kx_tk_dec rfl dV_setting) (hzr.is rV rfl) rfl rfl (Nat.le_of_ble_eq_true rfl) (cV_takeLine1 hst hzr hqf (by omega)) (fun o h' hq => ?_)
  obtain ⟨x, rfl, hx2, hz9⟩ := hq
  exact kx_out (fun q hq => by cases hq) ⟨x, rfl, hx2, hz9⟩
end KC43
