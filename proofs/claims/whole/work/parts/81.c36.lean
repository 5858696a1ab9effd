/-! ===== the other side: rows put in ===== -/
section KC36
variable {G : kx_G} {l : Launch} {d : Nat} {h : kx_H} {m : Nat} {S : Nat → Int32} {A : Nat → Nat → Int32} {Z : cZ}
theorem new_set {h : kx_H} (c c' : kx_C) : kx_set (kx_new h c) h.1 c' = kx_new h c' := by simp only [kx_set, kx_new, va_upup]
theorem zW_tab {Z Z' : cZ} {h : kx_H} {k : Nat} (hz : cOk G m S A h Z') (hw : zW Z Z') (hl : lvZ Z (rTab k)) (x : Int32) : cOk G m S A (kx_set h (Z.ad (rTab k)) (.inr (4, [.int (Z.sc (rTab k) 0), .ref (Z.ad (rRws k)), .int x, .int (Z.sc (rTab k) 3)]))) (Z'.sS (rTab k) 2 x) := by
  have := cz_sS (ρ := rTab k) hz ((zW_lv hw (by decide) (by decide)).mpr hl) 2 x (c := .inr (4, [.int (Z.sc (rTab k) 0), .ref (Z.ad (rRws k)), .int x, .int (Z.sc (rTab k) 3)])) (by
    show Sum.inr (4, [Value.int (Z'.sc (rTab k) 0), .ref (Z'.ad (rRws k)), .int x, .int (Z'.sc (rTab k) 3)]) = _
    rw [hw.2.1, hw.1 15 k (by decide) (by decide)])
  rw [hw.1 14 k (by decide) (by decide)] at this
  exact this
set_option maxRecDepth 100000 in
theorem cB_addRow {k md cl tn : Nat} {a b c e : Int32} (hst : l.stackTraces = false) (hZ : cOk G m S A h Z) (hk : k < 3) (ht : Z.tb k = true) (hmd : Z.sc (rTab k) 2 = nI md) (hmd2 : md < 24) (hcl : Z.sc (rTab k) 0 = nI cl) (hcl1 : 1 ≤ cl) (hcl2 : cl ≤ 4) (ht1 : 1 ≤ tn) (ht2 : tn ≤ 40) :
    kx_c G l mB_addRow (d + 2) 3 12 [.ref (Z.ad (rTab k)), .int (nI tn), .int a, .int b, .int c, .int e] h (fun o h' => o = .returned (some (.int (nI md))) ∧ ∃ Z', cOk G m S A h' (Z'.sS (rTab k) 2 (nI (md + 1))) ∧ zW Z Z' ∧ Z'.V = va_up Z.V (40 * (24 * k + md) + (tn - 1)) (vWr (Z.V (40 * (24 * k + md) + (tn - 1))) tn false) ∧ (∀ i, i < 4 → Z'.ia (rVal (40 * (24 * k + md) + (tn - 1))) i = vNew a b c e cl i) ∧ (∀ v, v ≠ 40 * (24 * k + md) + (tn - 1) → Z'.ia (rVal v) = Z.ia (rVal v))) := by
  have hrow : lvZ Z (rByw (24 * k + md)) := ⟨by show 24 * k + md < 72; omega, by show Z.tb ((24 * k + md) / 24) = true; rw [show (24 * k + md) / 24 = k by omega]; exact ht⟩
  refine kx_in (by decide +kernel) (Nat.le_of_ble_eq_true rfl) hst ?_
  have loop : ∀ n (j : Nat) (f2 : Nat → Int32), j + n = 4 → cl ≤ j → (∀ i, f2 i = if cl ≤ i ∧ i < j then 0 else (va_up (va_up (va_up (va_up (fun _ => 0) 0 a) 1 b) 2 c) 3 e) i) → kx_w G l mB_addRow (d + 2) (fun o h' => o = .returned (some (.int (nI md))) ∧ ∃ Z', cOk G m S A h' (Z'.sS (rTab k) 2 (nI (md + 1))) ∧ zW Z Z' ∧ Z'.V = va_up Z.V (40 * (24 * k + md) + (tn - 1)) (vWr (Z.V (40 * (24 * k + md) + (tn - 1))) tn false) ∧ (∀ i, i < 4 → Z'.ia (rVal (40 * (24 * k + md) + (tn - 1))) i = vNew a b c e cl i) ∧ (∀ v, v ≠ 40 * (24 * k + md) + (tn - 1) → Z'.ia (rVal v) = Z.ia (rVal v))) 2 8 29 [(0, .ref (Z.ad (rTab k))), (1, .int (nI tn)), (2, .int a), (3, .int b), (4, .int c), (5, .int e), (6, .ref h.1), (7, .int (nI j))] [] (kx_new h (kIa 4 f2)) := by
    intro n
    induction n with
    | zero =>
      intro j f2 hj hcj hf2
      refine kx_rn dB_addRow 2 32 [(0, .ref (Z.ad (rTab k))), (1, .int (nI tn)), (2, .int a), (3, .int b), (4, .int c), (5, .int e), (6, .ref h.1), (7, .int (nI j))] [.int 4, .int (nI j)] rfl ?_
      refine kx_ic (tgt := 47) (kx_tk_dec rfl dB_addRow) rfl (fun e32 => ?_) (fun e32 => ?_)
      · skip
        replace e32 : 4 ≤ nI j := e32
        replace e32 : 4 ≤ j := (nI_leI (a := 4) (b := j) (by omega) (by omega)).mp e32
        refine kx_rn dB_addRow 1 48 [(0, .ref (Z.ad (rTab k))), (1, .int (nI tn)), (2, .int a), (3, .int b), (4, .int c), (5, .int e), (6, .ref h.1), (7, .int (nI j))] [.ref (Z.ad (rTab k))] rfl ?_
        refine pB_11 (v := .ref (Z.ad (rRws k))) rfl (kx_tk_dec rfl dB_addRow) ((cz_new hZ _).is (rTab k) ⟨hk, ht⟩) rfl ?_
        refine kx_rn dB_addRow 1 52 [(0, .ref (Z.ad (rTab k))), (1, .int (nI tn)), (2, .int a), (3, .int b), (4, .int c), (5, .int e), (6, .ref h.1), (7, .int (nI j))] [.ref (Z.ad (rTab k)), .ref (Z.ad (rRws k))] rfl ?_
        refine pB_17 (v := .int (Z.sc (rTab k) 2)) rfl (kx_tk_dec rfl dB_addRow) ((cz_new hZ _).is (rTab k) ⟨hk, ht⟩) rfl ?_
        rw [hmd]
        refine kx_qldN (x := some (Z.ad (rRow (24 * k + md)))) (i := md) rfl rfl (kx_tk_dec rfl dB_addRow) ((cz_new hZ _).is (rRws k) ⟨hk, ht⟩) (by show md < 24; omega) (by decide) (if_pos (show md < 24 by omega)) ?_
        refine kx_rn dB_addRow 3 60 [(0, .ref (Z.ad (rTab k))), (1, .int (nI tn)), (2, .int a), (3, .int b), (4, .int c), (5, .int e), (6, .ref h.1), (7, .int (nI j))] [.int 0, .ref h.1, .int (nI tn), .ref (Z.ad (rRow (24 * k + md)))] rfl ?_
        refine cB_28 (as := [.int (nI tn), .ref h.1, .int 0]) (st := []) (mc := 2) (ms := 8) (kc := 0) (ks := 0) rfl (kx_tk_dec rfl dB_addRow) ((cz_new hZ _).is (rRow (24 * k + md)) hrow) rfl rfl (Nat.le_of_ble_eq_true rfl) (cR_write (d := d) (gn := false) (fv := f2) hst (cz_new hZ (kIa 4 f2)) hrow ht1 ht2 (cx_new hZ.b1 hZ.b2)) (fun o h' hq => ?_)
        obtain ⟨rfl, Z9, hz9, hw9, hV9, hi9, hj9⟩ := hq
        show kx_w _ _ _ _ _ _ _ _ _ _ _
        refine kx_rn dB_addRow 2 65 [(0, .ref (Z.ad (rTab k))), (1, .int (nI tn)), (2, .int a), (3, .int b), (4, .int c), (5, .int e), (6, .ref h.1), (7, .int (nI j))] [.ref (Z.ad (rTab k)), .ref (Z.ad (rTab k))] rfl ?_
        refine pB_17 (v := .int (Z.sc (rTab k) 2)) rfl (kx_tk_dec rfl dB_addRow) (zW_is hz9 hw9 (a := 14) (b := k) (by decide) (by decide) (by decide) ⟨hk, ht⟩) rfl ?_
        rw [hmd]
        refine kx_rn dB_addRow 2 70 [(0, .ref (Z.ad (rTab k))), (1, .int (nI tn)), (2, .int a), (3, .int b), (4, .int c), (5, .int e), (6, .ref h.1), (7, .int (nI j))] [.int ((nI md) + 1), .ref (Z.ad (rTab k))] rfl ?_
        rw [show (nI md) + 1 = nI (md + 1) from kn_ad rfl rfl]
        refine qB_17 rfl (kx_tk_dec rfl dB_addRow) (zW_is hz9 hw9 (a := 14) (b := k) (by decide) (by decide) (by decide) ⟨hk, ht⟩) rfl rfl (Nat.le_of_ble_eq_true rfl) ?_
        refine kx_rn dB_addRow 1 74 [(0, .ref (Z.ad (rTab k))), (1, .int (nI tn)), (2, .int a), (3, .int b), (4, .int c), (5, .int e), (6, .ref h.1), (7, .int (nI j))] [.ref (Z.ad (rTab k))] rfl ?_
        refine pB_17 (v := .int (nI (md + 1))) rfl (kx_tk_dec rfl dB_addRow) (kx_is_eq (zW_is hz9 hw9 (by decide) (by decide) (by decide) ⟨hk, ht⟩)) rfl ?_
        refine kx_rn dB_addRow 2 79 [(0, .ref (Z.ad (rTab k))), (1, .int (nI tn)), (2, .int a), (3, .int b), (4, .int c), (5, .int e), (6, .ref h.1), (7, .int (nI j))] [.int ((nI (md + 1)) - 1)] rfl ?_
        rw [show (nI (md + 1)) - 1 = nI ((md + 1) - 1) from kn_su rfl rfl (by omega)]
        refine kx_ret (ty := .int) (kx_tk_dec rfl dB_addRow) rfl rfl ?_
        refine ⟨by rw [Nat.add_sub_cancel], Z9, zW_tab hz9 hw9 ⟨hk, ht⟩ (nI (md + 1)), hw9, hV9, fun i hi => ?_, hj9⟩
        rw [hi9 i hi, hf2 i]
        have hcs : i = 0 ∨ i = 1 ∨ i = 2 ∨ i = 3 := by omega
        unfold vNew
        rcases hcs with rfl | rfl | rfl | rfl
        · rw [if_neg (by omega), if_pos rfl]; rfl
        · by_cases y : 1 < cl
          · rw [if_neg (by omega), if_neg (by decide), if_pos rfl, if_pos y]; rfl
          · rw [if_pos (by omega), if_neg (by decide), if_pos rfl, if_neg y]
        · by_cases y : 2 < cl
          · rw [if_neg (by omega), if_neg (by decide), if_neg (by decide), if_pos rfl, if_pos y]; rfl
          · rw [if_pos (by omega), if_neg (by decide), if_neg (by decide), if_pos rfl, if_neg y]
        · by_cases y : 3 < cl
          · rw [if_neg (by omega), if_neg (by decide), if_neg (by decide), if_neg (by decide), if_pos y]; rfl
          · rw [if_pos (by omega), if_neg (by decide), if_neg (by decide), if_neg (by decide), if_neg y]
      · skip
        replace e32 : ¬ 4 ≤ nI j := e32
        replace e32 : ¬ 4 ≤ j := fun z => e32 ((nI_leI (a := 4) (b := j) (by omega) (by omega)).mpr z)
        exfalso; omega
    | succ n ih =>
      intro j f2 hj hcj hf2
      refine kx_rn dB_addRow 2 32 [(0, .ref (Z.ad (rTab k))), (1, .int (nI tn)), (2, .int a), (3, .int b), (4, .int c), (5, .int e), (6, .ref h.1), (7, .int (nI j))] [.int 4, .int (nI j)] rfl ?_
      refine kx_ic (tgt := 47) (kx_tk_dec rfl dB_addRow) rfl (fun e32 => ?_) (fun e32 => ?_)
      · skip
        replace e32 : 4 ≤ nI j := e32
        replace e32 : 4 ≤ j := (nI_leI (a := 4) (b := j) (by omega) (by omega)).mp e32
        exfalso; omega
      · skip
        replace e32 : ¬ 4 ≤ nI j := e32
        replace e32 : ¬ 4 ≤ j := fun z => e32 ((nI_leI (a := 4) (b := j) (by omega) (by omega)).mpr z)
        refine kx_rn dB_addRow 3 40 [(0, .ref (Z.ad (rTab k))), (1, .int (nI tn)), (2, .int a), (3, .int b), (4, .int c), (5, .int e), (6, .ref h.1), (7, .int (nI j))] [.int 0, .int (nI j), .ref h.1] rfl ?_
        refine kx_istN (i := j) (kx_tk_dec rfl dB_addRow) (cx_new hZ.b1 hZ.b2) (by show j < 4; omega) (by decide) ?_
        refine kx_heq (new_set _ _) ?_
        refine kx_rn dB_addRow 2 29 [(0, .ref (Z.ad (rTab k))), (1, .int (nI tn)), (2, .int a), (3, .int b), (4, .int c), (5, .int e), (6, .ref h.1), (7, .int ((nI j) + 1))] [] rfl ?_
        rw [show (nI j) + 1 = nI (j + 1) from kn_ad rfl rfl]
        refine ih (j + 1) _ (by omega) (by omega) (fun i => ?_)
        by_cases z : i = j
        · rw [z, va_up_self, if_pos (by omega)]
        · rw [va_up_ne _ _ z, hf2 i]
          by_cases y : cl ≤ i ∧ i < j
          · rw [if_pos y, if_pos (by omega)]
          · rw [if_neg y, if_neg (by omega)]
  refine kx_rn dB_addRow 1 1 [(0, .ref (Z.ad (rTab k))), (1, .int (nI tn)), (2, .int a), (3, .int b), (4, .int c), (5, .int e)] [.int 4] rfl ?_
  refine kx_nwi (kc := 2) (ks := 8) (N := 4) (by decide) rfl (by decide) (kx_tk_dec rfl dB_addRow) ?_
  refine kx_rn dB_addRow 3 6 [(0, .ref (Z.ad (rTab k))), (1, .int (nI tn)), (2, .int a), (3, .int b), (4, .int c), (5, .int e)] [.int a, .int 0, .ref h.1, .ref h.1] rfl ?_
  refine kx_istN (i := 0) (kx_tk_dec rfl dB_addRow) (cx_new hZ.b1 hZ.b2) (by show 0 < 4; omega) (by decide) ?_
  refine kx_heq (new_set _ _) ?_
  refine kx_rn dB_addRow 3 10 [(0, .ref (Z.ad (rTab k))), (1, .int (nI tn)), (2, .int a), (3, .int b), (4, .int c), (5, .int e)] [.int b, .int 1, .ref h.1, .ref h.1] rfl ?_
  refine kx_istN (i := 1) (kx_tk_dec rfl dB_addRow) (cx_new hZ.b1 hZ.b2) (by show 1 < 4; omega) (by decide) ?_
  refine kx_heq (new_set _ _) ?_
  refine kx_rn dB_addRow 3 15 [(0, .ref (Z.ad (rTab k))), (1, .int (nI tn)), (2, .int a), (3, .int b), (4, .int c), (5, .int e)] [.int c, .int 2, .ref h.1, .ref h.1] rfl ?_
  refine kx_istN (i := 2) (kx_tk_dec rfl dB_addRow) (cx_new hZ.b1 hZ.b2) (by show 2 < 4; omega) (by decide) ?_
  refine kx_heq (new_set _ _) ?_
  refine kx_rn dB_addRow 3 20 [(0, .ref (Z.ad (rTab k))), (1, .int (nI tn)), (2, .int a), (3, .int b), (4, .int c), (5, .int e)] [.int e, .int 3, .ref h.1, .ref h.1] rfl ?_
  refine kx_istN (i := 3) (kx_tk_dec rfl dB_addRow) (cx_new hZ.b1 hZ.b2) (by show 3 < 4; omega) (by decide) ?_
  refine kx_heq (new_set _ _) ?_
  refine kx_rn dB_addRow 2 24 [(0, .ref (Z.ad (rTab k))), (1, .int (nI tn)), (2, .int a), (3, .int b), (4, .int c), (5, .int e), (6, .ref h.1)] [.ref (Z.ad (rTab k))] rfl ?_
  refine pB_24 (v := .int (Z.sc (rTab k) 0)) rfl (kx_tk_dec rfl dB_addRow) ((cz_new hZ _).is (rTab k) ⟨hk, ht⟩) rfl ?_
  rw [hcl]
  refine kx_rn dB_addRow 1 29 [(0, .ref (Z.ad (rTab k))), (1, .int (nI tn)), (2, .int a), (3, .int b), (4, .int c), (5, .int e), (6, .ref h.1), (7, .int (nI cl))] [] rfl ?_
  exact loop (4 - cl) cl _ (by omega) (Nat.le_refl _) (fun i => by rw [if_neg (by omega)])
set_option maxRecDepth 100000 in
theorem cV_insert1 {t kk a b c e : Int32} {bg : Nat} (hst : l.stackTraces = false) (hZ : cOk G m S A h Z) (hbg : Z.sc rTr 1 = nI bg) (hb40 : bg ≤ 40) (hop : ¬ cOp Z bg t) :
    kx_c G l mV_insert (d + 5) 1 6 [.ref (Z.ad rV), .int t, .int kk, .int a, .int b, .int c, .int e] h (fun o h' => ∃ x, o = .threw x ∧ kx_is G h' x (.inr (11, [])) ∧ cOk G m S A h' Z) := by
  refine kx_in (by decide +kernel) (Nat.le_of_ble_eq_true rfl) hst ?_
  refine kx_rn dV_insert 2 2 [(0, .ref (Z.ad rV)), (1, .int t), (2, .int kk), (3, .int a), (4, .int b), (5, .int c), (6, .int e)] [.int t, .ref (Z.ad rV)] rfl ?_
  refine cV_110 (as := [.int t]) (st := []) (mc := 1) (ms := 6) (kc := 0) (ks := 0) rfl (kx_tk_dec rfl dV_insert) (hZ.is rV rfl) rfl rfl (Nat.le_of_ble_eq_true rfl) (cV_mustBeOpen1 (d := d + 3) hst hZ hbg hb40 hop) (fun o h' hq => ?_)
  obtain ⟨x, rfl, hx, hz0⟩ := hq
  exact kx_out (fun q hq => by cases hq) ⟨x, rfl, hx, hz0⟩
set_option maxRecDepth 100000 in
theorem cV_insert2 {tn bg : Nat} {kk a b c e : Int32} (hst : l.stackTraces = false) (hZ : cOk G m S A h Z) (hbg : Z.sc rTr 1 = nI bg) (hb40 : bg ≤ 40) (ht1 : 1 ≤ tn) (ht2 : tn ≤ bg) (hts : Z.st tn = 1) (ht : ¬ cTb Z kk) :
    kx_c G l mV_insert (d + 5) 1 6 [.ref (Z.ad rV), .int (nI tn), .int kk, .int a, .int b, .int c, .int e] h (fun o h' => ∃ x, o = .threw x ∧ kx_is G h' x (.inr (11, [])) ∧ cOk G m S A h' Z) := by
  refine kx_in (by decide +kernel) (Nat.le_of_ble_eq_true rfl) hst ?_
  refine kx_rn dV_insert 2 2 [(0, .ref (Z.ad rV)), (1, .int (nI tn)), (2, .int kk), (3, .int a), (4, .int b), (5, .int c), (6, .int e)] [.int (nI tn), .ref (Z.ad rV)] rfl ?_
  refine cV_110 (as := [.int (nI tn)]) (st := []) (mc := 0) (ms := 0) (kc := 1) (ks := 6) rfl (kx_tk_dec rfl dV_insert) (hZ.is rV rfl) rfl rfl (Nat.le_of_ble_eq_true rfl) (cV_mustBeOpen0 (d := d + 3) hst hZ hbg hb40 ⟨tn, ht1, ht2, rfl, hts⟩) (fun o h' hq => ?_)
  obtain ⟨rfl, hz0⟩ := hq
  show kx_w _ _ _ _ _ _ _ _ _ _ _
  refine kx_rn dV_insert 2 7 [(0, .ref (Z.ad rV)), (1, .int (nI tn)), (2, .int kk), (3, .int a), (4, .int b), (5, .int c), (6, .int e)] [.int kk, .ref (Z.ad rV)] rfl ?_
  refine cV_127 (as := [.int kk]) (st := []) (mc := 1) (ms := 6) (kc := 0) (ks := 0) rfl (kx_tk_dec rfl dV_insert) (hz0.is rV rfl) rfl rfl (Nat.le_of_ble_eq_true rfl) (cV_tableThere1 hst hz0 ht) (fun o h' hq => ?_)
  obtain ⟨x, rfl, hx, hz1⟩ := hq
  exact kx_out (fun q hq => by cases hq) ⟨x, rfl, hx, hz1⟩
set_option maxRecDepth 100000 in
theorem cV_insert3 {tn bg k md : Nat} {a b c e : Int32} (hst : l.stackTraces = false) (hZ : cOk G m S A h Z) (hbg : Z.sc rTr 1 = nI bg) (hb40 : bg ≤ 40) (ht1 : 1 ≤ tn) (ht2 : tn ≤ bg) (hts : Z.st tn = 1) (hk : k < 3) (ht : Z.tb k = true) (hmd : Z.sc (rTab k) 2 = nI md) (hmd2 : md = 24) :
    kx_c G l mV_insert (d + 5) 1 6 [.ref (Z.ad rV), .int (nI tn), .int (nI k), .int a, .int b, .int c, .int e] h (fun o h' => ∃ x, o = .threw x ∧ kx_is G h' x (.inr (10, [])) ∧ cOk G m S A h' Z) := by
  refine kx_in (by decide +kernel) (Nat.le_of_ble_eq_true rfl) hst ?_
  refine kx_rn dV_insert 2 2 [(0, .ref (Z.ad rV)), (1, .int (nI tn)), (2, .int (nI k)), (3, .int a), (4, .int b), (5, .int c), (6, .int e)] [.int (nI tn), .ref (Z.ad rV)] rfl ?_
  refine cV_110 (as := [.int (nI tn)]) (st := []) (mc := 0) (ms := 0) (kc := 1) (ks := 6) rfl (kx_tk_dec rfl dV_insert) (hZ.is rV rfl) rfl rfl (Nat.le_of_ble_eq_true rfl) (cV_mustBeOpen0 (d := d + 3) hst hZ hbg hb40 ⟨tn, ht1, ht2, rfl, hts⟩) (fun o h' hq => ?_)
  obtain ⟨rfl, hz0⟩ := hq
  show kx_w _ _ _ _ _ _ _ _ _ _ _
  refine kx_rn dV_insert 2 7 [(0, .ref (Z.ad rV)), (1, .int (nI tn)), (2, .int (nI k)), (3, .int a), (4, .int b), (5, .int c), (6, .int e)] [.int (nI k), .ref (Z.ad rV)] rfl ?_
  refine cV_127 (as := [.int (nI k)]) (st := []) (mc := 0) (ms := 0) (kc := 1) (ks := 6) rfl (kx_tk_dec rfl dV_insert) (hz0.is rV rfl) rfl rfl (Nat.le_of_ble_eq_true rfl) (cV_tableThere0 hst hz0 hk ht) (fun o h' hq => ?_)
  obtain ⟨rfl, hz1⟩ := hq
  show kx_w _ _ _ _ _ _ _ _ _ _ _
  refine kx_rn dV_insert 2 14 [(0, .ref (Z.ad rV)), (1, .int (nI tn)), (2, .int (nI k)), (3, .int a), (4, .int b), (5, .int c), (6, .int e), (7, .ref (Z.ad (rTab k)))] [.ref (Z.ad (rTab k))] rfl ?_
  refine pV_131 (v := .int (Z.sc (rTab k) 2)) rfl (kx_tk_dec rfl dV_insert) (hz1.is (rTab k) ⟨hk, ht⟩) rfl ?_
  rw [hmd]
  refine kx_rn dV_insert 1 19 [(0, .ref (Z.ad rV)), (1, .int (nI tn)), (2, .int (nI k)), (3, .int a), (4, .int b), (5, .int c), (6, .int e), (7, .ref (Z.ad (rTab k)))] [.int 24, .int (nI md)] rfl ?_
  refine kx_ic (tgt := 32) (kx_tk_dec rfl dV_insert) rfl (fun e19 => ?_) (fun e19 => ?_)
  · skip
    replace e19 : nI md < 24 := e19
    replace e19 : md < 24 := (nI_ltI (a := md) (b := 24) (by omega) (by omega)).mp e19
    exfalso; omega
  · skip
    replace e19 : ¬ nI md < 24 := e19
    replace e19 : ¬ md < 24 := fun z => e19 ((nI_ltI (a := md) (b := 24) (by omega) (by omega)).mpr z)
    refine xV_134 (kc := 0) (ks := 0) rfl dV_insert rfl rfl rfl rfl rfl (fun q hq => by cases hq) (Nat.le_of_ble_eq_true rfl) ?_
    exact ⟨_, rfl, cx_new hz1.b1 hz1.b2, cz_new hz1 _⟩
set_option maxRecDepth 100000 in
theorem cV_insert4 {tn bg k md sc : Nat} {a b c e : Int32} {MD SC CL : Nat → Nat} (hst : l.stackTraces = false) (hZ : cOk G m S A h Z) (hnm : cNm Z MD SC CL) (hrw : cRw Z MD) (hbg : Z.sc rTr 1 = nI bg) (hb40 : bg ≤ 40) (ht1 : 1 ≤ tn) (ht2 : tn ≤ bg) (hts : Z.st tn = 1) (hk : k < 3) (ht : Z.tb k = true) (hmd : Z.sc (rTab k) 2 = nI md) (hmd2 : md < 24) (hsc : Z.sc (rTab k) 3 = nI sc) (hsc2 : sc ≤ 40) (hlt : tn < sc) :
    kx_c G l mV_insert (d + 5) 1 6 [.ref (Z.ad rV), .int (nI tn), .int (nI k), .int a, .int b, .int c, .int e] h (fun o h' => ∃ x, o = .threw x ∧ kx_is G h' x (.inr (12, [])) ∧ ∃ V2, cOk G m S A h' (((Z.sT tn 3).wV V2).sS rTr 2 (Z.sc rTr 2 + 1)) ∧ ∀ v, V2 v = vBrk Z.V tn v) := by
  refine kx_in (by decide +kernel) (Nat.le_of_ble_eq_true rfl) hst ?_
  refine kx_rn dV_insert 2 2 [(0, .ref (Z.ad rV)), (1, .int (nI tn)), (2, .int (nI k)), (3, .int a), (4, .int b), (5, .int c), (6, .int e)] [.int (nI tn), .ref (Z.ad rV)] rfl ?_
  refine cV_110 (as := [.int (nI tn)]) (st := []) (mc := 0) (ms := 0) (kc := 1) (ks := 6) rfl (kx_tk_dec rfl dV_insert) (hZ.is rV rfl) rfl rfl (Nat.le_of_ble_eq_true rfl) (cV_mustBeOpen0 (d := d + 3) hst hZ hbg hb40 ⟨tn, ht1, ht2, rfl, hts⟩) (fun o h' hq => ?_)
  obtain ⟨rfl, hz0⟩ := hq
  show kx_w _ _ _ _ _ _ _ _ _ _ _
  refine kx_rn dV_insert 2 7 [(0, .ref (Z.ad rV)), (1, .int (nI tn)), (2, .int (nI k)), (3, .int a), (4, .int b), (5, .int c), (6, .int e)] [.int (nI k), .ref (Z.ad rV)] rfl ?_
  refine cV_127 (as := [.int (nI k)]) (st := []) (mc := 0) (ms := 0) (kc := 1) (ks := 6) rfl (kx_tk_dec rfl dV_insert) (hz0.is rV rfl) rfl rfl (Nat.le_of_ble_eq_true rfl) (cV_tableThere0 hst hz0 hk ht) (fun o h' hq => ?_)
  obtain ⟨rfl, hz1⟩ := hq
  show kx_w _ _ _ _ _ _ _ _ _ _ _
  refine kx_rn dV_insert 2 14 [(0, .ref (Z.ad rV)), (1, .int (nI tn)), (2, .int (nI k)), (3, .int a), (4, .int b), (5, .int c), (6, .int e), (7, .ref (Z.ad (rTab k)))] [.ref (Z.ad (rTab k))] rfl ?_
  refine pV_131 (v := .int (Z.sc (rTab k) 2)) rfl (kx_tk_dec rfl dV_insert) (hz1.is (rTab k) ⟨hk, ht⟩) rfl ?_
  rw [hmd]
  refine kx_rn dV_insert 1 19 [(0, .ref (Z.ad rV)), (1, .int (nI tn)), (2, .int (nI k)), (3, .int a), (4, .int b), (5, .int c), (6, .int e), (7, .ref (Z.ad (rTab k)))] [.int 24, .int (nI md)] rfl ?_
  refine kx_ic (tgt := 32) (kx_tk_dec rfl dV_insert) rfl (fun e19 => ?_) (fun e19 => ?_)
  · skip
    replace e19 : nI md < 24 := e19
    replace e19 : md < 24 := (nI_ltI (a := md) (b := 24) (by omega) (by omega)).mp e19
    refine kx_rn dV_insert 1 34 [(0, .ref (Z.ad rV)), (1, .int (nI tn)), (2, .int (nI k)), (3, .int a), (4, .int b), (5, .int c), (6, .int e), (7, .ref (Z.ad (rTab k)))] [.ref (Z.ad (rTab k))] rfl ?_
    refine pV_136 (v := .int (Z.sc (rTab k) 3)) rfl (kx_tk_dec rfl dV_insert) (hz1.is (rTab k) ⟨hk, ht⟩) rfl ?_
    rw [hsc]
    refine kx_rn dV_insert 1 38 [(0, .ref (Z.ad rV)), (1, .int (nI tn)), (2, .int (nI k)), (3, .int a), (4, .int b), (5, .int c), (6, .int e), (7, .ref (Z.ad (rTab k)))] [.int (nI tn), .int (nI sc)] rfl ?_
    refine kx_ic (tgt := 56) (kx_tk_dec rfl dV_insert) rfl (fun e38 => ?_) (fun e38 => ?_)
    · skip
      replace e38 : nI sc ≤ nI tn := e38
      replace e38 : sc ≤ tn := (nI_leI (a := sc) (b := tn) (by omega) (by omega)).mp e38
      exfalso; omega
    · skip
      replace e38 : ¬ nI sc ≤ nI tn := e38
      replace e38 : ¬ sc ≤ tn := fun z => e38 ((nI_leI (a := sc) (b := tn) (by omega) (by omega)).mpr z)
      refine kx_rn dV_insert 2 43 [(0, .ref (Z.ad rV)), (1, .int (nI tn)), (2, .int (nI k)), (3, .int a), (4, .int b), (5, .int c), (6, .int e), (7, .ref (Z.ad (rTab k)))] [.int (nI tn), .ref (Z.ad rV)] rfl ?_
      refine cV_139 (as := [.int (nI tn)]) (st := []) (mc := 0) (ms := 0) (kc := 1) (ks := 6) rfl (kx_tk_dec rfl dV_insert) (hz1.is rV rfl) rfl rfl (Nat.le_of_ble_eq_true rfl) (cV_breakTooLate (d := d) hst hz1 hnm hrw hbg hb40 ht1 ht2) (fun o h' hq => ?_)
      obtain ⟨rfl, V2, hz2, hV2⟩ := hq
      show kx_w _ _ _ _ _ _ _ _ _ _ _
      refine xV_144 (kc := 0) (ks := 0) rfl dV_insert rfl rfl rfl rfl rfl (fun q hq => by cases hq) (Nat.le_of_ble_eq_true rfl) ?_
      exact ⟨_, rfl, cx_new hz2.b1 hz2.b2, V2, cz_new hz2 _, hV2⟩
  · skip
    replace e19 : ¬ nI md < 24 := e19
    replace e19 : ¬ md < 24 := fun z => e19 ((nI_ltI (a := md) (b := 24) (by omega) (by omega)).mpr z)
    exfalso; omega
set_option maxRecDepth 100000 in
theorem cV_insert0 {tn bg k md sc cl : Nat} {a b c e : Int32} (hst : l.stackTraces = false) (hZ : cOk G m S A h Z) (hbg : Z.sc rTr 1 = nI bg) (hb40 : bg ≤ 40) (ht1 : 1 ≤ tn) (ht2 : tn ≤ bg) (hts : Z.st tn = 1) (hk : k < 3) (ht : Z.tb k = true) (hmd : Z.sc (rTab k) 2 = nI md) (hmd2 : md < 24) (hsc : Z.sc (rTab k) 3 = nI sc) (hsc2 : sc ≤ 40) (hlt : ¬ tn < sc) (hcl : Z.sc (rTab k) 0 = nI cl) (hcl1 : 1 ≤ cl) (hcl2 : cl ≤ 4) :
    kx_c G l mV_insert (d + 5) 3 12 [.ref (Z.ad rV), .int (nI tn), .int (nI k), .int a, .int b, .int c, .int e] h (fun o h' => o = .returned (some (.int (nI md))) ∧ ∃ Z', cOk G m S A h' (Z'.sS (rTab k) 2 (nI (md + 1))) ∧ zW Z Z' ∧ Z'.V = va_up Z.V (40 * (24 * k + md) + (tn - 1)) (vWr (Z.V (40 * (24 * k + md) + (tn - 1))) tn false) ∧ (∀ i, i < 4 → Z'.ia (rVal (40 * (24 * k + md) + (tn - 1))) i = vNew a b c e cl i) ∧ (∀ v, v ≠ 40 * (24 * k + md) + (tn - 1) → Z'.ia (rVal v) = Z.ia (rVal v))) := by
  refine kx_in (by decide +kernel) (Nat.le_of_ble_eq_true rfl) hst ?_
  refine kx_rn dV_insert 2 2 [(0, .ref (Z.ad rV)), (1, .int (nI tn)), (2, .int (nI k)), (3, .int a), (4, .int b), (5, .int c), (6, .int e)] [.int (nI tn), .ref (Z.ad rV)] rfl ?_
  refine cV_110 (as := [.int (nI tn)]) (st := []) (mc := 0) (ms := 0) (kc := 3) (ks := 12) rfl (kx_tk_dec rfl dV_insert) (hZ.is rV rfl) rfl rfl (Nat.le_of_ble_eq_true rfl) (cV_mustBeOpen0 (d := d + 3) hst hZ hbg hb40 ⟨tn, ht1, ht2, rfl, hts⟩) (fun o h' hq => ?_)
  obtain ⟨rfl, hz0⟩ := hq
  show kx_w _ _ _ _ _ _ _ _ _ _ _
  refine kx_rn dV_insert 2 7 [(0, .ref (Z.ad rV)), (1, .int (nI tn)), (2, .int (nI k)), (3, .int a), (4, .int b), (5, .int c), (6, .int e)] [.int (nI k), .ref (Z.ad rV)] rfl ?_
  refine cV_127 (as := [.int (nI k)]) (st := []) (mc := 0) (ms := 0) (kc := 3) (ks := 12) rfl (kx_tk_dec rfl dV_insert) (hz0.is rV rfl) rfl rfl (Nat.le_of_ble_eq_true rfl) (cV_tableThere0 hst hz0 hk ht) (fun o h' hq => ?_)
  obtain ⟨rfl, hz1⟩ := hq
  show kx_w _ _ _ _ _ _ _ _ _ _ _
  refine kx_rn dV_insert 2 14 [(0, .ref (Z.ad rV)), (1, .int (nI tn)), (2, .int (nI k)), (3, .int a), (4, .int b), (5, .int c), (6, .int e), (7, .ref (Z.ad (rTab k)))] [.ref (Z.ad (rTab k))] rfl ?_
  refine pV_131 (v := .int (Z.sc (rTab k) 2)) rfl (kx_tk_dec rfl dV_insert) (hz1.is (rTab k) ⟨hk, ht⟩) rfl ?_
  rw [hmd]
  refine kx_rn dV_insert 1 19 [(0, .ref (Z.ad rV)), (1, .int (nI tn)), (2, .int (nI k)), (3, .int a), (4, .int b), (5, .int c), (6, .int e), (7, .ref (Z.ad (rTab k)))] [.int 24, .int (nI md)] rfl ?_
  refine kx_ic (tgt := 32) (kx_tk_dec rfl dV_insert) rfl (fun e19 => ?_) (fun e19 => ?_)
  · skip
    replace e19 : nI md < 24 := e19
    replace e19 : md < 24 := (nI_ltI (a := md) (b := 24) (by omega) (by omega)).mp e19
    refine kx_rn dV_insert 1 34 [(0, .ref (Z.ad rV)), (1, .int (nI tn)), (2, .int (nI k)), (3, .int a), (4, .int b), (5, .int c), (6, .int e), (7, .ref (Z.ad (rTab k)))] [.ref (Z.ad (rTab k))] rfl ?_
    refine pV_136 (v := .int (Z.sc (rTab k) 3)) rfl (kx_tk_dec rfl dV_insert) (hz1.is (rTab k) ⟨hk, ht⟩) rfl ?_
    rw [hsc]
    refine kx_rn dV_insert 1 38 [(0, .ref (Z.ad rV)), (1, .int (nI tn)), (2, .int (nI k)), (3, .int a), (4, .int b), (5, .int c), (6, .int e), (7, .ref (Z.ad (rTab k)))] [.int (nI tn), .int (nI sc)] rfl ?_
    refine kx_ic (tgt := 56) (kx_tk_dec rfl dV_insert) rfl (fun e38 => ?_) (fun e38 => ?_)
    · skip
      replace e38 : nI sc ≤ nI tn := e38
      replace e38 : sc ≤ tn := (nI_leI (a := sc) (b := tn) (by omega) (by omega)).mp e38
      refine kx_rn dV_insert 6 66 [(0, .ref (Z.ad rV)), (1, .int (nI tn)), (2, .int (nI k)), (3, .int a), (4, .int b), (5, .int c), (6, .int e), (7, .ref (Z.ad (rTab k)))] [.int e, .int c, .int b, .int a, .int (nI tn), .ref (Z.ad (rTab k))] rfl ?_
      refine cV_147 (as := [.int (nI tn), .int a, .int b, .int c, .int e]) (st := []) (mc := 3) (ms := 12) (kc := 0) (ks := 0) rfl (kx_tk_dec rfl dV_insert) (hz1.is (rTab k) ⟨hk, ht⟩) rfl rfl (Nat.le_of_ble_eq_true rfl) (cB_addRow (d := d + 2) hst hz1 hk ht hmd hmd2 hcl hcl1 hcl2 ht1 (by omega)) (fun o h' hq => ?_)
      obtain ⟨rfl, Z9, hz9⟩ := hq
      show kx_w _ _ _ _ _ _ _ _ _ _ _
      refine kx_ret (ty := .int) (kx_tk_dec rfl dV_insert) rfl rfl ?_
      exact ⟨rfl, Z9, hz9⟩
    · skip
      replace e38 : ¬ nI sc ≤ nI tn := e38
      replace e38 : ¬ sc ≤ tn := fun z => e38 ((nI_leI (a := sc) (b := tn) (by omega) (by omega)).mpr z)
      exfalso; omega
  · skip
    replace e19 : ¬ nI md < 24 := e19
    replace e19 : ¬ md < 24 := fun z => e19 ((nI_ltI (a := md) (b := 24) (by omega) (by omega)).mpr z)
    exfalso; omega
end KC36
