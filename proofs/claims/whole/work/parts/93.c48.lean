/-! ===== the other side: count ===== -/
section KC48
variable {G : kx_G} {l : Launch} {d : Nat} {h : kx_H} {m : Nat} {S : Nat → Int32} {A : Nat → Nat → Int32} {Z : cZ}
set_option maxRecDepth 100000 in
theorem cV_rowsMade {k : Nat} (hst : l.stackTraces = false) (hZ : cOk G m S A h Z) (hk : k < 3) :
    kx_c G l mV_rowsMade d 0 0 [.ref (Z.ad rV), .int (nI k)] h (fun o h' => o = .returned (some (.int (if Z.tb k = true then Z.sc (rTab k) 2 else 0))) ∧ cOk G m S A h' Z) := by
  refine kx_in (by decide +kernel) (Nat.le_of_ble_eq_true rfl) hst ?_
  by_cases ht : Z.tb k = true
  · skip
    refine kx_rn dV_rowsMade 1 1 [(0, .ref (Z.ad rV)), (1, .int (nI k))] [.ref (Z.ad rV)] rfl ?_
    refine pV_11 (v := .ref (Z.ad rTbs)) rfl (kx_tk_dec rfl dV_rowsMade) (hZ.is rV rfl) rfl ?_
    refine kx_rn dV_rowsMade 1 5 [(0, .ref (Z.ad rV)), (1, .int (nI k))] [.int (nI k), .ref (Z.ad rTbs)] rfl ?_
    refine kx_qldN (x := some (Z.ad (rTab k))) (i := k) rfl rfl (kx_tk_dec rfl dV_rowsMade) (hZ.is rTbs rfl) (by show k < 3; omega) (by decide) (if_pos ht) ?_
    refine kx_rn dV_rowsMade 2 8 [(0, .ref (Z.ad rV)), (1, .int (nI k)), (2, .ref (Z.ad (rTab k)))] [.ref (Z.ad (rTab k))] rfl ?_
    refine kx_nnl (x := some (Z.ad (rTab k))) (tgt := 15) (kx_tk_dec rfl dV_rowsMade) rfl (fun a8 e8 => ?_) (fun e8 => ?_)
    · skip
      refine kx_rn dV_rowsMade 1 16 [(0, .ref (Z.ad rV)), (1, .int (nI k)), (2, .ref (Z.ad (rTab k)))] [.ref (Z.ad (rTab k))] rfl ?_
      refine pV_131 (v := .int (Z.sc (rTab k) 2)) rfl (kx_tk_dec rfl dV_rowsMade) (hZ.is (rTab k) ⟨hk, ht⟩) rfl ?_
      refine kx_ret (ty := .int) (kx_tk_dec rfl dV_rowsMade) rfl rfl ?_
      rw [if_pos ht]; exact ⟨rfl, hZ⟩
    · skip
      cases e8
  · skip
    refine kx_rn dV_rowsMade 1 1 [(0, .ref (Z.ad rV)), (1, .int (nI k))] [.ref (Z.ad rV)] rfl ?_
    refine pV_11 (v := .ref (Z.ad rTbs)) rfl (kx_tk_dec rfl dV_rowsMade) (hZ.is rV rfl) rfl ?_
    refine kx_rn dV_rowsMade 1 5 [(0, .ref (Z.ad rV)), (1, .int (nI k))] [.int (nI k), .ref (Z.ad rTbs)] rfl ?_
    refine kx_qldN (x := none) (i := k) rfl rfl (kx_tk_dec rfl dV_rowsMade) (hZ.is rTbs rfl) (by show k < 3; omega) (by decide) (if_neg ht) ?_
    refine kx_rn dV_rowsMade 2 8 [(0, .ref (Z.ad rV)), (1, .int (nI k)), (2, .null)] [.null] rfl ?_
    refine kx_nnl (x := none) (tgt := 15) (kx_tk_dec rfl dV_rowsMade) rfl (fun a8 e8 => ?_) (fun e8 => ?_)
    · skip
      cases e8
    · skip
      refine kx_rn dV_rowsMade 2 19 [(0, .ref (Z.ad rV)), (1, .int (nI k)), (2, .null)] [.int 0] rfl ?_
      refine kx_ret (ty := .int) (kx_tk_dec rfl dV_rowsMade) rfl rfl ?_
      rw [if_neg ht]; exact ⟨rfl, hZ⟩
set_option maxRecDepth 100000 in
theorem cV_count0 {bg : Nat} {MD SC CL : Nat → Nat} (hst : l.stackTraces = false) (hZ : cOk G m S A h Z) (hnm : cNm Z MD SC CL) (hrw : cRw Z MD) (hbg : Z.sc rTr 1 = nI bg) (hb40 : bg ≤ 40) :
    kx_c G l mV_count (d + 4) 0 0 [.ref (Z.ad rV), .int 0] h (fun o h' => o = .returned (some (.int (Z.sc rTr 1))) ∧ cOk G m S A h' Z) := by
  refine kx_in (by decide +kernel) (Nat.le_of_ble_eq_true rfl) hst ?_
  refine kx_rn dV_count 1 1 [(0, .ref (Z.ad rV)), (1, .int 0)] [.int 0] rfl ?_
  refine kx_tin (off := 59) (tgt := 60) (kx_tk_dec rfl dV_count) (by decide) (by decide) rfl rfl ?_
  refine kx_rn dV_count 1 61 [(0, .ref (Z.ad rV)), (1, .int 0)] [.ref (Z.ad rV)] rfl ?_
  refine pV_18 (v := .ref (Z.ad rTr)) rfl (kx_tk_dec rfl dV_count) (hZ.is rV rfl) rfl ?_
  refine pV_102 (v := .int (Z.sc rTr 1)) rfl (kx_tk_dec rfl dV_count) (hZ.is rTr rfl) rfl ?_
  refine kx_ret (ty := .int) (kx_tk_dec rfl dV_count) rfl rfl ?_
  exact ⟨rfl, hZ⟩
set_option maxRecDepth 100000 in
theorem cV_count1 {bg : Nat} {MD SC CL : Nat → Nat} (hst : l.stackTraces = false) (hZ : cOk G m S A h Z) (hnm : cNm Z MD SC CL) (hrw : cRw Z MD) (hbg : Z.sc rTr 1 = nI bg) (hb40 : bg ≤ 40) :
    kx_c G l mV_count (d + 4) 0 0 [.ref (Z.ad rV), .int 1] h (fun o h' => o = .returned (some (.int (nI (cnt (fun j => decide (Z.st (j + 1) = 0 + 1)) bg)))) ∧ cOk G m S A h' Z) := by
  refine kx_in (by decide +kernel) (Nat.le_of_ble_eq_true rfl) hst ?_
  refine kx_rn dV_count 1 1 [(0, .ref (Z.ad rV)), (1, .int 1)] [.int 1] rfl ?_
  refine kx_tin (off := 67) (tgt := 68) (kx_tk_dec rfl dV_count) (by decide) (by decide) rfl rfl ?_
  refine kx_rn dV_count 1 69 [(0, .ref (Z.ad rV)), (1, .int 1)] [.ref (Z.ad rV)] rfl ?_
  refine pV_18 (v := .ref (Z.ad rTr)) rfl (kx_tk_dec rfl dV_count) (hZ.is rV rfl) rfl ?_
  refine pV_215 rfl (kx_tk_dec rfl dV_count) ?_
  have htr : kx_is G h (Z.ad rTr) (.inr (1, [.ref (Z.ad rSts), .int (nI bg), .int (Z.sc rTr 2)])) := by rw [← hbg]; exact hZ.is rTr rfl
  refine cV_218 (as := [.ref (G.2.2.2.1 0)]) (st := []) (mc := 0) (ms := 0) (kc := 0) (ks := 0) rfl (kx_tk_dec rfl dV_count) (hZ.is rTr rfl) rfl rfl (Nat.le_of_ble_eq_true rfl) (cT_howMany (k := 0) (S6 := Z.st) hst htr (hZ.is rSts rfl) hZ.wf.stc hb40 (by decide)) (fun o h' hq => ?_)
  obtain ⟨rfl, hhe⟩ := hq
  subst h'
  show kx_w _ _ _ _ _ _ _ _ _ _ _
  refine kx_ret (ty := .int) (kx_tk_dec rfl dV_count) rfl rfl ?_
  exact ⟨rfl, hZ⟩
set_option maxRecDepth 100000 in
theorem cV_count2 {bg : Nat} {MD SC CL : Nat → Nat} (hst : l.stackTraces = false) (hZ : cOk G m S A h Z) (hnm : cNm Z MD SC CL) (hrw : cRw Z MD) (hbg : Z.sc rTr 1 = nI bg) (hb40 : bg ≤ 40) :
    kx_c G l mV_count (d + 4) 0 0 [.ref (Z.ad rV), .int 2] h (fun o h' => o = .returned (some (.int (nI (cnt (fun j => decide (Z.st (j + 1) = 1 + 1)) bg)))) ∧ cOk G m S A h' Z) := by
  refine kx_in (by decide +kernel) (Nat.le_of_ble_eq_true rfl) hst ?_
  refine kx_rn dV_count 1 1 [(0, .ref (Z.ad rV)), (1, .int 2)] [.int 2] rfl ?_
  refine kx_tin (off := 78) (tgt := 79) (kx_tk_dec rfl dV_count) (by decide) (by decide) rfl rfl ?_
  refine kx_rn dV_count 1 80 [(0, .ref (Z.ad rV)), (1, .int 2)] [.ref (Z.ad rV)] rfl ?_
  refine pV_18 (v := .ref (Z.ad rTr)) rfl (kx_tk_dec rfl dV_count) (hZ.is rV rfl) rfl ?_
  refine pV_113 rfl (kx_tk_dec rfl dV_count) ?_
  have htr : kx_is G h (Z.ad rTr) (.inr (1, [.ref (Z.ad rSts), .int (nI bg), .int (Z.sc rTr 2)])) := by rw [← hbg]; exact hZ.is rTr rfl
  refine cV_218 (as := [.ref (G.2.2.2.1 1)]) (st := []) (mc := 0) (ms := 0) (kc := 0) (ks := 0) rfl (kx_tk_dec rfl dV_count) (hZ.is rTr rfl) rfl rfl (Nat.le_of_ble_eq_true rfl) (cT_howMany (k := 1) (S6 := Z.st) hst htr (hZ.is rSts rfl) hZ.wf.stc hb40 (by decide)) (fun o h' hq => ?_)
  obtain ⟨rfl, hhe⟩ := hq
  subst h'
  show kx_w _ _ _ _ _ _ _ _ _ _ _
  refine kx_ret (ty := .int) (kx_tk_dec rfl dV_count) rfl rfl ?_
  exact ⟨rfl, hZ⟩
set_option maxRecDepth 100000 in
theorem cV_count3 {bg : Nat} {MD SC CL : Nat → Nat} (hst : l.stackTraces = false) (hZ : cOk G m S A h Z) (hnm : cNm Z MD SC CL) (hrw : cRw Z MD) (hbg : Z.sc rTr 1 = nI bg) (hb40 : bg ≤ 40) :
    kx_c G l mV_count (d + 4) 0 0 [.ref (Z.ad rV), .int 3] h (fun o h' => o = .returned (some (.int (Z.sc (rRs Z.fi) 2))) ∧ cOk G m S A h' Z) := by
  refine kx_in (by decide +kernel) (Nat.le_of_ble_eq_true rfl) hst ?_
  refine kx_rn dV_count 1 1 [(0, .ref (Z.ad rV)), (1, .int 3)] [.int 3] rfl ?_
  refine kx_tin (off := 89) (tgt := 90) (kx_tk_dec rfl dV_count) (by decide) (by decide) rfl rfl ?_
  refine kx_rn dV_count 1 91 [(0, .ref (Z.ad rV)), (1, .int 3)] [.ref (Z.ad rV)] rfl ?_
  refine pV_47 (v := .ref (Z.ad (rRs Z.fi))) rfl (kx_tk_dec rfl dV_count) (hZ.is rV rfl) rfl ?_
  refine pV_158 (v := .int (Z.sc (rRs Z.fi) 2)) rfl (kx_tk_dec rfl dV_count) (hZ.is (rRs Z.fi) hZ.wf.fi) rfl ?_
  refine kx_ret (ty := .int) (kx_tk_dec rfl dV_count) rfl rfl ?_
  exact ⟨rfl, hZ⟩
set_option maxRecDepth 100000 in
theorem cV_count4 {bg : Nat} {MD SC CL : Nat → Nat} (hst : l.stackTraces = false) (hZ : cOk G m S A h Z) (hnm : cNm Z MD SC CL) (hrw : cRw Z MD) (hbg : Z.sc rTr 1 = nI bg) (hb40 : bg ≤ 40) :
    kx_c G l mV_count (d + 4) 0 0 [.ref (Z.ad rV), .int 4] h (fun o h' => o = .returned (some (.int (Z.sc rV 3))) ∧ cOk G m S A h' Z) := by
  refine kx_in (by decide +kernel) (Nat.le_of_ble_eq_true rfl) hst ?_
  refine kx_rn dV_count 1 1 [(0, .ref (Z.ad rV)), (1, .int 4)] [.int 4] rfl ?_
  refine kx_tin (off := 97) (tgt := 98) (kx_tk_dec rfl dV_count) (by decide) (by decide) rfl rfl ?_
  refine kx_rn dV_count 1 99 [(0, .ref (Z.ad rV)), (1, .int 4)] [.ref (Z.ad rV)] rfl ?_
  refine pV_26 (v := .int (Z.sc rV 3)) rfl (kx_tk_dec rfl dV_count) (hZ.is rV rfl) rfl ?_
  refine kx_ret (ty := .int) (kx_tk_dec rfl dV_count) rfl rfl ?_
  exact ⟨rfl, hZ⟩
set_option maxRecDepth 100000 in
theorem cV_count5 {bg : Nat} {MD SC CL : Nat → Nat} (hst : l.stackTraces = false) (hZ : cOk G m S A h Z) (hnm : cNm Z MD SC CL) (hrw : cRw Z MD) (hbg : Z.sc rTr 1 = nI bg) (hb40 : bg ≤ 40) :
    kx_c G l mV_count (d + 4) 0 0 [.ref (Z.ad rV), .int 5] h (fun o h' => o = .returned (some (.int (nI (cnt (fun c => Z.pl (c + 1)) 4)))) ∧ cOk G m S A h' Z) := by
  refine kx_in (by decide +kernel) (Nat.le_of_ble_eq_true rfl) hst ?_
  refine kx_rn dV_count 1 1 [(0, .ref (Z.ad rV)), (1, .int 5)] [.int 5] rfl ?_
  refine kx_tin (off := 102) (tgt := 103) (kx_tk_dec rfl dV_count) (by decide) (by decide) rfl rfl ?_
  refine kx_rn dV_count 1 104 [(0, .ref (Z.ad rV)), (1, .int 5)] [.ref (Z.ad rV)] rfl ?_
  refine cV_98 (as := []) (st := []) (mc := 0) (ms := 0) (kc := 0) (ks := 0) rfl (kx_tk_dec rfl dV_count) (hZ.is rV rfl) rfl rfl (Nat.le_of_ble_eq_true rfl) (cV_settingsThere (d := d + 3) hst hZ) (fun o h' hq => ?_)
  obtain ⟨rfl, hz1⟩ := hq
  show kx_w _ _ _ _ _ _ _ _ _ _ _
  refine kx_ret (ty := .int) (kx_tk_dec rfl dV_count) rfl rfl ?_
  exact ⟨rfl, hz1⟩
set_option maxRecDepth 100000 in
theorem cV_count6 {bg : Nat} {MD SC CL : Nat → Nat} (hst : l.stackTraces = false) (hZ : cOk G m S A h Z) (hnm : cNm Z MD SC CL) (hrw : cRw Z MD) (hbg : Z.sc rTr 1 = nI bg) (hb40 : bg ≤ 40) :
    kx_c G l mV_count (d + 4) 0 0 [.ref (Z.ad rV), .int 6] h (fun o h' => o = .returned (some (.int (nI (nsum (fun q => cnt (fun i => decide (¬ Z.V (40 * q + i) = 0)) 40) 72)))) ∧ cOk G m S A h' Z) := by
  refine kx_in (by decide +kernel) (Nat.le_of_ble_eq_true rfl) hst ?_
  refine kx_rn dV_count 1 1 [(0, .ref (Z.ad rV)), (1, .int 6)] [.int 6] rfl ?_
  refine kx_tin (off := 107) (tgt := 108) (kx_tk_dec rfl dV_count) (by decide) (by decide) rfl rfl ?_
  refine kx_rn dV_count 1 109 [(0, .ref (Z.ad rV)), (1, .int 6)] [.ref (Z.ad rV)] rfl ?_
  refine cV_222 (as := []) (st := []) (mc := 0) (ms := 0) (kc := 0) (ks := 0) rfl (kx_tk_dec rfl dV_count) (hZ.is rV rfl) rfl rfl (Nat.le_of_ble_eq_true rfl) (cV_allVersions (d := d) hst hZ hnm hrw) (fun o h' hq => ?_)
  obtain ⟨rfl, hz1⟩ := hq
  show kx_w _ _ _ _ _ _ _ _ _ _ _
  refine kx_ret (ty := .int) (kx_tk_dec rfl dV_count) rfl rfl ?_
  exact ⟨rfl, hz1⟩
set_option maxRecDepth 100000 in
theorem cV_count7 {bg : Nat} {MD SC CL : Nat → Nat} (hst : l.stackTraces = false) (hZ : cOk G m S A h Z) (hnm : cNm Z MD SC CL) (hrw : cRw Z MD) (hbg : Z.sc rTr 1 = nI bg) (hb40 : bg ≤ 40) :
    kx_c G l mV_count (d + 4) 0 0 [.ref (Z.ad rV), .int 7] h (fun o h' => o = .returned (some (.int (Z.sc rTr 2))) ∧ cOk G m S A h' Z) := by
  refine kx_in (by decide +kernel) (Nat.le_of_ble_eq_true rfl) hst ?_
  refine kx_rn dV_count 1 1 [(0, .ref (Z.ad rV)), (1, .int 7)] [.int 7] rfl ?_
  refine kx_tin (off := 112) (tgt := 113) (kx_tk_dec rfl dV_count) (by decide) (by decide) rfl rfl ?_
  refine kx_rn dV_count 1 114 [(0, .ref (Z.ad rV)), (1, .int 7)] [.ref (Z.ad rV)] rfl ?_
  refine pV_18 (v := .ref (Z.ad rTr)) rfl (kx_tk_dec rfl dV_count) (hZ.is rV rfl) rfl ?_
  refine pV_225 (v := .int (Z.sc rTr 2)) rfl (kx_tk_dec rfl dV_count) (hZ.is rTr rfl) rfl ?_
  refine kx_ret (ty := .int) (kx_tk_dec rfl dV_count) rfl rfl ?_
  exact ⟨rfl, hZ⟩
set_option maxRecDepth 100000 in
theorem cV_count8 {bg : Nat} {MD SC CL : Nat → Nat} (hst : l.stackTraces = false) (hZ : cOk G m S A h Z) (hnm : cNm Z MD SC CL) (hrw : cRw Z MD) (hbg : Z.sc rTr 1 = nI bg) (hb40 : bg ≤ 40) :
    kx_c G l mV_count (d + 4) 0 0 [.ref (Z.ad rV), .int 8] h (fun o h' => o = .returned (some (.int (if Z.tb 0 = true then Z.sc (rTab 0) 2 else 0))) ∧ cOk G m S A h' Z) := by
  refine kx_in (by decide +kernel) (Nat.le_of_ble_eq_true rfl) hst ?_
  refine kx_rn dV_count 1 1 [(0, .ref (Z.ad rV)), (1, .int 8)] [.int 8] rfl ?_
  refine kx_tin (off := 120) (tgt := 121) (kx_tk_dec rfl dV_count) (by decide) (by decide) rfl rfl ?_
  refine kx_rn dV_count 4 126 [(0, .ref (Z.ad rV)), (1, .int 8)] [.int 0, .ref (Z.ad rV)] rfl ?_
  refine cV_228 (as := [.int 0]) (st := []) (mc := 0) (ms := 0) (kc := 0) (ks := 0) rfl (kx_tk_dec rfl dV_count) (hZ.is rV rfl) rfl rfl (Nat.le_of_ble_eq_true rfl) (cV_rowsMade (d := d + 3) hst hZ (by decide)) (fun o h' hq => ?_)
  obtain ⟨rfl, hz1⟩ := hq
  show kx_w _ _ _ _ _ _ _ _ _ _ _
  refine kx_ret (ty := .int) (kx_tk_dec rfl dV_count) rfl rfl ?_
  exact ⟨rfl, hz1⟩
set_option maxRecDepth 100000 in
theorem cV_count9 {bg : Nat} {MD SC CL : Nat → Nat} (hst : l.stackTraces = false) (hZ : cOk G m S A h Z) (hnm : cNm Z MD SC CL) (hrw : cRw Z MD) (hbg : Z.sc rTr 1 = nI bg) (hb40 : bg ≤ 40) :
    kx_c G l mV_count (d + 4) 0 0 [.ref (Z.ad rV), .int 9] h (fun o h' => o = .returned (some (.int (if Z.tb 1 = true then Z.sc (rTab 1) 2 else 0))) ∧ cOk G m S A h' Z) := by
  refine kx_in (by decide +kernel) (Nat.le_of_ble_eq_true rfl) hst ?_
  refine kx_rn dV_count 1 1 [(0, .ref (Z.ad rV)), (1, .int 9)] [.int 9] rfl ?_
  refine kx_tin (off := 120) (tgt := 121) (kx_tk_dec rfl dV_count) (by decide) (by decide) rfl rfl ?_
  refine kx_rn dV_count 4 126 [(0, .ref (Z.ad rV)), (1, .int 9)] [.int 1, .ref (Z.ad rV)] rfl ?_
  refine cV_228 (as := [.int 1]) (st := []) (mc := 0) (ms := 0) (kc := 0) (ks := 0) rfl (kx_tk_dec rfl dV_count) (hZ.is rV rfl) rfl rfl (Nat.le_of_ble_eq_true rfl) (cV_rowsMade (d := d + 3) hst hZ (by decide)) (fun o h' hq => ?_)
  obtain ⟨rfl, hz1⟩ := hq
  show kx_w _ _ _ _ _ _ _ _ _ _ _
  refine kx_ret (ty := .int) (kx_tk_dec rfl dV_count) rfl rfl ?_
  exact ⟨rfl, hz1⟩
set_option maxRecDepth 100000 in
theorem cV_count10 {bg : Nat} {MD SC CL : Nat → Nat} (hst : l.stackTraces = false) (hZ : cOk G m S A h Z) (hnm : cNm Z MD SC CL) (hrw : cRw Z MD) (hbg : Z.sc rTr 1 = nI bg) (hb40 : bg ≤ 40) :
    kx_c G l mV_count (d + 4) 0 0 [.ref (Z.ad rV), .int 10] h (fun o h' => o = .returned (some (.int (if Z.tb 2 = true then Z.sc (rTab 2) 2 else 0))) ∧ cOk G m S A h' Z) := by
  refine kx_in (by decide +kernel) (Nat.le_of_ble_eq_true rfl) hst ?_
  refine kx_rn dV_count 1 1 [(0, .ref (Z.ad rV)), (1, .int 10)] [.int 10] rfl ?_
  refine kx_tin (off := 120) (tgt := 121) (kx_tk_dec rfl dV_count) (by decide) (by decide) rfl rfl ?_
  refine kx_rn dV_count 4 126 [(0, .ref (Z.ad rV)), (1, .int 10)] [.int 2, .ref (Z.ad rV)] rfl ?_
  refine cV_228 (as := [.int 2]) (st := []) (mc := 0) (ms := 0) (kc := 0) (ks := 0) rfl (kx_tk_dec rfl dV_count) (hZ.is rV rfl) rfl rfl (Nat.le_of_ble_eq_true rfl) (cV_rowsMade (d := d + 3) hst hZ (by decide)) (fun o h' hq => ?_)
  obtain ⟨rfl, hz1⟩ := hq
  show kx_w _ _ _ _ _ _ _ _ _ _ _
  refine kx_ret (ty := .int) (kx_tk_dec rfl dV_count) rfl rfl ?_
  exact ⟨rfl, hz1⟩
set_option maxRecDepth 100000 in
theorem cV_countX {x : Int32} (hst : l.stackTraces = false) (hZ : cOk G m S A h Z) (hx : x.toInt < 0 ∨ 10 < x.toInt) :
    kx_c G l mV_count (d + 4) 0 0 [.ref (Z.ad rV), .int x] h (fun o h' => o = .returned (some (.int (-1))) ∧ cOk G m S A h' Z) := by
  refine kx_in (by decide +kernel) (Nat.le_of_ble_eq_true rfl) hst ?_
  refine kx_rn dV_count 1 1 [(0, .ref (Z.ad rV)), (1, .int x)] [.int x] rfl ?_
  refine kx_tout (tgt := 130) (kx_tk_dec rfl dV_count) hx rfl ?_
  refine kx_rn dV_count 1 131 [(0, .ref (Z.ad rV)), (1, .int x)] [.int ((-1))] rfl ?_
  refine kx_ret (ty := .int) (kx_tk_dec rfl dV_count) rfl rfl ?_
  exact ⟨rfl, hZ⟩
end KC48
