/-! ===== the other side: select, delete ===== -/
section KC38
variable {G : kx_G} {l : Launch} {d : Nat} {h : kx_H} {m : Nat} {S : Nat → Int32} {A : Nat → Nat → Int32} {Z : cZ}
theorem selL_inj {p : Nat → Bool} : ∀ {n i j r : Nat}, (selL p n)[i]? = some r → (selL p n)[j]? = some r → i = j
  | 0, i, j, r, h, _ => by simp [selL] at h
  | n + 1, i, j, r, h1, h2 => by
    simp only [selL] at h1 h2
    by_cases e : p n = true
    · rw [if_pos e] at h1 h2
      by_cases e1 : i < (selL p n).length
      · rw [List.getElem?_append_left e1] at h1
        by_cases e2 : j < (selL p n).length
        · rw [List.getElem?_append_left e2] at h2; exact selL_inj h1 h2
        · rw [List.getElem?_append_right (by omega)] at h2
          have y := List.mem_of_getElem? h2
          rw [List.mem_singleton] at y
          have := (selL_lt h1).1
          omega
      · rw [List.getElem?_append_right (by omega)] at h1
        have y := List.mem_of_getElem? h1
        rw [List.mem_singleton] at y
        have l1 := (List.getElem?_eq_some_iff.mp h1).1
        simp only [List.length_cons, List.length_nil] at l1
        by_cases e2 : j < (selL p n).length
        · rw [List.getElem?_append_left e2] at h2
          have := (selL_lt h2).1
          omega
        · rw [List.getElem?_append_right (by omega)] at h2
          have l2 := (List.getElem?_eq_some_iff.mp h2).1
          simp only [List.length_cons, List.length_nil] at l2
          omega
    · rw [if_neg e] at h1 h2; exact selL_inj h1 h2
theorem selL_has {p : Nat → Bool} : ∀ {n r : Nat}, r < n → p r = true → ∃ i : Nat, (selL p n)[i]? = some r
  | 0, r, h, _ => by omega
  | n + 1, r, h, hp => by
    simp only [selL]
    by_cases e : r = n
    · rw [← e, if_pos hp]
      exact ⟨(selL p r).length, by rw [List.getElem?_append_right (Nat.le_refl _), Nat.sub_self]; rfl⟩
    · obtain ⟨i, hi⟩ := selL_has (n := n) (by omega) hp
      by_cases e2 : p n = true
      · rw [if_pos e2]
        exact ⟨i, by rw [List.getElem?_append_left (List.getElem?_eq_some_iff.mp hi).1]; exact hi⟩
      · rw [if_neg e2]; exact ⟨i, hi⟩
set_option maxRecDepth 100000 in
theorem cV_select1 {t kk : Int32} {bg : Nat} (hst : l.stackTraces = false) (hZ : cOk G m S A h Z) (hbg : Z.sc rTr 1 = nI bg) (hb40 : bg ≤ 40) (hop : ¬ cOp Z bg t) :
    kx_c G l mV_select (d + 6) 1 6 [.ref (Z.ad rV), .int t, .int kk] h (fun o h' => ∃ x, o = .threw x ∧ kx_is G h' x (.inr (11, [])) ∧ cOk G m S A h' Z) := by
  refine kx_in (by decide +kernel) (Nat.le_of_ble_eq_true rfl) hst ?_
  refine kx_rn dV_select 2 2 [(0, .ref (Z.ad rV)), (1, .int t), (2, .int kk)] [.int t, .ref (Z.ad rV)] rfl ?_
  refine cV_110 (as := [.int t]) (st := []) (mc := 1) (ms := 6) (kc := 0) (ks := 0) rfl (kx_tk_dec rfl dV_select) (hZ.is rV rfl) rfl rfl (Nat.le_of_ble_eq_true rfl) (cV_mustBeOpen1 (d := d + 4) hst hZ hbg hb40 hop) (fun o h' hq => ?_)
  obtain ⟨x, rfl, hx, hz0⟩ := hq
  exact kx_out (fun q hq => by cases hq) ⟨x, rfl, hx, hz0⟩
set_option maxRecDepth 100000 in
theorem cV_select2 {tn bg : Nat} {kk : Int32} (hst : l.stackTraces = false) (hZ : cOk G m S A h Z) (hbg : Z.sc rTr 1 = nI bg) (hb40 : bg ≤ 40) (ht1 : 1 ≤ tn) (ht2 : tn ≤ bg) (hts : Z.st tn = 1) (ht : ¬ cTb Z kk) :
    kx_c G l mV_select (d + 6) 1 6 [.ref (Z.ad rV), .int (nI tn), .int kk] h (fun o h' => ∃ x, o = .threw x ∧ kx_is G h' x (.inr (11, [])) ∧ cOk G m S A h' Z) := by
  refine kx_in (by decide +kernel) (Nat.le_of_ble_eq_true rfl) hst ?_
  refine kx_rn dV_select 2 2 [(0, .ref (Z.ad rV)), (1, .int (nI tn)), (2, .int kk)] [.int (nI tn), .ref (Z.ad rV)] rfl ?_
  refine cV_110 (as := [.int (nI tn)]) (st := []) (mc := 0) (ms := 0) (kc := 1) (ks := 6) rfl (kx_tk_dec rfl dV_select) (hZ.is rV rfl) rfl rfl (Nat.le_of_ble_eq_true rfl) (cV_mustBeOpen0 (d := d + 4) hst hZ hbg hb40 ⟨tn, ht1, ht2, rfl, hts⟩) (fun o h' hq => ?_)
  obtain ⟨rfl, hz0⟩ := hq
  show kx_w _ _ _ _ _ _ _ _ _ _ _
  refine kx_rn dV_select 2 7 [(0, .ref (Z.ad rV)), (1, .int (nI tn)), (2, .int kk)] [.int kk, .ref (Z.ad rV)] rfl ?_
  refine cV_127 (as := [.int kk]) (st := []) (mc := 1) (ms := 6) (kc := 0) (ks := 0) rfl (kx_tk_dec rfl dV_select) (hz0.is rV rfl) rfl rfl (Nat.le_of_ble_eq_true rfl) (cV_tableThere1 hst hz0 ht) (fun o h' hq => ?_)
  obtain ⟨x, rfl, hx, hz1⟩ := hq
  exact kx_out (fun q hq => by cases hq) ⟨x, rfl, hx, hz1⟩
set_option maxRecDepth 100000 in
theorem cV_select3 {k md bg tn r0 : Nat} {es : List Int32} (hst : l.stackTraces = false) (hZ : cOk G m S A h Z) (hk : k < 3) (ht : Z.tb k = true) (hmd : Z.sc (rTab k) 2 = nI md) (hmd2 : md ≤ 24) (hbg : Z.sc rTr 1 = nI bg) (hb40 : bg ≤ 40) (ht1 : 1 ≤ tn) (ht2 : tn ≤ bg) (hts : Z.st tn = 1) (hpn : Z.sc (rPrg 0) 2 = nI es.length) (hok : okC es) (hF : prg (Z.ia (rStp 0)) es) (hr0 : r0 < md) (hall : ∀ r, r < r0 → vdC Z es tn (24 * k + r) ≤ 1) (hbad : vdC Z es tn (24 * k + r0) = 2) :
    kx_c G l mV_select (d + 6) 1 6 [.ref (Z.ad rV), .int (nI tn), .int (nI k)] h (fun o h' => ∃ x, o = .threw x ∧ kx_is G h' x (.inr (10, [])) ∧ ∃ sc2 ia2, cOk G m S A h' (Z.wA sc2 ia2) ∧ cFr Z sc2 ia2) := by
  refine kx_in (by decide +kernel) (Nat.le_of_ble_eq_true rfl) hst ?_
  refine kx_rn dV_select 2 2 [(0, .ref (Z.ad rV)), (1, .int (nI tn)), (2, .int (nI k))] [.int (nI tn), .ref (Z.ad rV)] rfl ?_
  refine cV_110 (as := [.int (nI tn)]) (st := []) (mc := 0) (ms := 0) (kc := 1) (ks := 6) rfl (kx_tk_dec rfl dV_select) (hZ.is rV rfl) rfl rfl (Nat.le_of_ble_eq_true rfl) (cV_mustBeOpen0 (d := d + 4) hst hZ hbg hb40 ⟨tn, ht1, ht2, rfl, hts⟩) (fun o h' hq => ?_)
  obtain ⟨rfl, hz0⟩ := hq
  show kx_w _ _ _ _ _ _ _ _ _ _ _
  refine kx_rn dV_select 2 7 [(0, .ref (Z.ad rV)), (1, .int (nI tn)), (2, .int (nI k))] [.int (nI k), .ref (Z.ad rV)] rfl ?_
  refine cV_127 (as := [.int (nI k)]) (st := []) (mc := 0) (ms := 0) (kc := 1) (ks := 6) rfl (kx_tk_dec rfl dV_select) (hz0.is rV rfl) rfl rfl (Nat.le_of_ble_eq_true rfl) (cV_tableThere0 hst hz0 hk ht) (fun o h' hq => ?_)
  obtain ⟨rfl, hz1⟩ := hq
  show kx_w _ _ _ _ _ _ _ _ _ _ _
  refine kx_rn dV_select 4 14 [(0, .ref (Z.ad rV)), (1, .int (nI tn)), (2, .int (nI k)), (3, .ref (Z.ad (rTab k)))] [.ref (Z.ad (rTab k)), .int (nI tn), .ref (Z.ad rV)] rfl ?_
  refine cV_151 (as := [.int (nI tn), .ref (Z.ad (rTab k))]) (st := []) (mc := 1) (ms := 6) (kc := 0) (ks := 0) rfl (kx_tk_dec rfl dV_select) (hz1.is rV rfl) rfl rfl (Nat.le_of_ble_eq_true rfl) (cV_choose1 (d := d) hst hz1 hk ht hmd hmd2 hbg hb40 ht1 ht2 hpn hok hF hr0 hall hbad) (fun o h' hq => ?_)
  obtain ⟨x, rfl, hx, hz2⟩ := hq
  exact kx_out (fun q hq => by cases hq) ⟨x, rfl, hx, hz2⟩
set_option maxRecDepth 100000 in
theorem cV_select4 {k md bg tn r0 : Nat} {es : List Int32} (hst : l.stackTraces = false) (hZ : cOk G m S A h Z) (hk : k < 3) (ht : Z.tb k = true) (hmd : Z.sc (rTab k) 2 = nI md) (hmd2 : md ≤ 24) (hbg : Z.sc rTr 1 = nI bg) (hb40 : bg ≤ 40) (ht1 : 1 ≤ tn) (ht2 : tn ≤ bg) (hts : Z.st tn = 1) (hpn : Z.sc (rPrg 0) 2 = nI es.length) (hok : okC es) (hF : prg (Z.ia (rStp 0)) es) (hr0 : r0 < md) (hall : ∀ r, r < r0 → vdC Z es tn (24 * k + r) ≤ 1) (hbad : vdC Z es tn (24 * k + r0) = 3) :
    kx_c G l mV_select (d + 6) 1 6 [.ref (Z.ad rV), .int (nI tn), .int (nI k)] h (fun o h' => ∃ x, o = .threw x ∧ kx_is G h' x (.inr (13, [])) ∧ ∃ sc2 ia2, cOk G m S A h' (Z.wA sc2 ia2) ∧ cFr Z sc2 ia2) := by
  refine kx_in (by decide +kernel) (Nat.le_of_ble_eq_true rfl) hst ?_
  refine kx_rn dV_select 2 2 [(0, .ref (Z.ad rV)), (1, .int (nI tn)), (2, .int (nI k))] [.int (nI tn), .ref (Z.ad rV)] rfl ?_
  refine cV_110 (as := [.int (nI tn)]) (st := []) (mc := 0) (ms := 0) (kc := 1) (ks := 6) rfl (kx_tk_dec rfl dV_select) (hZ.is rV rfl) rfl rfl (Nat.le_of_ble_eq_true rfl) (cV_mustBeOpen0 (d := d + 4) hst hZ hbg hb40 ⟨tn, ht1, ht2, rfl, hts⟩) (fun o h' hq => ?_)
  obtain ⟨rfl, hz0⟩ := hq
  show kx_w _ _ _ _ _ _ _ _ _ _ _
  refine kx_rn dV_select 2 7 [(0, .ref (Z.ad rV)), (1, .int (nI tn)), (2, .int (nI k))] [.int (nI k), .ref (Z.ad rV)] rfl ?_
  refine cV_127 (as := [.int (nI k)]) (st := []) (mc := 0) (ms := 0) (kc := 1) (ks := 6) rfl (kx_tk_dec rfl dV_select) (hz0.is rV rfl) rfl rfl (Nat.le_of_ble_eq_true rfl) (cV_tableThere0 hst hz0 hk ht) (fun o h' hq => ?_)
  obtain ⟨rfl, hz1⟩ := hq
  show kx_w _ _ _ _ _ _ _ _ _ _ _
  refine kx_rn dV_select 4 14 [(0, .ref (Z.ad rV)), (1, .int (nI tn)), (2, .int (nI k)), (3, .ref (Z.ad (rTab k)))] [.ref (Z.ad (rTab k)), .int (nI tn), .ref (Z.ad rV)] rfl ?_
  refine cV_151 (as := [.int (nI tn), .ref (Z.ad (rTab k))]) (st := []) (mc := 1) (ms := 6) (kc := 0) (ks := 0) rfl (kx_tk_dec rfl dV_select) (hz1.is rV rfl) rfl rfl (Nat.le_of_ble_eq_true rfl) (cV_choose2 (d := d) hst hz1 hk ht hmd hmd2 hbg hb40 ht1 ht2 hpn hok hF hr0 hall hbad) (fun o h' hq => ?_)
  obtain ⟨x, rfl, hx, hz2⟩ := hq
  exact kx_out (fun q hq => by cases hq) ⟨x, rfl, hx, hz2⟩
set_option maxRecDepth 100000 in
theorem cV_select0 {k md bg tn sc : Nat} {es : List Int32} (hst : l.stackTraces = false) (hZ : cOk G m S A h Z) (hk : k < 3) (ht : Z.tb k = true) (hmd : Z.sc (rTab k) 2 = nI md) (hmd2 : md ≤ 24) (hbg : Z.sc rTr 1 = nI bg) (hb40 : bg ≤ 40) (ht1 : 1 ≤ tn) (ht2 : tn ≤ bg) (hts : Z.st tn = 1) (hpn : Z.sc (rPrg 0) 2 = nI es.length) (hok : okC es) (hF : prg (Z.ia (rStp 0)) es) (hsc : Z.sc (rTab k) 3 = nI sc) (hsc2 : sc ≤ 40) (hall : ∀ r, r < md → vdC Z es tn (24 * k + r) ≤ 1) :
    kx_c G l mV_select (d + 6) 0 0 [.ref (Z.ad rV), .int (nI tn), .int (nI k)] h (fun o h' => o = .returned (some (.int (nI (selL (cMt Z es tn k) md).length))) ∧ ∃ sc2 ia2 V2, cOk G m S A h' ((((Z.wA sc2 ia2).sS (rTab k) 3 (nI (max sc tn))).wV V2).sF) ∧ cFr Z sc2 ia2 ∧ chs Z sc2 ia2 (selL (cMt Z es tn k) md) (cVl Z tn k) ∧ ∀ v, V2 v = if 24 * k ≤ v / 40 ∧ v / 40 < 24 * k + md ∧ v % 40 + 1 = hwq Z.V tn (v / 40) ∧ Z.V v / 4 < tn then Z.V v % 4 + 4 * tn else Z.V v) := by
  refine kx_in (by decide +kernel) (Nat.le_of_ble_eq_true rfl) hst ?_
  refine kx_rn dV_select 2 2 [(0, .ref (Z.ad rV)), (1, .int (nI tn)), (2, .int (nI k))] [.int (nI tn), .ref (Z.ad rV)] rfl ?_
  refine cV_110 (as := [.int (nI tn)]) (st := []) (mc := 0) (ms := 0) (kc := 0) (ks := 0) rfl (kx_tk_dec rfl dV_select) (hZ.is rV rfl) rfl rfl (Nat.le_of_ble_eq_true rfl) (cV_mustBeOpen0 (d := d + 4) hst hZ hbg hb40 ⟨tn, ht1, ht2, rfl, hts⟩) (fun o h' hq => ?_)
  obtain ⟨rfl, hz0⟩ := hq
  show kx_w _ _ _ _ _ _ _ _ _ _ _
  refine kx_rn dV_select 2 7 [(0, .ref (Z.ad rV)), (1, .int (nI tn)), (2, .int (nI k))] [.int (nI k), .ref (Z.ad rV)] rfl ?_
  refine cV_127 (as := [.int (nI k)]) (st := []) (mc := 0) (ms := 0) (kc := 0) (ks := 0) rfl (kx_tk_dec rfl dV_select) (hz0.is rV rfl) rfl rfl (Nat.le_of_ble_eq_true rfl) (cV_tableThere0 hst hz0 hk ht) (fun o h' hq => ?_)
  obtain ⟨rfl, hz1⟩ := hq
  show kx_w _ _ _ _ _ _ _ _ _ _ _
  refine kx_rn dV_select 4 14 [(0, .ref (Z.ad rV)), (1, .int (nI tn)), (2, .int (nI k)), (3, .ref (Z.ad (rTab k)))] [.ref (Z.ad (rTab k)), .int (nI tn), .ref (Z.ad rV)] rfl ?_
  refine cV_151 (as := [.int (nI tn), .ref (Z.ad (rTab k))]) (st := []) (mc := 0) (ms := 0) (kc := 0) (ks := 0) rfl (kx_tk_dec rfl dV_select) (hz1.is rV rfl) rfl rfl (Nat.le_of_ble_eq_true rfl) (cV_choose0 (d := d) hst hz1 hk ht hmd hmd2 hbg hb40 ht1 ht2 hpn hok hF hall) (fun o h' hq => ?_)
  obtain ⟨rfl, sc2, ia2, hz2, hfr, hch⟩ := hq
  show kx_w _ _ _ _ _ _ _ _ _ _ _
  have hm2 : sc2 (rTab k) 2 = nI md := by rw [hfr.1 (rTab k) (tag_ne (by decide)) (tag_ne (by decide))]; exact hmd
  have hs2 : sc2 (rTab k) 3 = nI sc := by rw [hfr.1 (rTab k) (tag_ne (by decide)) (tag_ne (by decide))]; exact hsc
  refine kx_rn dV_select 2 19 [(0, .ref (Z.ad rV)), (1, .int (nI tn)), (2, .int (nI k)), (3, .ref (Z.ad (rTab k)))] [.int (nI tn), .ref (Z.ad (rTab k))] rfl ?_
  refine cV_155 (as := [.int (nI tn)]) (st := []) (mc := 0) (ms := 0) (kc := 0) (ks := 0) rfl (kx_tk_dec rfl dV_select) (hz2.is (rTab k) ⟨hk, ht⟩) rfl rfl (Nat.le_of_ble_eq_true rfl) (cB_markRead (d := d + 4) (Z := Z.wA sc2 ia2) hst hz2 hk ht hm2 hmd2 hs2 hsc2 ht1 (by omega)) (fun o h' hq => ?_)
  obtain ⟨rfl, V2, hz3, hV2⟩ := hq
  show kx_w _ _ _ _ _ _ _ _ _ _ _
  have hch1 : sc2 (rRs (1 - Z.fi)) 2 = nI (selL (cMt Z es tn k) md).length := hch.1
  refine kx_rn dV_select 1 23 [(0, .ref (Z.ad rV)), (1, .int (nI tn)), (2, .int (nI k)), (3, .ref (Z.ad (rTab k)))] [.ref (Z.ad rV)] rfl ?_
  refine pV_47 (v := .ref (Z.ad (rRs Z.fi))) rfl (kx_tk_dec rfl dV_select) (hz3.is rV rfl) rfl ?_
  refine kx_rn dV_select 3 30 [(0, .ref (Z.ad rV)), (1, .int (nI tn)), (2, .int (nI k)), (3, .ref (Z.ad (rTab k))), (4, .ref (Z.ad (rRs Z.fi)))] [.ref (Z.ad rV), .ref (Z.ad rV)] rfl ?_
  refine pV_51 (v := .ref (Z.ad (rRs (1 - Z.fi)))) rfl (kx_tk_dec rfl dV_select) (hz3.is rV rfl) rfl ?_
  refine qV_47 rfl (kx_tk_dec rfl dV_select) (hz3.is rV rfl) rfl rfl (Nat.le_of_ble_eq_true rfl) ?_
  refine kx_rn dV_select 2 39 [(0, .ref (Z.ad rV)), (1, .int (nI tn)), (2, .int (nI k)), (3, .ref (Z.ad (rTab k))), (4, .ref (Z.ad (rRs Z.fi)))] [.ref (Z.ad (rRs Z.fi)), .ref (Z.ad rV)] rfl ?_
  refine qV_51 rfl (kx_tk_dec rfl dV_select) (kx_is_eq (hz3.is rV rfl)) rfl rfl (Nat.le_of_ble_eq_true rfl) ?_
  refine kx_heq (kx_set_set _ _) ?_
  have hff : 1 - (1 - Z.fi) = Z.fi := by have := hZ.wf.fi; omega
  refine cw_go (cz_sF hz3 (by
    show Sum.inr (0, [Value.ref (Z.ad rTbs), .ref (Z.ad rTr), .ref (Z.ad rLin), .int (((Z.wA sc2 ia2).sS (rTab k) 3 (nI (max sc tn))).sc rV 3), .int (((Z.wA sc2 ia2).sS (rTab k) 3 (nI (max sc tn))).sc rV 4), .ref (Z.ad (rPrg 0)), .ref (Z.ad rSta), .ref (Z.ad (rRs (1 - Z.fi))), .ref (Z.ad (rRs (1 - (1 - Z.fi)))), .ref (Z.ad rOld)]) = _
    rw [hff]; rfl)) (fun h4 hz4 => ?_)
  have hv4 : kx_is G h4 (Z.ad rV) (.inr (0, [Value.ref (Z.ad rTbs), .ref (Z.ad rTr), .ref (Z.ad rLin), .int (((Z.wA sc2 ia2).sS (rTab k) 3 (nI (max sc tn))).sc rV 3), .int (((Z.wA sc2 ia2).sS (rTab k) 3 (nI (max sc tn))).sc rV 4), .ref (Z.ad (rPrg 0)), .ref (Z.ad rSta), .ref (Z.ad (rRs (1 - Z.fi))), .ref (Z.ad (rRs Z.fi)), .ref (Z.ad rOld)])) := by
    have y : kx_is G h4 (Z.ad rV) (.inr (0, [Value.ref (Z.ad rTbs), .ref (Z.ad rTr), .ref (Z.ad rLin), .int (((Z.wA sc2 ia2).sS (rTab k) 3 (nI (max sc tn))).sc rV 3), .int (((Z.wA sc2 ia2).sS (rTab k) 3 (nI (max sc tn))).sc rV 4), .ref (Z.ad (rPrg 0)), .ref (Z.ad rSta), .ref (Z.ad (rRs (1 - Z.fi))), .ref (Z.ad (rRs (1 - (1 - Z.fi)))), .ref (Z.ad rOld)])) := hz4.is rV rfl
    rw [hff] at y
    exact y
  refine kx_rn dV_select 1 43 [(0, .ref (Z.ad rV)), (1, .int (nI tn)), (2, .int (nI k)), (3, .ref (Z.ad (rTab k))), (4, .ref (Z.ad (rRs Z.fi)))] [.ref (Z.ad rV)] rfl ?_
  refine pV_47 (v := .ref (Z.ad (rRs (1 - Z.fi)))) rfl (kx_tk_dec rfl dV_select) hv4 rfl ?_
  refine pV_158 (v := .int (sc2 (rRs (1 - Z.fi)) 2)) rfl (kx_tk_dec rfl dV_select) (hz4.is (rRs (1 - Z.fi)) (show 1 - Z.fi < 2 by omega)) rfl ?_
  rw [hch1]
  refine kx_ret (ty := .int) (kx_tk_dec rfl dV_select) rfl rfl ?_
  exact ⟨rfl, sc2, ia2, V2, hz4, hfr, hch, hV2⟩
set_option maxRecDepth 100000 in
theorem cV_isTooLate {k md tn : Nat} {L : List Nat} (hst : l.stackTraces = false) (hZ : cOk G m S A h Z) (hk : k < 3) (ht : Z.tb k = true) (hmd2 : md ≤ 24) (ht4 : tn ≤ 40) (hfi : 1 - Z.fi < 2) (hln : Z.sc (rRs (1 - Z.fi)) 2 = nI L.length) (hl24 : L.length ≤ 24) (hnum : ∀ i r : Nat, L[i]? = some r → Z.ia (rNum (1 - Z.fi)) i = nI r ∧ r < md) :
    kx_c G l mV_isTooLate (d + 1) 0 0 [.ref (Z.ad rV), .int (nI tn), .ref (Z.ad (rTab k))] h (fun o h' => ∃ b : Bool, o = .returned (some (.int (b01 b))) ∧ h' = h ∧ (b = true ↔ ∃ (i r : Nat), L[i]? = some r ∧ ¬ hwq Z.V tn (24 * k + r) = 0 ∧ tn < Z.V (40 * (24 * k + r) + (hwq Z.V tn (24 * k + r) - 1)) / 4)) := by
  refine kx_in (by decide +kernel) (Nat.le_of_ble_eq_true rfl) hst ?_
  have loop : ∀ n (i : Nat), i + n = L.length → (∀ j r : Nat, j < i → L[j]? = some r → ¬ hwq Z.V tn (24 * k + r) = 0 → ¬ tn < Z.V (40 * (24 * k + r) + (hwq Z.V tn (24 * k + r) - 1)) / 4) → kx_w G l mV_isTooLate (d + 1) (fun o h' => ∃ b : Bool, o = .returned (some (.int (b01 b))) ∧ h' = h ∧ (b = true ↔ ∃ (i r : Nat), L[i]? = some r ∧ ¬ hwq Z.V tn (24 * k + r) = 0 ∧ tn < Z.V (40 * (24 * k + r) + (hwq Z.V tn (24 * k + r) - 1)) / 4)) 0 0 2 [(0, .ref (Z.ad rV)), (1, .int (nI tn)), (2, .ref (Z.ad (rTab k))), (3, .int (nI i))] [] h := by
    intro n
    induction n with
    | zero =>
      intro i hi hlo
      refine kx_rn dV_isTooLate 2 4 [(0, .ref (Z.ad rV)), (1, .int (nI tn)), (2, .ref (Z.ad (rTab k))), (3, .int (nI i))] [.ref (Z.ad rV), .int (nI i)] rfl ?_
      refine pV_51 (v := .ref (Z.ad (rRs (1 - Z.fi)))) rfl (kx_tk_dec rfl dV_isTooLate) (hZ.is rV rfl) rfl ?_
      refine pV_158 (v := .int (Z.sc (rRs (1 - Z.fi)) 2)) rfl (kx_tk_dec rfl dV_isTooLate) (hZ.is (rRs (1 - Z.fi)) hfi) rfl ?_
      rw [hln]
      refine kx_ic (tgt := 55) (kx_tk_dec rfl dV_isTooLate) rfl (fun e10 => ?_) (fun e10 => ?_)
      · skip
        replace e10 : nI L.length ≤ nI i := e10
        replace e10 : L.length ≤ i := (nI_leI (a := L.length) (b := i) (by omega) (by omega)).mp e10
        refine kx_rn dV_isTooLate 1 56 [(0, .ref (Z.ad rV)), (1, .int (nI tn)), (2, .ref (Z.ad (rTab k))), (3, .int (nI i))] [.int 0] rfl ?_
        refine kx_ret (ty := .boolean) (kx_tk_dec rfl dV_isTooLate) rfl rfl ?_
        exact ⟨false, rfl, rfl, (fun z => by cases z), fun ⟨j, r2, y1, y2, y3⟩ => by have := (List.getElem?_eq_some_iff.mp y1).1; exact absurd y3 (hlo j r2 (by omega) y1 y2)⟩
      · skip
        replace e10 : ¬ nI L.length ≤ nI i := e10
        replace e10 : ¬ L.length ≤ i := fun z => e10 ((nI_leI (a := L.length) (b := i) (by omega) (by omega)).mpr z)
        exfalso; omega
    | succ n ih =>
      intro i hi hlo
      have hi24 : i < L.length := by omega
      obtain ⟨r, hr⟩ : ∃ r, L[i]? = some r := ⟨L[i], List.getElem?_eq_getElem hi24⟩
      obtain ⟨hnr, hrm⟩ := hnum i r hr
      have hrow : lvZ Z (rByw (24 * k + r)) := ⟨by show 24 * k + r < 72; omega, by show Z.tb ((24 * k + r) / 24) = true; rw [show (24 * k + r) / 24 = k by omega]; exact ht⟩
      refine kx_rn dV_isTooLate 2 4 [(0, .ref (Z.ad rV)), (1, .int (nI tn)), (2, .ref (Z.ad (rTab k))), (3, .int (nI i))] [.ref (Z.ad rV), .int (nI i)] rfl ?_
      refine pV_51 (v := .ref (Z.ad (rRs (1 - Z.fi)))) rfl (kx_tk_dec rfl dV_isTooLate) (hZ.is rV rfl) rfl ?_
      refine pV_158 (v := .int (Z.sc (rRs (1 - Z.fi)) 2)) rfl (kx_tk_dec rfl dV_isTooLate) (hZ.is (rRs (1 - Z.fi)) hfi) rfl ?_
      rw [hln]
      refine kx_ic (tgt := 55) (kx_tk_dec rfl dV_isTooLate) rfl (fun e10 => ?_) (fun e10 => ?_)
      · skip
        replace e10 : nI L.length ≤ nI i := e10
        replace e10 : L.length ≤ i := (nI_leI (a := L.length) (b := i) (by omega) (by omega)).mp e10
        exfalso; omega
      · skip
        replace e10 : ¬ nI L.length ≤ nI i := e10
        replace e10 : ¬ L.length ≤ i := fun z => e10 ((nI_leI (a := L.length) (b := i) (by omega) (by omega)).mpr z)
        refine kx_rn dV_isTooLate 1 14 [(0, .ref (Z.ad rV)), (1, .int (nI tn)), (2, .ref (Z.ad (rTab k))), (3, .int (nI i))] [.ref (Z.ad (rTab k))] rfl ?_
        refine pV_207 (v := .ref (Z.ad (rRws k))) rfl (kx_tk_dec rfl dV_isTooLate) (hZ.is (rTab k) ⟨hk, ht⟩) rfl ?_
        refine kx_rn dV_isTooLate 1 18 [(0, .ref (Z.ad rV)), (1, .int (nI tn)), (2, .ref (Z.ad (rTab k))), (3, .int (nI i))] [.ref (Z.ad rV), .ref (Z.ad (rRws k))] rfl ?_
        refine pV_51 (v := .ref (Z.ad (rRs (1 - Z.fi)))) rfl (kx_tk_dec rfl dV_isTooLate) (hZ.is rV rfl) rfl ?_
        refine pV_179 (v := .ref (Z.ad (rNum (1 - Z.fi)))) rfl (kx_tk_dec rfl dV_isTooLate) (hZ.is (rRs (1 - Z.fi)) hfi) rfl ?_
        refine kx_rn dV_isTooLate 1 25 [(0, .ref (Z.ad rV)), (1, .int (nI tn)), (2, .ref (Z.ad (rTab k))), (3, .int (nI i))] [.int (nI i), .ref (Z.ad (rNum (1 - Z.fi))), .ref (Z.ad (rRws k))] rfl ?_
        refine kx_ildN (x := (Z.ia (rNum (1 - Z.fi))) i) (i := i) (kx_tk_dec rfl dV_isTooLate) (hZ.is (rNum (1 - Z.fi)) hfi) (by show i < 24; omega) (by decide) rfl ?_
        rw [hnr]
        refine kx_qldN (x := some (Z.ad (rRow (24 * k + r)))) (i := r) rfl rfl (kx_tk_dec rfl dV_isTooLate) (hZ.is (rRws k) ⟨hk, ht⟩) (by show r < 24; omega) (by decide) (if_pos (show r < 24 by omega)) ?_
        refine kx_rn dV_isTooLate 1 28 [(0, .ref (Z.ad rV)), (1, .int (nI tn)), (2, .ref (Z.ad (rTab k))), (3, .int (nI i))] [.int (nI tn), .ref (Z.ad (rRow (24 * k + r)))] rfl ?_
        refine cV_251 (as := [.int (nI tn)]) (st := []) (mc := 0) (ms := 0) (kc := 0) (ks := 0) rfl (kx_tk_dec rfl dV_isTooLate) (hZ.is (rRow (24 * k + r)) hrow) rfl rfl (Nat.le_of_ble_eq_true rfl) (cR_hold hst hZ hrow (by omega)) (fun o h' hq => ?_)
        obtain ⟨rfl, hhe⟩ := hq
        subst h'
        by_cases hh : hwq Z.V tn (24 * k + r) = 0
        · rw [if_pos hh]
          show kx_w _ _ _ _ _ _ _ _ _ _ _
          refine kx_rn dV_isTooLate 2 35 [(0, .ref (Z.ad rV)), (1, .int (nI tn)), (2, .ref (Z.ad (rTab k))), (3, .int (nI i)), (4, .null)] [.null] rfl ?_
          refine kx_nul (x := none) (tgt := 49) (kx_tk_dec rfl dV_isTooLate) rfl (fun e35 => ?_) (fun a35 e35 => ?_)
          · skip
            refine kx_rn dV_isTooLate 2 2 [(0, .ref (Z.ad rV)), (1, .int (nI tn)), (2, .ref (Z.ad (rTab k))), (3, .int ((nI i) + 1)), (4, .null)] [] rfl ?_
            rw [show (nI i) + 1 = nI (i + 1) from kn_ad rfl rfl]
            refine kx_lsub (lv' := [(0, .ref (Z.ad rV)), (1, .int (nI tn)), (2, .ref (Z.ad (rTab k))), (3, .int (nI (i + 1)))]) (.cons₂ _ (.cons₂ _ (.cons₂ _ (.cons₂ _ (.cons _ .slnil))))) ?_
            refine ih (i + 1) (by omega) (fun j r2 hj hr2 hh2 => ?_)
            by_cases z : j = i
            · rw [z, hr] at hr2
              injection hr2 with hr2
              rw [← hr2] at hh2 ⊢
              exact absurd hh hh2
            · exact hlo j r2 (by omega) hr2 hh2
          · skip
            cases e35
        · rw [if_neg hh]
          show kx_w _ _ _ _ _ _ _ _ _ _ _
          obtain ⟨hv0, hv1⟩ := hwq_v hh
          obtain ⟨v, hv⟩ : ∃ v, v = 40 * (24 * k + r) + (hwq Z.V tn (24 * k + r) - 1) := ⟨_, rfl⟩
          rw [← hv] at hv0 ⊢
          have hvlow : Z.V v < 256 := hZ.wf.low v
          refine kx_rn dV_isTooLate 2 35 [(0, .ref (Z.ad rV)), (1, .int (nI tn)), (2, .ref (Z.ad (rTab k))), (3, .int (nI i)), (4, .ref (Z.ad (rVer v)))] [.ref (Z.ad (rVer v))] rfl ?_
          refine kx_nul (x := some (Z.ad (rVer v))) (tgt := 49) (kx_tk_dec rfl dV_isTooLate) rfl (fun e35 => ?_) (fun a35 e35 => ?_)
          · skip
            cases e35
          · skip
            refine kx_rn dV_isTooLate 1 40 [(0, .ref (Z.ad rV)), (1, .int (nI tn)), (2, .ref (Z.ad (rTab k))), (3, .int (nI i)), (4, .ref (Z.ad (rVer v)))] [.ref (Z.ad (rVer v))] rfl ?_
            refine pV_293 (v := .int (nI (Z.V v / 4))) rfl (kx_tk_dec rfl dV_isTooLate) (hZ.is (rVer v) hv0) rfl ?_
            refine kx_rn dV_isTooLate 1 44 [(0, .ref (Z.ad rV)), (1, .int (nI tn)), (2, .ref (Z.ad (rTab k))), (3, .int (nI i)), (4, .ref (Z.ad (rVer v)))] [.int (nI tn), .int (nI (Z.V v / 4))] rfl ?_
            refine kx_ic (tgt := 49) (kx_tk_dec rfl dV_isTooLate) rfl (fun e44 => ?_) (fun e44 => ?_)
            · skip
              replace e44 : nI (Z.V v / 4) ≤ nI tn := e44
              replace e44 : Z.V v / 4 ≤ tn := (nI_leI (a := Z.V v / 4) (b := tn) (by omega) (by omega)).mp e44
              refine kx_rn dV_isTooLate 2 2 [(0, .ref (Z.ad rV)), (1, .int (nI tn)), (2, .ref (Z.ad (rTab k))), (3, .int ((nI i) + 1)), (4, .ref (Z.ad (rVer v)))] [] rfl ?_
              rw [show (nI i) + 1 = nI (i + 1) from kn_ad rfl rfl]
              refine kx_lsub (lv' := [(0, .ref (Z.ad rV)), (1, .int (nI tn)), (2, .ref (Z.ad (rTab k))), (3, .int (nI (i + 1)))]) (.cons₂ _ (.cons₂ _ (.cons₂ _ (.cons₂ _ (.cons _ .slnil))))) ?_
              refine ih (i + 1) (by omega) (fun j r2 hj hr2 hh2 => ?_)
              by_cases z : j = i
              · rw [z, hr] at hr2
                injection hr2 with hr2
                rw [← hr2] at hh2 ⊢
                rw [← hv]; omega
              · exact hlo j r2 (by omega) hr2 hh2
            · skip
              replace e44 : ¬ nI (Z.V v / 4) ≤ nI tn := e44
              replace e44 : ¬ Z.V v / 4 ≤ tn := fun z => e44 ((nI_leI (a := Z.V v / 4) (b := tn) (by omega) (by omega)).mpr z)
              refine kx_rn dV_isTooLate 1 48 [(0, .ref (Z.ad rV)), (1, .int (nI tn)), (2, .ref (Z.ad (rTab k))), (3, .int (nI i)), (4, .ref (Z.ad (rVer v)))] [.int 1] rfl ?_
              refine kx_ret (ty := .boolean) (kx_tk_dec rfl dV_isTooLate) rfl rfl ?_
              exact ⟨true, rfl, rfl, fun _ => ⟨i, r, hr, hh, by rw [← hv]; omega⟩, fun _ => rfl⟩
  refine kx_rn dV_isTooLate 2 2 [(0, .ref (Z.ad rV)), (1, .int (nI tn)), (2, .ref (Z.ad (rTab k))), (3, .int 0)] [] rfl ?_
  exact loop L.length 0 (by omega) (fun j r hj => by omega)
end KC38
