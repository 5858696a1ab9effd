/-! ===== the other side: update ===== -/
section KC41
variable {G : kx_G} {l : Launch} {d : Nat} {h : kx_H} {m : Nat} {S : Nat → Int32} {A : Nat → Nat → Int32} {Z : cZ}
/-- what a statement leaves alone -/
def uFr (Z : cZ) (sc ia : cR → Nat → Int32) : Prop := (∀ σ, σ ≠ rRs (1 - Z.fi) → σ.1 ≠ 7 → sc σ = Z.sc σ) ∧ (∀ i, sc (rPrg i) 2 = Z.sc (rPrg i) 2) ∧ ∀ σ, σ ≠ rNum (1 - Z.fi) → σ.1 ≠ 9 → σ.1 ≠ 6 → (∀ i, i < 24 → σ ≠ rInn (24 * (1 - Z.fi) + i)) → ia σ = Z.ia σ
theorem uFr_c {sc ia : cR → Nat → Int32} (h : cFr Z sc ia) : uFr Z sc ia := ⟨fun σ h1 h2 => h.1 σ h1 (fun z => h2 (by rw [z])), fun i => by
  by_cases e : i = 0
  · rw [e]; exact h.2.1
  · rw [h.1 (rPrg i) (tag_ne (by decide)) (arg_ne e)], fun σ h1 h2 h3 h4 => h.2.2 σ h1 (fun z => h2 (by rw [z])) h4⟩
theorem uFr_g {sc ia sc3 ia3 : cR → Nat → Int32} (h : cFr Z sc ia) (g : gFr (Z.wA sc ia) sc3 ia3) : uFr Z sc3 ia3 := ⟨fun σ h1 h2 => (g.1 σ h2).trans (h.1 σ h1 (fun z => h2 (by rw [z]))), fun i => (g.2.1 i).trans ((uFr_c h).2.1 i), fun σ h1 h2 h3 h4 => (g.2.2 σ h2 h3 h4).trans (h.2.2 σ h1 (fun z => h2 (by rw [z])) h4)⟩
theorem cSet_c {sc ia : cR → Nat → Int32} {ES : Nat → List Int32} (h : cFr Z sc ia) (hs : cSet Z ES) : cSet (Z.wA sc ia) ES := fun c hc hp => by
  obtain ⟨h1, h2, h3⟩ := hs c hc hp
  refine ⟨h1, ?_, ?_⟩
  · show sc (rPrg (c + 1)) 2 = _
    rw [h.1 (rPrg (c + 1)) (tag_ne (by decide)) (arg_ne (by omega))]; exact h2
  · show prg (ia (rStp (c + 1))) _
    rw [h.2.2 (rStp (c + 1)) (tag_ne (by decide)) (tag_ne (by decide)) (fun i _ => tag_ne (by decide))]; exact h3
set_option maxRecDepth 100000 in
theorem cV_update1 {t kk : Int32} {bg : Nat} (hst : l.stackTraces = false) (hZ : cOk G m S A h Z) (hbg : Z.sc rTr 1 = nI bg) (hb40 : bg ≤ 40) (hop : ¬ cOp Z bg t) :
    kx_c G l mV_update (d + 6) 1 6 [.ref (Z.ad rV), .int t, .int kk] h (fun o h' => ∃ x, o = .threw x ∧ kx_is G h' x (.inr (11, [])) ∧ cOk G m S A h' Z) := by
  refine kx_in (by decide +kernel) (Nat.le_of_ble_eq_true rfl) hst ?_
  refine kx_rn dV_update 2 2 [(0, .ref (Z.ad rV)), (1, .int t), (2, .int kk)] [.int t, .ref (Z.ad rV)] rfl ?_
  refine cV_110 (as := [.int t]) (st := []) (mc := 1) (ms := 6) (kc := 0) (ks := 0) rfl (kx_tk_dec rfl dV_update) (hZ.is rV rfl) rfl rfl (Nat.le_of_ble_eq_true rfl) (cV_mustBeOpen1 (d := d + 4) hst hZ hbg hb40 hop) (fun o h' hq => ?_)
  obtain ⟨x, rfl, hx, hz0⟩ := hq
  exact kx_out (fun q hq => by cases hq) ⟨x, rfl, hx, hz0⟩
set_option maxRecDepth 100000 in
theorem cV_update2 {tn bg : Nat} {kk : Int32} (hst : l.stackTraces = false) (hZ : cOk G m S A h Z) (hbg : Z.sc rTr 1 = nI bg) (hb40 : bg ≤ 40) (ht1 : 1 ≤ tn) (ht2 : tn ≤ bg) (hts : Z.st tn = 1) (ht : ¬ cTb Z kk) :
    kx_c G l mV_update (d + 6) 1 6 [.ref (Z.ad rV), .int (nI tn), .int kk] h (fun o h' => ∃ x, o = .threw x ∧ kx_is G h' x (.inr (11, [])) ∧ cOk G m S A h' Z) := by
  refine kx_in (by decide +kernel) (Nat.le_of_ble_eq_true rfl) hst ?_
  refine kx_rn dV_update 2 2 [(0, .ref (Z.ad rV)), (1, .int (nI tn)), (2, .int kk)] [.int (nI tn), .ref (Z.ad rV)] rfl ?_
  refine cV_110 (as := [.int (nI tn)]) (st := []) (mc := 0) (ms := 0) (kc := 1) (ks := 6) rfl (kx_tk_dec rfl dV_update) (hZ.is rV rfl) rfl rfl (Nat.le_of_ble_eq_true rfl) (cV_mustBeOpen0 (d := d + 4) hst hZ hbg hb40 ⟨tn, ht1, ht2, rfl, hts⟩) (fun o h' hq => ?_)
  obtain ⟨rfl, hz0⟩ := hq
  show kx_w _ _ _ _ _ _ _ _ _ _ _
  refine kx_rn dV_update 2 7 [(0, .ref (Z.ad rV)), (1, .int (nI tn)), (2, .int kk)] [.int kk, .ref (Z.ad rV)] rfl ?_
  refine cV_127 (as := [.int kk]) (st := []) (mc := 1) (ms := 6) (kc := 0) (ks := 0) rfl (kx_tk_dec rfl dV_update) (hz0.is rV rfl) rfl rfl (Nat.le_of_ble_eq_true rfl) (cV_tableThere1 hst hz0 ht) (fun o h' hq => ?_)
  obtain ⟨x, rfl, hx, hz1⟩ := hq
  exact kx_out (fun q hq => by cases hq) ⟨x, rfl, hx, hz1⟩
set_option maxRecDepth 100000 in
theorem cV_update7 {k bg tn cl c0 : Nat} (hst : l.stackTraces = false) (hZ : cOk G m S A h Z) (hk : k < 3) (ht : Z.tb k = true) (hbg : Z.sc rTr 1 = nI bg) (hb40 : bg ≤ 40) (ht1 : 1 ≤ tn) (ht2 : tn ≤ bg) (hts : Z.st tn = 1) (hcl : Z.sc (rTab k) 0 = nI cl) (hcl4 : cl ≤ 4) (hc1 : cl ≤ c0) (hc4 : c0 < 4) (hc0 : Z.pl (c0 + 1) = true) :
    kx_c G l mV_update (d + 6) 1 6 [.ref (Z.ad rV), .int (nI tn), .int (nI k)] h (fun o h' => ∃ x, o = .threw x ∧ kx_is G h' x (.inr (9, [])) ∧ cOk G m S A h' Z) := by
  refine kx_in (by decide +kernel) (Nat.le_of_ble_eq_true rfl) hst ?_
  refine kx_rn dV_update 2 2 [(0, .ref (Z.ad rV)), (1, .int (nI tn)), (2, .int (nI k))] [.int (nI tn), .ref (Z.ad rV)] rfl ?_
  refine cV_110 (as := [.int (nI tn)]) (st := []) (mc := 0) (ms := 0) (kc := 1) (ks := 6) rfl (kx_tk_dec rfl dV_update) (hZ.is rV rfl) rfl rfl (Nat.le_of_ble_eq_true rfl) (cV_mustBeOpen0 (d := d + 4) hst hZ hbg hb40 ⟨tn, ht1, ht2, rfl, hts⟩) (fun o h' hq => ?_)
  obtain ⟨rfl, hz0⟩ := hq
  show kx_w _ _ _ _ _ _ _ _ _ _ _
  refine kx_rn dV_update 2 7 [(0, .ref (Z.ad rV)), (1, .int (nI tn)), (2, .int (nI k))] [.int (nI k), .ref (Z.ad rV)] rfl ?_
  refine cV_127 (as := [.int (nI k)]) (st := []) (mc := 0) (ms := 0) (kc := 1) (ks := 6) rfl (kx_tk_dec rfl dV_update) (hz0.is rV rfl) rfl rfl (Nat.le_of_ble_eq_true rfl) (cV_tableThere0 hst hz0 hk ht) (fun o h' hq => ?_)
  obtain ⟨rfl, hz1⟩ := hq
  show kx_w _ _ _ _ _ _ _ _ _ _ _
  refine kx_rn dV_update 3 13 [(0, .ref (Z.ad rV)), (1, .int (nI tn)), (2, .int (nI k)), (3, .ref (Z.ad (rTab k)))] [.ref (Z.ad (rTab k)), .ref (Z.ad rV)] rfl ?_
  refine pV_161 (v := .int (Z.sc (rTab k) 0)) rfl (kx_tk_dec rfl dV_update) (hz1.is (rTab k) ⟨hk, ht⟩) rfl ?_
  rw [hcl]
  refine cV_164 (as := [.int (nI cl)]) (st := []) (mc := 1) (ms := 6) (kc := 0) (ks := 0) rfl (kx_tk_dec rfl dV_update) (hz1.is rV rfl) rfl rfl (Nat.le_of_ble_eq_true rfl) (cV_refuse1 hst hz1 hcl4 hc1 hc4 hc0) (fun o h' hq => ?_)
  obtain ⟨x, rfl, hx, hz1⟩ := hq
  exact kx_out (fun q hq => by cases hq) ⟨x, rfl, hx, hz1⟩
set_option maxRecDepth 100000 in
theorem cV_update3 {k md bg tn r0 cl : Nat} {es : List Int32} (hst : l.stackTraces = false) (hZ : cOk G m S A h Z) (hk : k < 3) (ht : Z.tb k = true) (hmd : Z.sc (rTab k) 2 = nI md) (hmd2 : md ≤ 24) (hbg : Z.sc rTr 1 = nI bg) (hb40 : bg ≤ 40) (ht1 : 1 ≤ tn) (ht2 : tn ≤ bg) (hts : Z.st tn = 1) (hpn : Z.sc (rPrg 0) 2 = nI es.length) (hok : okC es) (hF : prg (Z.ia (rStp 0)) es) (hcl : Z.sc (rTab k) 0 = nI cl) (hcl4 : cl ≤ 4) (hbey : ∀ c, cl ≤ c → c < 4 → Z.pl (c + 1) = false) (hr0 : r0 < md) (hall : ∀ r, r < r0 → vdC Z es tn (24 * k + r) ≤ 1) (hbad : vdC Z es tn (24 * k + r0) = 2) :
    kx_c G l mV_update (d + 6) 1 6 [.ref (Z.ad rV), .int (nI tn), .int (nI k)] h (fun o h' => ∃ x, o = .threw x ∧ kx_is G h' x (.inr (10, [])) ∧ ∃ sc2 ia2, cOk G m S A h' (Z.wA sc2 ia2) ∧ cFr Z sc2 ia2) := by
  refine kx_in (by decide +kernel) (Nat.le_of_ble_eq_true rfl) hst ?_
  refine kx_rn dV_update 2 2 [(0, .ref (Z.ad rV)), (1, .int (nI tn)), (2, .int (nI k))] [.int (nI tn), .ref (Z.ad rV)] rfl ?_
  refine cV_110 (as := [.int (nI tn)]) (st := []) (mc := 0) (ms := 0) (kc := 1) (ks := 6) rfl (kx_tk_dec rfl dV_update) (hZ.is rV rfl) rfl rfl (Nat.le_of_ble_eq_true rfl) (cV_mustBeOpen0 (d := d + 4) hst hZ hbg hb40 ⟨tn, ht1, ht2, rfl, hts⟩) (fun o h' hq => ?_)
  obtain ⟨rfl, hz0⟩ := hq
  show kx_w _ _ _ _ _ _ _ _ _ _ _
  refine kx_rn dV_update 2 7 [(0, .ref (Z.ad rV)), (1, .int (nI tn)), (2, .int (nI k))] [.int (nI k), .ref (Z.ad rV)] rfl ?_
  refine cV_127 (as := [.int (nI k)]) (st := []) (mc := 0) (ms := 0) (kc := 1) (ks := 6) rfl (kx_tk_dec rfl dV_update) (hz0.is rV rfl) rfl rfl (Nat.le_of_ble_eq_true rfl) (cV_tableThere0 hst hz0 hk ht) (fun o h' hq => ?_)
  obtain ⟨rfl, hz1⟩ := hq
  show kx_w _ _ _ _ _ _ _ _ _ _ _
  refine kx_rn dV_update 3 13 [(0, .ref (Z.ad rV)), (1, .int (nI tn)), (2, .int (nI k)), (3, .ref (Z.ad (rTab k)))] [.ref (Z.ad (rTab k)), .ref (Z.ad rV)] rfl ?_
  refine pV_161 (v := .int (Z.sc (rTab k) 0)) rfl (kx_tk_dec rfl dV_update) (hz1.is (rTab k) ⟨hk, ht⟩) rfl ?_
  rw [hcl]
  refine cV_164 (as := [.int (nI cl)]) (st := []) (mc := 0) (ms := 0) (kc := 1) (ks := 6) rfl (kx_tk_dec rfl dV_update) (hz1.is rV rfl) rfl rfl (Nat.le_of_ble_eq_true rfl) (cV_refuse0 hst hz1 hcl4 hbey) (fun o h' hq => ?_)
  obtain ⟨rfl, hz1⟩ := hq
  show kx_w _ _ _ _ _ _ _ _ _ _ _
  refine kx_rn dV_update 3 22 [(0, .ref (Z.ad rV)), (1, .int (nI tn)), (2, .int (nI k)), (3, .ref (Z.ad (rTab k)))] [.ref (Z.ad (rTab k)), .int (nI tn), .ref (Z.ad rV)] rfl ?_
  refine cV_151 (as := [.int (nI tn), .ref (Z.ad (rTab k))]) (st := []) (mc := 1) (ms := 6) (kc := 0) (ks := 0) rfl (kx_tk_dec rfl dV_update) (hz1.is rV rfl) rfl rfl (Nat.le_of_ble_eq_true rfl) (cV_choose1 (d := d) hst hz1 hk ht hmd hmd2 hbg hb40 ht1 ht2 hpn hok hF hr0 hall hbad) (fun o h' hq => ?_)
  obtain ⟨x, rfl, hx, hz2⟩ := hq
  exact kx_out (fun q hq => by cases hq) ⟨x, rfl, hx, hz2⟩
set_option maxRecDepth 100000 in
theorem cV_update4 {k md bg tn r0 cl : Nat} {es : List Int32} (hst : l.stackTraces = false) (hZ : cOk G m S A h Z) (hk : k < 3) (ht : Z.tb k = true) (hmd : Z.sc (rTab k) 2 = nI md) (hmd2 : md ≤ 24) (hbg : Z.sc rTr 1 = nI bg) (hb40 : bg ≤ 40) (ht1 : 1 ≤ tn) (ht2 : tn ≤ bg) (hts : Z.st tn = 1) (hpn : Z.sc (rPrg 0) 2 = nI es.length) (hok : okC es) (hF : prg (Z.ia (rStp 0)) es) (hcl : Z.sc (rTab k) 0 = nI cl) (hcl4 : cl ≤ 4) (hbey : ∀ c, cl ≤ c → c < 4 → Z.pl (c + 1) = false) (hr0 : r0 < md) (hall : ∀ r, r < r0 → vdC Z es tn (24 * k + r) ≤ 1) (hbad : vdC Z es tn (24 * k + r0) = 3) :
    kx_c G l mV_update (d + 6) 1 6 [.ref (Z.ad rV), .int (nI tn), .int (nI k)] h (fun o h' => ∃ x, o = .threw x ∧ kx_is G h' x (.inr (13, [])) ∧ ∃ sc2 ia2, cOk G m S A h' (Z.wA sc2 ia2) ∧ cFr Z sc2 ia2) := by
  refine kx_in (by decide +kernel) (Nat.le_of_ble_eq_true rfl) hst ?_
  refine kx_rn dV_update 2 2 [(0, .ref (Z.ad rV)), (1, .int (nI tn)), (2, .int (nI k))] [.int (nI tn), .ref (Z.ad rV)] rfl ?_
  refine cV_110 (as := [.int (nI tn)]) (st := []) (mc := 0) (ms := 0) (kc := 1) (ks := 6) rfl (kx_tk_dec rfl dV_update) (hZ.is rV rfl) rfl rfl (Nat.le_of_ble_eq_true rfl) (cV_mustBeOpen0 (d := d + 4) hst hZ hbg hb40 ⟨tn, ht1, ht2, rfl, hts⟩) (fun o h' hq => ?_)
  obtain ⟨rfl, hz0⟩ := hq
  show kx_w _ _ _ _ _ _ _ _ _ _ _
  refine kx_rn dV_update 2 7 [(0, .ref (Z.ad rV)), (1, .int (nI tn)), (2, .int (nI k))] [.int (nI k), .ref (Z.ad rV)] rfl ?_
  refine cV_127 (as := [.int (nI k)]) (st := []) (mc := 0) (ms := 0) (kc := 1) (ks := 6) rfl (kx_tk_dec rfl dV_update) (hz0.is rV rfl) rfl rfl (Nat.le_of_ble_eq_true rfl) (cV_tableThere0 hst hz0 hk ht) (fun o h' hq => ?_)
  obtain ⟨rfl, hz1⟩ := hq
  show kx_w _ _ _ _ _ _ _ _ _ _ _
  refine kx_rn dV_update 3 13 [(0, .ref (Z.ad rV)), (1, .int (nI tn)), (2, .int (nI k)), (3, .ref (Z.ad (rTab k)))] [.ref (Z.ad (rTab k)), .ref (Z.ad rV)] rfl ?_
  refine pV_161 (v := .int (Z.sc (rTab k) 0)) rfl (kx_tk_dec rfl dV_update) (hz1.is (rTab k) ⟨hk, ht⟩) rfl ?_
  rw [hcl]
  refine cV_164 (as := [.int (nI cl)]) (st := []) (mc := 0) (ms := 0) (kc := 1) (ks := 6) rfl (kx_tk_dec rfl dV_update) (hz1.is rV rfl) rfl rfl (Nat.le_of_ble_eq_true rfl) (cV_refuse0 hst hz1 hcl4 hbey) (fun o h' hq => ?_)
  obtain ⟨rfl, hz1⟩ := hq
  show kx_w _ _ _ _ _ _ _ _ _ _ _
  refine kx_rn dV_update 3 22 [(0, .ref (Z.ad rV)), (1, .int (nI tn)), (2, .int (nI k)), (3, .ref (Z.ad (rTab k)))] [.ref (Z.ad (rTab k)), .int (nI tn), .ref (Z.ad rV)] rfl ?_
  refine cV_151 (as := [.int (nI tn), .ref (Z.ad (rTab k))]) (st := []) (mc := 1) (ms := 6) (kc := 0) (ks := 0) rfl (kx_tk_dec rfl dV_update) (hz1.is rV rfl) rfl rfl (Nat.le_of_ble_eq_true rfl) (cV_choose2 (d := d) hst hz1 hk ht hmd hmd2 hbg hb40 ht1 ht2 hpn hok hF hr0 hall hbad) (fun o h' hq => ?_)
  obtain ⟨x, rfl, hx, hz2⟩ := hq
  exact kx_out (fun q hq => by cases hq) ⟨x, rfl, hx, hz2⟩
set_option maxRecDepth 100000 in
theorem cV_update0 {k md bg tn sc cl : Nat} {es : List Int32} {ES : Nat → List Int32} (hst : l.stackTraces = false) (hZ : cOk G m S A h Z) (hk : k < 3) (ht : Z.tb k = true) (hmd : Z.sc (rTab k) 2 = nI md) (hmd2 : md ≤ 24) (hbg : Z.sc rTr 1 = nI bg) (hb40 : bg ≤ 40) (ht1 : 1 ≤ tn) (ht2 : tn ≤ bg) (hts : Z.st tn = 1) (hpn : Z.sc (rPrg 0) 2 = nI es.length) (hok : okC es) (hF : prg (Z.ia (rStp 0)) es) (hsc : Z.sc (rTab k) 3 = nI sc) (hsc2 : sc ≤ 40) (hcl : Z.sc (rTab k) 0 = nI cl) (hcl4 : cl ≤ 4) (hbey : ∀ c, cl ≤ c → c < 4 → Z.pl (c + 1) = false) (hset : cSet Z ES) (hall : ∀ r, r < md → vdC Z es tn (24 * k + r) ≤ 1) (hfine : (∀ j r c : Nat, (selL (cMt Z es tn k) md)[j]? = some r → c < 4 → Z.pl (c + 1) = true → ¬ lA (cVl Z tn k r) (ES c) = none)) (hlate : ¬ ∃ (i r : Nat), (selL (cMt Z es tn k) md)[i]? = some r ∧ ¬ hwq Z.V tn (24 * k + r) = 0 ∧ tn < Z.V (40 * (24 * k + r) + (hwq Z.V tn (24 * k + r) - 1)) / 4) :
    kx_c G l mV_update (d + 6) 49 198 [.ref (Z.ad rV), .int (nI tn), .int (nI k)] h (fun o h' => o = .returned (some (.int (nI (selL (cMt Z es tn k) md).length))) ∧ ∃ sc3 ia3 V2 Z', cOk G m S A h' Z' ∧ uFr Z sc3 ia3 ∧ (∀ j r : Nat, (selL (cMt Z es tn k) md)[j]? = some r → ∀ c, c < 4 → ia3 (rInn (24 * (1 - Z.fi) + j)) c = nvC Z.pl ES (cVl Z tn k r) c) ∧ zW (((Z.wA sc3 ia3).sS (rTab k) 3 (nI (max sc tn))).wV V2) Z' ∧ zWr (Z.wA sc3 ia3) V2 Z' (selL (cMt Z es tn k) md) k tn (selL (cMt Z es tn k) md).length false ∧ ∀ v, V2 v = if 24 * k ≤ v / 40 ∧ v / 40 < 24 * k + md ∧ v % 40 + 1 = hwq Z.V tn (v / 40) ∧ Z.V v / 4 < tn then Z.V v % 4 + 4 * tn else Z.V v) := by
  refine kx_in (by decide +kernel) (Nat.le_of_ble_eq_true rfl) hst ?_
  refine kx_rn dV_update 2 2 [(0, .ref (Z.ad rV)), (1, .int (nI tn)), (2, .int (nI k))] [.int (nI tn), .ref (Z.ad rV)] rfl ?_
  refine cV_110 (as := [.int (nI tn)]) (st := []) (mc := 0) (ms := 0) (kc := 49) (ks := 198) rfl (kx_tk_dec rfl dV_update) (hZ.is rV rfl) rfl rfl (Nat.le_of_ble_eq_true rfl) (cV_mustBeOpen0 (d := d + 4) hst hZ hbg hb40 ⟨tn, ht1, ht2, rfl, hts⟩) (fun o h' hq => ?_)
  obtain ⟨rfl, hz0⟩ := hq
  show kx_w _ _ _ _ _ _ _ _ _ _ _
  refine kx_rn dV_update 2 7 [(0, .ref (Z.ad rV)), (1, .int (nI tn)), (2, .int (nI k))] [.int (nI k), .ref (Z.ad rV)] rfl ?_
  refine cV_127 (as := [.int (nI k)]) (st := []) (mc := 0) (ms := 0) (kc := 49) (ks := 198) rfl (kx_tk_dec rfl dV_update) (hz0.is rV rfl) rfl rfl (Nat.le_of_ble_eq_true rfl) (cV_tableThere0 hst hz0 hk ht) (fun o h' hq => ?_)
  obtain ⟨rfl, hz1⟩ := hq
  show kx_w _ _ _ _ _ _ _ _ _ _ _
  refine kx_rn dV_update 3 13 [(0, .ref (Z.ad rV)), (1, .int (nI tn)), (2, .int (nI k)), (3, .ref (Z.ad (rTab k)))] [.ref (Z.ad (rTab k)), .ref (Z.ad rV)] rfl ?_
  refine pV_161 (v := .int (Z.sc (rTab k) 0)) rfl (kx_tk_dec rfl dV_update) (hz1.is (rTab k) ⟨hk, ht⟩) rfl ?_
  rw [hcl]
  refine cV_164 (as := [.int (nI cl)]) (st := []) (mc := 0) (ms := 0) (kc := 49) (ks := 198) rfl (kx_tk_dec rfl dV_update) (hz1.is rV rfl) rfl rfl (Nat.le_of_ble_eq_true rfl) (cV_refuse0 hst hz1 hcl4 hbey) (fun o h' hq => ?_)
  obtain ⟨rfl, hz1⟩ := hq
  show kx_w _ _ _ _ _ _ _ _ _ _ _
  refine kx_rn dV_update 3 22 [(0, .ref (Z.ad rV)), (1, .int (nI tn)), (2, .int (nI k)), (3, .ref (Z.ad (rTab k)))] [.ref (Z.ad (rTab k)), .int (nI tn), .ref (Z.ad rV)] rfl ?_
  refine cV_151 (as := [.int (nI tn), .ref (Z.ad (rTab k))]) (st := []) (mc := 0) (ms := 0) (kc := 49) (ks := 198) rfl (kx_tk_dec rfl dV_update) (hz1.is rV rfl) rfl rfl (Nat.le_of_ble_eq_true rfl) (cV_choose0 (d := d) hst hz1 hk ht hmd hmd2 hbg hb40 ht1 ht2 hpn hok hF hall) (fun o h' hq => ?_)
  obtain ⟨rfl, sc2, ia2, hz2, hfr, hch⟩ := hq
  show kx_w _ _ _ _ _ _ _ _ _ _ _
  have hm2 : sc2 (rTab k) 2 = nI md := by rw [hfr.1 (rTab k) (tag_ne (by decide)) (tag_ne (by decide))]; exact hmd
  have hs2 : sc2 (rTab k) 3 = nI sc := by rw [hfr.1 (rTab k) (tag_ne (by decide)) (tag_ne (by decide))]; exact hsc
  have hb2 : sc2 rTr 1 = nI bg := by rw [hfr.1 rTr (tag_ne (by decide)) (tag_ne (by decide))]; exact hbg
  refine kx_rn dV_update 1 26 [(0, .ref (Z.ad rV)), (1, .int (nI tn)), (2, .int (nI k)), (3, .ref (Z.ad (rTab k)))] [.ref (Z.ad rV)] rfl ?_
  have hlen : (selL (cMt Z es tn k) md).length ≤ 24 := by rw [selL_len]; have := cnt_le (cMt Z es tn k) md; omega
  refine cV_167 (as := []) (st := []) (mc := 1) (ms := 6) (kc := 48) (ks := 192) rfl (kx_tk_dec rfl dV_update) (hz2.is rV rfl) rfl rfl (Nat.le_of_ble_eq_true rfl) (cV_workOut (d := d + 1) (Z := Z.wA sc2 ia2) (L := (selL (cMt Z es tn k) md)) (vals := (cVl Z tn k)) (ES := ES) hst hz2 (show 1 - Z.fi < 2 by omega) hch.1 hlen (fun j r hr c hc => (hch.2 j r hr).2 c hc) (cSet_c hfr hset)) (fun o h' hq => ?_)
  rcases hq with ⟨rfl, -, sc3, ia3, hz3, hg3, hnv⟩ | ⟨⟨j, r, c, y1, y2, y3, y4⟩, -⟩
  · skip
    show kx_w _ _ _ _ _ _ _ _ _ _ _
    replace hz3 : cOk G m S A h' (Z.wA sc3 ia3) := hz3
    have hm3 : sc3 (rTab k) 2 = nI md := by rw [hg3.1 (rTab k) (show (14 : Nat) ≠ 7 by decide)]; exact hm2
    have hs3 : sc3 (rTab k) 3 = nI sc := by rw [hg3.1 (rTab k) (show (14 : Nat) ≠ 7 by decide)]; exact hs2
    have hb3 : sc3 rTr 1 = nI bg := by rw [hg3.1 rTr (show (2 : Nat) ≠ 7 by decide)]; exact hb2
    have hl3 : sc3 (rRs (1 - Z.fi)) 2 = nI (selL (cMt Z es tn k) md).length := by rw [hg3.1 (rRs (1 - Z.fi)) (show (10 : Nat) ≠ 7 by decide)]; exact hch.1
    have hnum : ∀ i r : Nat, (selL (cMt Z es tn k) md)[i]? = some r → (Z.wA sc3 ia3).ia (rNum (1 - (Z.wA sc3 ia3).fi)) i = nI r ∧ r < md := fun i r hr => ⟨by
      show ia3 (rNum (1 - Z.fi)) i = _
      rw [hg3.2.2 (rNum (1 - Z.fi)) (show (11 : Nat) ≠ 9 by decide) (show (11 : Nat) ≠ 6 by decide) (fun i _ => tag_ne (by decide))]; exact (hch.2 i r hr).1, (selL_lt hr).1⟩
    refine kx_rn dV_update 4 33 [(0, .ref (Z.ad rV)), (1, .int (nI tn)), (2, .int (nI k)), (3, .ref (Z.ad (rTab k)))] [.int 0, .ref (Z.ad (rTab k)), .int (nI tn), .ref (Z.ad rV)] rfl ?_
    refine cV_170 (as := [.int (nI tn), .ref (Z.ad (rTab k)), .int 0]) (st := []) (mc := 48) (ms := 192) (kc := 0) (ks := 0) rfl (kx_tk_dec rfl dV_update) (hz3.is rV rfl) rfl rfl (Nat.le_of_ble_eq_true rfl) (cV_write0 (d := d) (Z := Z.wA sc3 ia3) (gn := false) (L := (selL (cMt Z es tn k) md)) hst hz3 hk ht hm3 hmd2 hb3 hb40 ht1 ht2 (show 1 - Z.fi < 2 by omega) hl3 hlen hnum hs3 hsc2 (fun i j r => selL_inj) hlate) (fun o h' hq => ?_)
    obtain ⟨rfl, V2, Z9, hz9, hw9, hwr, hV2⟩ := hq
    show kx_w _ _ _ _ _ _ _ _ _ _ _
    refine kx_rn dV_update 1 37 [(0, .ref (Z.ad rV)), (1, .int (nI tn)), (2, .int (nI k)), (3, .ref (Z.ad (rTab k)))] [.ref (Z.ad rV)] rfl ?_
    refine pV_51 (v := .ref (Z.ad (rRs (1 - Z.fi)))) rfl (kx_tk_dec rfl dV_update) (zW_is hz9 hw9 (a := 0) (b := 0) (by decide) (by decide) (by decide) rfl) rfl ?_
    refine pV_158 (v := .int (sc3 (rRs (1 - Z.fi)) 2)) rfl (kx_tk_dec rfl dV_update) (zW_is hz9 hw9 (a := 10) (b := (1 - Z.fi)) (by decide) (by decide) (by decide) (show 1 - Z.fi < 2 by omega)) rfl ?_
    rw [hl3]
    refine kx_ret (ty := .int) (kx_tk_dec rfl dV_update) rfl rfl ?_
    exact ⟨rfl, sc3, ia3, V2, Z9, hz9, uFr_g hfr hg3, hnv, hw9, hwr, hV2⟩
  · exact absurd y4 (hfine j r c y1 y2 y3)
set_option maxRecDepth 100000 in
theorem cV_update5 {k md bg tn sc cl : Nat} {es : List Int32} {ES : Nat → List Int32} {MD SC CL : Nat → Nat} (hst : l.stackTraces = false) (hZ : cOk G m S A h Z) (hnm : cNm Z MD SC CL) (hrw : cRw Z MD) (hk : k < 3) (ht : Z.tb k = true) (hmd : Z.sc (rTab k) 2 = nI md) (hmd2 : md ≤ 24) (hbg : Z.sc rTr 1 = nI bg) (hb40 : bg ≤ 40) (ht1 : 1 ≤ tn) (ht2 : tn ≤ bg) (hts : Z.st tn = 1) (hpn : Z.sc (rPrg 0) 2 = nI es.length) (hok : okC es) (hF : prg (Z.ia (rStp 0)) es) (hsc : Z.sc (rTab k) 3 = nI sc) (hsc2 : sc ≤ 40) (hcl : Z.sc (rTab k) 0 = nI cl) (hcl4 : cl ≤ 4) (hbey : ∀ c, cl ≤ c → c < 4 → Z.pl (c + 1) = false) (hset : cSet Z ES) (hall : ∀ r, r < md → vdC Z es tn (24 * k + r) ≤ 1) (hfine : (∀ j r c : Nat, (selL (cMt Z es tn k) md)[j]? = some r → c < 4 → Z.pl (c + 1) = true → ¬ lA (cVl Z tn k r) (ES c) = none)) (hlate : ∃ (i r : Nat), (selL (cMt Z es tn k) md)[i]? = some r ∧ ¬ hwq Z.V tn (24 * k + r) = 0 ∧ tn < Z.V (40 * (24 * k + r) + (hwq Z.V tn (24 * k + r) - 1)) / 4) :
    kx_c G l mV_update (d + 6) 2 12 [.ref (Z.ad rV), .int (nI tn), .int (nI k)] h (fun o h' => ∃ x, o = .threw x ∧ kx_is G h' x (.inr (12, [])) ∧ ∃ sc2 ia2 V2, cOk G m S A h' ((((Z.wA sc2 ia2).sT tn 3).wV V2).sS rTr 2 (Z.sc rTr 2 + 1)) ∧ uFr Z sc2 ia2 ∧ ∀ v, V2 v = vBrk Z.V tn v) := by
  refine kx_in (by decide +kernel) (Nat.le_of_ble_eq_true rfl) hst ?_
  refine kx_rn dV_update 2 2 [(0, .ref (Z.ad rV)), (1, .int (nI tn)), (2, .int (nI k))] [.int (nI tn), .ref (Z.ad rV)] rfl ?_
  refine cV_110 (as := [.int (nI tn)]) (st := []) (mc := 0) (ms := 0) (kc := 2) (ks := 12) rfl (kx_tk_dec rfl dV_update) (hZ.is rV rfl) rfl rfl (Nat.le_of_ble_eq_true rfl) (cV_mustBeOpen0 (d := d + 4) hst hZ hbg hb40 ⟨tn, ht1, ht2, rfl, hts⟩) (fun o h' hq => ?_)
  obtain ⟨rfl, hz0⟩ := hq
  show kx_w _ _ _ _ _ _ _ _ _ _ _
  refine kx_rn dV_update 2 7 [(0, .ref (Z.ad rV)), (1, .int (nI tn)), (2, .int (nI k))] [.int (nI k), .ref (Z.ad rV)] rfl ?_
  refine cV_127 (as := [.int (nI k)]) (st := []) (mc := 0) (ms := 0) (kc := 2) (ks := 12) rfl (kx_tk_dec rfl dV_update) (hz0.is rV rfl) rfl rfl (Nat.le_of_ble_eq_true rfl) (cV_tableThere0 hst hz0 hk ht) (fun o h' hq => ?_)
  obtain ⟨rfl, hz1⟩ := hq
  show kx_w _ _ _ _ _ _ _ _ _ _ _
  refine kx_rn dV_update 3 13 [(0, .ref (Z.ad rV)), (1, .int (nI tn)), (2, .int (nI k)), (3, .ref (Z.ad (rTab k)))] [.ref (Z.ad (rTab k)), .ref (Z.ad rV)] rfl ?_
  refine pV_161 (v := .int (Z.sc (rTab k) 0)) rfl (kx_tk_dec rfl dV_update) (hz1.is (rTab k) ⟨hk, ht⟩) rfl ?_
  rw [hcl]
  refine cV_164 (as := [.int (nI cl)]) (st := []) (mc := 0) (ms := 0) (kc := 2) (ks := 12) rfl (kx_tk_dec rfl dV_update) (hz1.is rV rfl) rfl rfl (Nat.le_of_ble_eq_true rfl) (cV_refuse0 hst hz1 hcl4 hbey) (fun o h' hq => ?_)
  obtain ⟨rfl, hz1⟩ := hq
  show kx_w _ _ _ _ _ _ _ _ _ _ _
  refine kx_rn dV_update 3 22 [(0, .ref (Z.ad rV)), (1, .int (nI tn)), (2, .int (nI k)), (3, .ref (Z.ad (rTab k)))] [.ref (Z.ad (rTab k)), .int (nI tn), .ref (Z.ad rV)] rfl ?_
  refine cV_151 (as := [.int (nI tn), .ref (Z.ad (rTab k))]) (st := []) (mc := 0) (ms := 0) (kc := 2) (ks := 12) rfl (kx_tk_dec rfl dV_update) (hz1.is rV rfl) rfl rfl (Nat.le_of_ble_eq_true rfl) (cV_choose0 (d := d) hst hz1 hk ht hmd hmd2 hbg hb40 ht1 ht2 hpn hok hF hall) (fun o h' hq => ?_)
  obtain ⟨rfl, sc2, ia2, hz2, hfr, hch⟩ := hq
  show kx_w _ _ _ _ _ _ _ _ _ _ _
  have hm2 : sc2 (rTab k) 2 = nI md := by rw [hfr.1 (rTab k) (tag_ne (by decide)) (tag_ne (by decide))]; exact hmd
  have hs2 : sc2 (rTab k) 3 = nI sc := by rw [hfr.1 (rTab k) (tag_ne (by decide)) (tag_ne (by decide))]; exact hsc
  have hb2 : sc2 rTr 1 = nI bg := by rw [hfr.1 rTr (tag_ne (by decide)) (tag_ne (by decide))]; exact hbg
  refine kx_rn dV_update 1 26 [(0, .ref (Z.ad rV)), (1, .int (nI tn)), (2, .int (nI k)), (3, .ref (Z.ad (rTab k)))] [.ref (Z.ad rV)] rfl ?_
  have hlen : (selL (cMt Z es tn k) md).length ≤ 24 := by rw [selL_len]; have := cnt_le (cMt Z es tn k) md; omega
  refine cV_167 (as := []) (st := []) (mc := 1) (ms := 6) (kc := 1) (ks := 6) rfl (kx_tk_dec rfl dV_update) (hz2.is rV rfl) rfl rfl (Nat.le_of_ble_eq_true rfl) (cV_workOut (d := d + 1) (Z := Z.wA sc2 ia2) (L := (selL (cMt Z es tn k) md)) (vals := (cVl Z tn k)) (ES := ES) hst hz2 (show 1 - Z.fi < 2 by omega) hch.1 hlen (fun j r hr c hc => (hch.2 j r hr).2 c hc) (cSet_c hfr hset)) (fun o h' hq => ?_)
  rcases hq with ⟨rfl, -, sc3, ia3, hz3, hg3, hnv⟩ | ⟨⟨j, r, c, y1, y2, y3, y4⟩, -⟩
  · skip
    show kx_w _ _ _ _ _ _ _ _ _ _ _
    replace hz3 : cOk G m S A h' (Z.wA sc3 ia3) := hz3
    have hm3 : sc3 (rTab k) 2 = nI md := by rw [hg3.1 (rTab k) (show (14 : Nat) ≠ 7 by decide)]; exact hm2
    have hs3 : sc3 (rTab k) 3 = nI sc := by rw [hg3.1 (rTab k) (show (14 : Nat) ≠ 7 by decide)]; exact hs2
    have hb3 : sc3 rTr 1 = nI bg := by rw [hg3.1 rTr (show (2 : Nat) ≠ 7 by decide)]; exact hb2
    have hl3 : sc3 (rRs (1 - Z.fi)) 2 = nI (selL (cMt Z es tn k) md).length := by rw [hg3.1 (rRs (1 - Z.fi)) (show (10 : Nat) ≠ 7 by decide)]; exact hch.1
    have hnum : ∀ i r : Nat, (selL (cMt Z es tn k) md)[i]? = some r → (Z.wA sc3 ia3).ia (rNum (1 - (Z.wA sc3 ia3).fi)) i = nI r ∧ r < md := fun i r hr => ⟨by
      show ia3 (rNum (1 - Z.fi)) i = _
      rw [hg3.2.2 (rNum (1 - Z.fi)) (show (11 : Nat) ≠ 9 by decide) (show (11 : Nat) ≠ 6 by decide) (fun i _ => tag_ne (by decide))]; exact (hch.2 i r hr).1, (selL_lt hr).1⟩
    refine kx_rn dV_update 4 33 [(0, .ref (Z.ad rV)), (1, .int (nI tn)), (2, .int (nI k)), (3, .ref (Z.ad (rTab k)))] [.int 0, .ref (Z.ad (rTab k)), .int (nI tn), .ref (Z.ad rV)] rfl ?_
    have hu3 := uFr_g hfr hg3
    have hnm3 : cNm (Z.wA sc3 ia3) MD SC CL := fun k hk ht => by
      have y := hnm k hk ht
      have e : sc3 (rTab k) = Z.sc (rTab k) := hu3.1 (rTab k) (tag_ne (by decide)) (show (14 : Nat) ≠ 7 by decide)
      rw [← e] at y
      exact y
    have htr3 : sc3 rTr 2 = Z.sc rTr 2 := by rw [hu3.1 rTr (tag_ne (by decide)) (show (2 : Nat) ≠ 7 by decide)]
    refine cV_170 (as := [.int (nI tn), .ref (Z.ad (rTab k)), .int 0]) (st := []) (mc := 1) (ms := 6) (kc := 0) (ks := 0) rfl (kx_tk_dec rfl dV_update) (hz3.is rV rfl) rfl rfl (Nat.le_of_ble_eq_true rfl) (cV_write1 (d := d) (Z := Z.wA sc3 ia3) (gn := false) (L := (selL (cMt Z es tn k) md)) hst hz3 hnm3 hrw hk ht hmd2 hb3 hb40 ht1 ht2 (show 1 - Z.fi < 2 by omega) hl3 hlen hnum hlate) (fun o h' hq => ?_)
    obtain ⟨x, rfl, hx, V2, hz9, hV2⟩ := hq
    rw [show (Z.wA sc3 ia3).sc rTr 2 = Z.sc rTr 2 from htr3] at hz9
    exact kx_out (fun q hq => by cases hq) ⟨x, rfl, hx, sc3, ia3, V2, hz9, uFr_g hfr hg3, hV2⟩
  · exact absurd y4 (hfine j r c y1 y2 y3)
set_option maxRecDepth 100000 in
theorem cV_update6 {k md bg tn sc cl : Nat} {es : List Int32} {ES : Nat → List Int32} (hst : l.stackTraces = false) (hZ : cOk G m S A h Z) (hk : k < 3) (ht : Z.tb k = true) (hmd : Z.sc (rTab k) 2 = nI md) (hmd2 : md ≤ 24) (hbg : Z.sc rTr 1 = nI bg) (hb40 : bg ≤ 40) (ht1 : 1 ≤ tn) (ht2 : tn ≤ bg) (hts : Z.st tn = 1) (hpn : Z.sc (rPrg 0) 2 = nI es.length) (hok : okC es) (hF : prg (Z.ia (rStp 0)) es) (hsc : Z.sc (rTab k) 3 = nI sc) (hsc2 : sc ≤ 40) (hcl : Z.sc (rTab k) 0 = nI cl) (hcl4 : cl ≤ 4) (hbey : ∀ c, cl ≤ c → c < 4 → Z.pl (c + 1) = false) (hset : cSet Z ES) (hall : ∀ r, r < md → vdC Z es tn (24 * k + r) ≤ 1) (hbad : (∃ j r c : Nat, (selL (cMt Z es tn k) md)[j]? = some r ∧ c < 4 ∧ Z.pl (c + 1) = true ∧ lA (cVl Z tn k r) (ES c) = none)) :
    kx_c G l mV_update (d + 6) 1 6 [.ref (Z.ad rV), .int (nI tn), .int (nI k)] h (fun o h' => ∃ x, o = .threw x ∧ kx_is G h' x (.inr (13, [])) ∧ ∃ sc2 ia2, cOk G m S A h' (Z.wA sc2 ia2) ∧ uFr Z sc2 ia2) := by
  refine kx_in (by decide +kernel) (Nat.le_of_ble_eq_true rfl) hst ?_
  refine kx_rn dV_update 2 2 [(0, .ref (Z.ad rV)), (1, .int (nI tn)), (2, .int (nI k))] [.int (nI tn), .ref (Z.ad rV)] rfl ?_
  refine cV_110 (as := [.int (nI tn)]) (st := []) (mc := 0) (ms := 0) (kc := 1) (ks := 6) rfl (kx_tk_dec rfl dV_update) (hZ.is rV rfl) rfl rfl (Nat.le_of_ble_eq_true rfl) (cV_mustBeOpen0 (d := d + 4) hst hZ hbg hb40 ⟨tn, ht1, ht2, rfl, hts⟩) (fun o h' hq => ?_)
  obtain ⟨rfl, hz0⟩ := hq
  show kx_w _ _ _ _ _ _ _ _ _ _ _
  refine kx_rn dV_update 2 7 [(0, .ref (Z.ad rV)), (1, .int (nI tn)), (2, .int (nI k))] [.int (nI k), .ref (Z.ad rV)] rfl ?_
  refine cV_127 (as := [.int (nI k)]) (st := []) (mc := 0) (ms := 0) (kc := 1) (ks := 6) rfl (kx_tk_dec rfl dV_update) (hz0.is rV rfl) rfl rfl (Nat.le_of_ble_eq_true rfl) (cV_tableThere0 hst hz0 hk ht) (fun o h' hq => ?_)
  obtain ⟨rfl, hz1⟩ := hq
  show kx_w _ _ _ _ _ _ _ _ _ _ _
  refine kx_rn dV_update 3 13 [(0, .ref (Z.ad rV)), (1, .int (nI tn)), (2, .int (nI k)), (3, .ref (Z.ad (rTab k)))] [.ref (Z.ad (rTab k)), .ref (Z.ad rV)] rfl ?_
  refine pV_161 (v := .int (Z.sc (rTab k) 0)) rfl (kx_tk_dec rfl dV_update) (hz1.is (rTab k) ⟨hk, ht⟩) rfl ?_
  rw [hcl]
  refine cV_164 (as := [.int (nI cl)]) (st := []) (mc := 0) (ms := 0) (kc := 1) (ks := 6) rfl (kx_tk_dec rfl dV_update) (hz1.is rV rfl) rfl rfl (Nat.le_of_ble_eq_true rfl) (cV_refuse0 hst hz1 hcl4 hbey) (fun o h' hq => ?_)
  obtain ⟨rfl, hz1⟩ := hq
  show kx_w _ _ _ _ _ _ _ _ _ _ _
  refine kx_rn dV_update 3 22 [(0, .ref (Z.ad rV)), (1, .int (nI tn)), (2, .int (nI k)), (3, .ref (Z.ad (rTab k)))] [.ref (Z.ad (rTab k)), .int (nI tn), .ref (Z.ad rV)] rfl ?_
  refine cV_151 (as := [.int (nI tn), .ref (Z.ad (rTab k))]) (st := []) (mc := 0) (ms := 0) (kc := 1) (ks := 6) rfl (kx_tk_dec rfl dV_update) (hz1.is rV rfl) rfl rfl (Nat.le_of_ble_eq_true rfl) (cV_choose0 (d := d) hst hz1 hk ht hmd hmd2 hbg hb40 ht1 ht2 hpn hok hF hall) (fun o h' hq => ?_)
  obtain ⟨rfl, sc2, ia2, hz2, hfr, hch⟩ := hq
  show kx_w _ _ _ _ _ _ _ _ _ _ _
  have hm2 : sc2 (rTab k) 2 = nI md := by rw [hfr.1 (rTab k) (tag_ne (by decide)) (tag_ne (by decide))]; exact hmd
  have hs2 : sc2 (rTab k) 3 = nI sc := by rw [hfr.1 (rTab k) (tag_ne (by decide)) (tag_ne (by decide))]; exact hsc
  have hb2 : sc2 rTr 1 = nI bg := by rw [hfr.1 rTr (tag_ne (by decide)) (tag_ne (by decide))]; exact hbg
  refine kx_rn dV_update 1 26 [(0, .ref (Z.ad rV)), (1, .int (nI tn)), (2, .int (nI k)), (3, .ref (Z.ad (rTab k)))] [.ref (Z.ad rV)] rfl ?_
  have hlen : (selL (cMt Z es tn k) md).length ≤ 24 := by rw [selL_len]; have := cnt_le (cMt Z es tn k) md; omega
  refine cV_167 (as := []) (st := []) (mc := 1) (ms := 6) (kc := 0) (ks := 0) rfl (kx_tk_dec rfl dV_update) (hz2.is rV rfl) rfl rfl (Nat.le_of_ble_eq_true rfl) (cV_workOut (d := d + 1) (Z := Z.wA sc2 ia2) (L := (selL (cMt Z es tn k) md)) (vals := (cVl Z tn k)) (ES := ES) hst hz2 (show 1 - Z.fi < 2 by omega) hch.1 hlen (fun j r hr c hc => (hch.2 j r hr).2 c hc) (cSet_c hfr hset)) (fun o h' hq => ?_)
  rcases hq with ⟨-, hfn, -⟩ | ⟨-, x, rfl, hx, sc3, ia3, hz3, hg3⟩
  · obtain ⟨j, r, c, y1, y2, y3, y4⟩ := hbad
    exact absurd y4 (hfn j r c y1 y2 y3)
  · exact kx_out (fun q hq => by cases hq) ⟨x, rfl, hx, sc3, ia3, hz3, uFr_g hfr hg3⟩
end KC41
