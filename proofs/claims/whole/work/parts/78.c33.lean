/-! ===== the other side: versions swept, marked ===== -/
section KC33
variable {G : kx_G} {l : Launch} {d : Nat} {h : kx_H} {m : Nat} {S : Nat → Int32} {A : Nat → Nat → Int32} {Z : cZ}
set_option maxRecDepth 100000 in
theorem cV_versions0 {k j md : Nat} (hst : l.stackTraces = false) (hZ : cOk G m S A h Z) (hk : k < 3) (ht : Z.tb k = true) (hmd : Z.sc (rTab k) 2 = nI md) (hmd2 : md ≤ 24) (hj : j < md) :
    kx_c G l mV_versions (d + 2) 0 0 [.ref (Z.ad rV), .int (nI k), .int (nI j)] h (fun o h' => o = .returned (some (.int (nI (cnt (fun i => decide (¬ Z.V (40 * (24 * k + j) + i) = 0)) 40)))) ∧ cOk G m S A h' Z) := by
  refine kx_in (by decide +kernel) (Nat.le_of_ble_eq_true rfl) hst ?_
  have hrow : lvZ Z (rRow (24 * k + j)) := ⟨by show 24 * k + j < 72; omega, by show Z.tb ((24 * k + j) / 24) = true; rw [show (24 * k + j) / 24 = k by omega]; exact ht⟩
  have hbyw : lvZ Z (rByw (24 * k + j)) := hrow
  refine kx_rn dV_versions 2 2 [(0, .ref (Z.ad rV)), (1, .int (nI k)), (2, .int (nI j))] [.int (nI k), .ref (Z.ad rV)] rfl ?_
  refine cV_127 (as := [.int (nI k)]) (st := []) (mc := 0) (ms := 0) (kc := 0) (ks := 0) rfl (kx_tk_dec rfl dV_versions) (hZ.is rV rfl) rfl rfl (Nat.le_of_ble_eq_true rfl) (cV_tableThere0 hst hZ hk ht) (fun o h' hq => ?_)
  obtain ⟨rfl, hz0⟩ := hq
  show kx_w _ _ _ _ _ _ _ _ _ _ _
  refine kx_rn dV_versions 2 7 [(0, .ref (Z.ad rV)), (1, .int (nI k)), (2, .int (nI j)), (3, .ref (Z.ad (rTab k)))] [.int (nI j)] rfl ?_
  refine kx_if (tgt := 18) (kx_tk_dec rfl dV_versions) rfl (fun e7 => ?_) (fun e7 => ?_)
  · skip
    replace e7 : nI j < 0 := e7
    exact absurd e7 (nI_pos (by omega))
  · skip
    replace e7 : ¬ nI j < 0 := e7
    refine kx_rn dV_versions 2 12 [(0, .ref (Z.ad rV)), (1, .int (nI k)), (2, .int (nI j)), (3, .ref (Z.ad (rTab k)))] [.ref (Z.ad (rTab k)), .int (nI j)] rfl ?_
    refine pV_131 (v := .int (Z.sc (rTab k) 2)) rfl (kx_tk_dec rfl dV_versions) (hz0.is (rTab k) ⟨hk, ht⟩) rfl ?_
    rw [hmd]
    refine kx_ic (tgt := 28) (kx_tk_dec rfl dV_versions) rfl (fun e15 => ?_) (fun e15 => ?_)
    · skip
      replace e15 : nI j < nI md := e15
      replace e15 : j < md := (nI_ltI (a := j) (b := md) (by omega) (by omega)).mp e15
      refine kx_rn dV_versions 1 29 [(0, .ref (Z.ad rV)), (1, .int (nI k)), (2, .int (nI j)), (3, .ref (Z.ad (rTab k)))] [.ref (Z.ad (rTab k))] rfl ?_
      refine pV_207 (v := .ref (Z.ad (rRws k))) rfl (kx_tk_dec rfl dV_versions) (hz0.is (rTab k) ⟨hk, ht⟩) rfl ?_
      refine kx_rn dV_versions 1 33 [(0, .ref (Z.ad rV)), (1, .int (nI k)), (2, .int (nI j)), (3, .ref (Z.ad (rTab k)))] [.int (nI j), .ref (Z.ad (rRws k))] rfl ?_
      refine kx_qldN (x := some (Z.ad (rRow (24 * k + j)))) (i := j) rfl rfl (kx_tk_dec rfl dV_versions) (hz0.is (rRws k) ⟨hk, ht⟩) (by show j < 24; omega) (by decide) (if_pos (show j < 24 by omega)) ?_
      refine cV_211 (as := []) (st := []) (mc := 0) (ms := 0) (kc := 0) (ks := 0) rfl (kx_tk_dec rfl dV_versions) (hz0.is (rRow (24 * k + j)) hrow) rfl rfl (Nat.le_of_ble_eq_true rfl) (cR_size (d := d) (f := vrF Z (24 * k + j)) hst (hz0.is (rRow (24 * k + j)) hrow) (hz0.is (rByw (24 * k + j)) hbyw)) (fun o h' hq => ?_)
      obtain ⟨rfl, rfl⟩ := hq
      show kx_w _ _ _ _ _ _ _ _ _ _ _
      rw [show cnt (fun i => (vrF Z (24 * k + j) (i + 1)).isSome) 40 = cnt (fun i => decide (¬ Z.V (40 * (24 * k + j) + i) = 0)) 40 from cnt_congr (fun i hi => by rw [vrF_is (by omega) (by omega), Nat.add_sub_cancel])]
      refine kx_ret (ty := .int) (kx_tk_dec rfl dV_versions) rfl rfl ?_
      exact ⟨rfl, hz0⟩
    · skip
      replace e15 : ¬ nI j < nI md := e15
      replace e15 : ¬ j < md := fun z => e15 ((nI_ltI (a := j) (b := md) (by omega) (by omega)).mpr z)
      exfalso; omega
set_option maxRecDepth 100000 in
theorem cV_versions1 {k md : Nat} {r : Int32} (hst : l.stackTraces = false) (hZ : cOk G m S A h Z) (hk : k < 3) (ht : Z.tb k = true) (hmd : Z.sc (rTab k) 2 = nI md) (hmd2 : md ≤ 24) (hj : r < 0 ∨ ¬ r < nI md) :
    kx_c G l mV_versions (d + 2) 1 6 [.ref (Z.ad rV), .int (nI k), .int r] h (fun o h' => ∃ x, o = .threw x ∧ kx_is G h' x (.inr (11, [])) ∧ cOk G m S A h' Z) := by
  refine kx_in (by decide +kernel) (Nat.le_of_ble_eq_true rfl) hst ?_
  refine kx_rn dV_versions 2 2 [(0, .ref (Z.ad rV)), (1, .int (nI k)), (2, .int r)] [.int (nI k), .ref (Z.ad rV)] rfl ?_
  refine cV_127 (as := [.int (nI k)]) (st := []) (mc := 0) (ms := 0) (kc := 1) (ks := 6) rfl (kx_tk_dec rfl dV_versions) (hZ.is rV rfl) rfl rfl (Nat.le_of_ble_eq_true rfl) (cV_tableThere0 hst hZ hk ht) (fun o h' hq => ?_)
  obtain ⟨rfl, hz0⟩ := hq
  show kx_w _ _ _ _ _ _ _ _ _ _ _
  refine kx_rn dV_versions 2 7 [(0, .ref (Z.ad rV)), (1, .int (nI k)), (2, .int r), (3, .ref (Z.ad (rTab k)))] [.int r] rfl ?_
  refine kx_if (tgt := 18) (kx_tk_dec rfl dV_versions) rfl (fun e7 => ?_) (fun e7 => ?_)
  · skip
    replace e7 : r < 0 := e7
    refine xV_205 (kc := 0) (ks := 0) rfl dV_versions rfl rfl rfl rfl rfl (fun q hq => by cases hq) (Nat.le_of_ble_eq_true rfl) ?_
    exact ⟨_, rfl, cx_new hz0.b1 hz0.b2, cz_new hz0 _⟩
  · skip
    replace e7 : ¬ r < 0 := e7
    refine kx_rn dV_versions 2 12 [(0, .ref (Z.ad rV)), (1, .int (nI k)), (2, .int r), (3, .ref (Z.ad (rTab k)))] [.ref (Z.ad (rTab k)), .int r] rfl ?_
    refine pV_131 (v := .int (Z.sc (rTab k) 2)) rfl (kx_tk_dec rfl dV_versions) (hz0.is (rTab k) ⟨hk, ht⟩) rfl ?_
    rw [hmd]
    refine kx_ic (tgt := 28) (kx_tk_dec rfl dV_versions) rfl (fun e15 => ?_) (fun e15 => ?_)
    · skip
      replace e15 : r < nI md := e15
      exact absurd e15 (hj.resolve_left e7)
    · skip
      replace e15 : ¬ r < nI md := e15
      refine xV_205 (kc := 0) (ks := 0) rfl dV_versions rfl rfl rfl rfl rfl (fun q hq => by cases hq) (Nat.le_of_ble_eq_true rfl) ?_
      exact ⟨_, rfl, cx_new hz0.b1 hz0.b2, cz_new hz0 _⟩
set_option maxRecDepth 100000 in
theorem cV_versions2 {k r : Int32} (hst : l.stackTraces = false) (hZ : cOk G m S A h Z) (ht : ¬ cTb Z k) :
    kx_c G l mV_versions (d + 2) 1 6 [.ref (Z.ad rV), .int k, .int r] h (fun o h' => ∃ x, o = .threw x ∧ kx_is G h' x (.inr (11, [])) ∧ cOk G m S A h' Z) := by
  refine kx_in (by decide +kernel) (Nat.le_of_ble_eq_true rfl) hst ?_
  refine kx_rn dV_versions 2 2 [(0, .ref (Z.ad rV)), (1, .int k), (2, .int r)] [.int k, .ref (Z.ad rV)] rfl ?_
  refine cV_127 (as := [.int k]) (st := []) (mc := 1) (ms := 6) (kc := 0) (ks := 0) rfl (kx_tk_dec rfl dV_versions) (hZ.is rV rfl) rfl rfl (Nat.le_of_ble_eq_true rfl) (cV_tableThere1 hst hZ ht) (fun o h' hq => ?_)
  obtain ⟨x, rfl, hx, hz0⟩ := hq
  exact kx_out (fun q hq => by cases hq) ⟨x, rfl, hx, hz0⟩
def cKp (Z : cZ) (nw q : Nat) : Nat := hw (fun w => decide (¬ Z.V (40 * q + w - 1) = 0 ∧ Z.st w = 2)) nw
def cOut (Z : cZ) (nw q i : Nat) : Bool := decide (i + 1 < cKp Z nw q ∧ ¬ Z.V (40 * q + i) = 0 ∧ Z.st (i + 1) = 2)
theorem cKp_le (Z : cZ) (nw q : Nat) : cKp Z nw q ≤ nw := hw_le _ nw
theorem isx {Z : cZ} {bg t k : Nat} {z : Bool} (h : z = true ↔ ∃ tn, 1 ≤ tn ∧ tn ≤ bg ∧ nI t = nI tn ∧ Z.st tn = k + 1) (h1 : 1 ≤ t) (h2 : t ≤ bg) (h3 : bg ≤ 40) : z = decide (Z.st t = k + 1) := by
  by_cases e : Z.st t = k + 1
  · rw [decide_eq_true e]; exact h.mpr ⟨t, h1, h2, rfl, e⟩
  · rw [decide_eq_false e]
    refine kB_f (fun y => ?_)
    obtain ⟨tn, y1, y2, y3, y4⟩ := h.mp y
    have := (nI_eq (by omega) (by omega)).mp y3
    rw [this] at e
    exact e y4
set_option maxRecDepth 100000 in
theorem cV_sweepRow {q nw bg : Nat} (hst : l.stackTraces = false) (hZ : cOk G m S A h Z) (hq : lvZ Z (rRow q)) (hbg : Z.sc rTr 1 = nI bg) (hb40 : bg ≤ 40) (hnw : nw ≤ bg) :
    kx_c G l mV_sweepRow (d + 2) 0 0 [.ref (Z.ad rV), .ref (Z.ad (rRow q)), .int (nI nw)] h (fun o h' => o = .returned (some (.int (nI (cnt (cOut Z nw q) 40)))) ∧ ∃ V2, cOk G m S A h' (Z.wV V2) ∧ ∀ v, V2 v = if v / 40 = q ∧ cOut Z nw q (v % 40) = true then 0 else Z.V v) := by
  refine kx_in (by decide +kernel) (Nat.le_of_ble_eq_true rfl) hst ?_
  have hkl := cKp_le Z nw q
  have lp2 : ∀ n (j c : Nat) (h2 : kx_H) (V2 : Nat → Nat), cKp Z nw q ≤ j + 1 + n → j ≤ 40 → c = cnt (cOut Z nw q) j → cOk G m S A h2 (Z.wV V2) → (∀ v, V2 v = if v / 40 = q ∧ v % 40 + 1 < j + 1 ∧ cOut Z nw q (v % 40) = true then 0 else Z.V v) → kx_w G l mV_sweepRow (d + 2) (fun o h' => o = .returned (some (.int (nI (cnt (cOut Z nw q) 40)))) ∧ ∃ V2, cOk G m S A h' (Z.wV V2) ∧ ∀ v, V2 v = if v / 40 = q ∧ cOut Z nw q (v % 40) = true then 0 else Z.V v) 0 0 40 [(0, .ref (Z.ad rV)), (1, .ref (Z.ad (rRow q))), (2, .int (nI nw)), (3, .int (nI (cKp Z nw q))), (4, .int (nI c)), (5, .int (nI (j + 1)))] [] h2 := by
    intro n
    induction n with
    | zero =>
      intro j c h2 V2 hj hj40 hc hz2 hV2
      refine kx_rn dV_sweepRow 2 43 [(0, .ref (Z.ad rV)), (1, .ref (Z.ad (rRow q))), (2, .int (nI nw)), (3, .int (nI (cKp Z nw q))), (4, .int (nI c)), (5, .int (nI (j + 1)))] [.int (nI (cKp Z nw q)), .int (nI (j + 1))] rfl ?_
      refine kx_ic (tgt := 78) (kx_tk_dec rfl dV_sweepRow) rfl (fun e43 => ?_) (fun e43 => ?_)
      · skip
        replace e43 : nI (cKp Z nw q) ≤ nI (j + 1) := e43
        replace e43 : cKp Z nw q ≤ j + 1 := (nI_leI (a := cKp Z nw q) (b := j + 1) (by omega) (by omega)).mp e43
        refine kx_rn dV_sweepRow 1 80 [(0, .ref (Z.ad rV)), (1, .ref (Z.ad (rRow q))), (2, .int (nI nw)), (3, .int (nI (cKp Z nw q))), (4, .int (nI c)), (5, .int (nI (j + 1)))] [.int (nI c)] rfl ?_
        refine kx_ret (ty := .int) (kx_tk_dec rfl dV_sweepRow) rfl rfl ?_
        have hrest : cnt (cOut Z nw q) 40 = cnt (cOut Z nw q) j := by
          obtain ⟨r, hr⟩ : ∃ r, 40 = j + r := ⟨40 - j, by omega⟩
          rw [hr, cnt_add, show cnt (fun i => cOut Z nw q (j + i)) r = 0 from cnt_z (fun i hi => decide_eq_false (fun z => by omega)), Nat.add_zero]
        rw [hrest, ← hc]
        refine ⟨rfl, V2, hz2, fun v => ?_⟩
        rw [hV2]
        by_cases y : v / 40 = q ∧ cOut Z nw q (v % 40) = true
        · have := (of_decide_eq_true y.2).1
          rw [if_pos y, if_pos ⟨y.1, by omega, y.2⟩]
        · rw [if_neg y, if_neg (fun z => y ⟨z.1, z.2.2⟩)]
      · skip
        replace e43 : ¬ nI (cKp Z nw q) ≤ nI (j + 1) := e43
        replace e43 : ¬ cKp Z nw q ≤ j + 1 := fun z => e43 ((nI_leI (a := cKp Z nw q) (b := j + 1) (by omega) (by omega)).mpr z)
        exfalso; omega
    | succ n ih =>
      intro j c h2 V2 hj hj40 hc hz2 hV2
      have hcl := cnt_le (cOut Z nw q) j
      have hkl := cKp_le Z nw q
      refine kx_rn dV_sweepRow 2 43 [(0, .ref (Z.ad rV)), (1, .ref (Z.ad (rRow q))), (2, .int (nI nw)), (3, .int (nI (cKp Z nw q))), (4, .int (nI c)), (5, .int (nI (j + 1)))] [.int (nI (cKp Z nw q)), .int (nI (j + 1))] rfl ?_
      refine kx_ic (tgt := 78) (kx_tk_dec rfl dV_sweepRow) rfl (fun e43 => ?_) (fun e43 => ?_)
      · skip
        replace e43 : nI (cKp Z nw q) ≤ nI (j + 1) := e43
        replace e43 : cKp Z nw q ≤ j + 1 := (nI_leI (a := cKp Z nw q) (b := j + 1) (by omega) (by omega)).mp e43
        refine kx_rn dV_sweepRow 1 80 [(0, .ref (Z.ad rV)), (1, .ref (Z.ad (rRow q))), (2, .int (nI nw)), (3, .int (nI (cKp Z nw q))), (4, .int (nI c)), (5, .int (nI (j + 1)))] [.int (nI c)] rfl ?_
        refine kx_ret (ty := .int) (kx_tk_dec rfl dV_sweepRow) rfl rfl ?_
        have hrest : cnt (cOut Z nw q) 40 = cnt (cOut Z nw q) j := by
          obtain ⟨r, hr⟩ : ∃ r, 40 = j + r := ⟨40 - j, by omega⟩
          rw [hr, cnt_add, show cnt (fun i => cOut Z nw q (j + i)) r = 0 from cnt_z (fun i hi => decide_eq_false (fun z => by omega)), Nat.add_zero]
        rw [hrest, ← hc]
        refine ⟨rfl, V2, hz2, fun v => ?_⟩
        rw [hV2]
        by_cases y : v / 40 = q ∧ cOut Z nw q (v % 40) = true
        · have := (of_decide_eq_true y.2).1
          rw [if_pos y, if_pos ⟨y.1, by omega, y.2⟩]
        · rw [if_neg y, if_neg (fun z => y ⟨z.1, z.2.2⟩)]
      · skip
        replace e43 : ¬ nI (cKp Z nw q) ≤ nI (j + 1) := e43
        replace e43 : ¬ cKp Z nw q ≤ j + 1 := fun z => e43 ((nI_leI (a := cKp Z nw q) (b := j + 1) (by omega) (by omega)).mpr z)
        refine kx_rn dV_sweepRow 1 47 [(0, .ref (Z.ad rV)), (1, .ref (Z.ad (rRow q))), (2, .int (nI nw)), (3, .int (nI (cKp Z nw q))), (4, .int (nI c)), (5, .int (nI (j + 1)))] [.ref (Z.ad rV)] rfl ?_
        refine pV_18 (v := .ref (Z.ad rTr)) rfl (kx_tk_dec rfl dV_sweepRow) (hz2.is rV rfl) rfl ?_
        refine kx_rn dV_sweepRow 1 52 [(0, .ref (Z.ad rV)), (1, .ref (Z.ad (rRow q))), (2, .int (nI nw)), (3, .int (nI (cKp Z nw q))), (4, .int (nI c)), (5, .int (nI (j + 1)))] [.int (nI (j + 1)), .ref (Z.ad rTr)] rfl ?_
        refine pV_113 rfl (kx_tk_dec rfl dV_sweepRow) ?_
        have htr : kx_is G h2 (Z.ad rTr) (.inr (1, [.ref (Z.ad rSts), .int (nI bg), .int (Z.sc rTr 2)])) := by rw [← hbg]; exact hz2.is rTr rfl
        refine cV_236 (as := [.int (nI (j + 1)), .ref (G.2.2.2.1 1)]) (st := []) (mc := 0) (ms := 0) (kc := 0) (ks := 0) rfl (kx_tk_dec rfl dV_sweepRow) (hz2.is rTr rfl) rfl rfl (Nat.le_of_ble_eq_true rfl) (cT_is (k := 1) (S6 := Z.st) hst htr (hz2.is rSts rfl) hz2.wf.stc hb40 (by decide)) (fun o h' hq => ?_)
        obtain ⟨z2, rfl, hhe, hzz⟩ := hq
        subst h'
        show kx_w _ _ _ _ _ _ _ _ _ _ _
        rw [isx (Z := Z) hzz (by omega) (by omega) hb40]
        refine kx_if (tgt := 72) (kx_tk_dec rfl dV_sweepRow) rfl (fun e58 => ?_) (fun e58 => ?_)
        · skip
          replace e58 : b01 (decide (Z.st ((j + 1)) = 1 + 1)) = 0 := e58
          replace e58 : decide (Z.st ((j + 1)) = 1 + 1) = false := b01_f e58
          refine kx_rn dV_sweepRow 2 40 [(0, .ref (Z.ad rV)), (1, .ref (Z.ad (rRow q))), (2, .int (nI nw)), (3, .int (nI (cKp Z nw q))), (4, .int (nI c)), (5, .int ((nI (j + 1)) + 1))] [] rfl ?_
          rw [show (nI (j + 1)) + 1 = nI ((j + 1) + 1) from kn_ad rfl rfl]
          have hou : cOut Z nw q j = false := decide_eq_false (fun z => by rw [z.2.2] at e58; exact absurd e58 (by decide))
          refine ih (j + 1) _ h2 V2 (by omega) (by omega) (cnt_n hc hou) hz2 (fun v => ?_)
          rw [hV2]
          by_cases y : v / 40 = q ∧ v % 40 + 1 < j + 1 ∧ cOut Z nw q (v % 40) = true
          · rw [if_pos y, if_pos ⟨y.1, by omega, y.2.2⟩]
          · rw [if_neg y]
            by_cases y2 : v / 40 = q ∧ v % 40 + 1 < j + 1 + 1 ∧ cOut Z nw q (v % 40) = true
            · have hvj : v % 40 = j := by
                have := y2.2.1
                by_cases z : v % 40 = j
                · exact z
                · exact absurd ⟨y2.1, by omega, y2.2.2⟩ y
              rw [hvj, hou] at y2; exact absurd y2.2.2 (by decide)
            · rw [if_neg y2]
        · skip
          replace e58 : ¬ b01 (decide (Z.st ((j + 1)) = 1 + 1)) = 0 := e58
          replace e58 : decide (Z.st ((j + 1)) = 1 + 1) = true := b01_t e58
          refine kx_rn dV_sweepRow 3 66 [(0, .ref (Z.ad rV)), (1, .ref (Z.ad (rRow q))), (2, .int (nI nw)), (3, .int (nI (cKp Z nw q))), (4, .int (nI c)), (5, .int (nI (j + 1)))] [.int (nI (j + 1)), .ref (Z.ad (rRow q)), .int (nI c)] rfl ?_
          refine cV_310 (as := [.int (nI (j + 1))]) (st := [.int (nI c)]) (mc := 0) (ms := 0) (kc := 0) (ks := 0) rfl (kx_tk_dec rfl dV_sweepRow) (hz2.is (rRow q) hq) rfl rfl (Nat.le_of_ble_eq_true rfl) (cR_drop (d := d) (f := vrF (Z.wV V2) q) hst (hz2.is (rRow q) hq) (hz2.is (rByw q) hq) (by omega)) (fun o h' hq => ?_)
          obtain ⟨rfl, rfl⟩ := hq
          show kx_w _ _ _ _ _ _ _ _ _ _ _
          rw [vrF_is (by omega) (by omega), b01_bn]
          refine cw_go (cz_drop hz2 hq ⟨by omega, by omega⟩ rfl) (fun h3 hz3 => ?_)
          have hbn := bn_le (decide (¬ (Z.wV V2).V (40 * q + (j + 1 - 1)) = 0))
          refine kx_rn dV_sweepRow 4 40 [(0, .ref (Z.ad rV)), (1, .ref (Z.ad (rRow q))), (2, .int (nI nw)), (3, .int (nI (cKp Z nw q))), (4, .int ((nI c) + (nI (bn (decide (¬ (Z.wV V2).V (40 * q + (j + 1 - 1)) = 0)))))), (5, .int ((nI (j + 1)) + 1))] [] rfl ?_
          rw [show (nI c) + (nI (bn (decide (¬ (Z.wV V2).V (40 * q + (j + 1 - 1)) = 0)))) = nI (c + (bn (decide (¬ (Z.wV V2).V (40 * q + (j + 1 - 1)) = 0)))) from kn_ad rfl rfl]
          rw [show (nI (j + 1)) + 1 = nI ((j + 1) + 1) from kn_ad rfl rfl]
          have hvj : V2 (40 * q + j) = Z.V (40 * q + j) := by rw [hV2, if_neg (by omega)]
          have hou : cOut Z nw q j = decide (¬ Z.V (40 * q + j) = 0) := by
            unfold cOut
            by_cases z : Z.V (40 * q + j) = 0
            · rw [decide_eq_false (fun y => y.2.1 z), decide_eq_false (fun y => y z)]
            · rw [decide_eq_true ⟨by omega, z, of_decide_eq_true e58⟩, decide_eq_true z]
          refine ih (j + 1) _ h3 (va_up V2 (40 * q + (j + 1 - 1)) 0) (by omega) (by omega) ?_ hz3 (fun v => ?_)
          · rw [cnt_s, ← hc, hou]
            show c + bn (decide (¬ V2 (40 * q + (j + 1 - 1)) = 0)) = _
            rw [show j + 1 - 1 = j by omega, hvj]
          · simp only [va_up]
            by_cases z : v = 40 * q + (j + 1 - 1)
            · rw [if_pos z]
              have h1 : v / 40 = q ∧ v % 40 = j := by omega
              by_cases y : Z.V (40 * q + j) = 0
              · split
                · rfl
                · rw [show v = 40 * q + j by omega, y]
              · rw [if_pos ⟨h1.1, by omega, by rw [h1.2, hou, decide_eq_true y]⟩]
            · rw [if_neg z, hV2]
              by_cases y : v / 40 = q ∧ v % 40 + 1 < j + 1 ∧ cOut Z nw q (v % 40) = true
              · rw [if_pos y, if_pos ⟨y.1, by omega, y.2.2⟩]
              · rw [if_neg y, if_neg (fun y2 => y ⟨y2.1, by omega, y2.2.2⟩)]
  have lp1 : ∀ i : Nat, i ≤ nw → hw (fun w => decide (¬ Z.V (40 * q + w - 1) = 0 ∧ Z.st w = 2)) i = cKp Z nw q → kx_w G l mV_sweepRow (d + 2) (fun o h' => o = .returned (some (.int (nI (cnt (cOut Z nw q) 40)))) ∧ ∃ V2, cOk G m S A h' (Z.wV V2) ∧ ∀ v, V2 v = if v / 40 = q ∧ cOut Z nw q (v % 40) = true then 0 else Z.V v) 0 0 2 [(0, .ref (Z.ad rV)), (1, .ref (Z.ad (rRow q))), (2, .int (nI nw)), (3, .int (nI i))] [] h := by
    intro i
    induction i with
    | zero =>
      intro hi hres
      refine kx_rn dV_sweepRow 1 3 [(0, .ref (Z.ad rV)), (1, .ref (Z.ad (rRow q))), (2, .int (nI nw)), (3, .int (nI 0))] [.int (nI 0)] rfl ?_
      refine kx_if (tgt := 34) (kx_tk_dec rfl dV_sweepRow) rfl (fun e3 => ?_) (fun e3 => ?_)
      · skip
        replace e3 : nI 0 ≤ 0 := e3
        replace e3 : 0 ≤ 0 := (nI_leI (a := 0) (b := 0) (by omega) (by omega)).mp e3
        have hkp : cKp Z nw q = 0 := hres.symm
        rw [show nI 0 = nI (cKp Z nw q) by rw [hkp]]
        refine kx_rn dV_sweepRow 4 40 [(0, .ref (Z.ad rV)), (1, .ref (Z.ad (rRow q))), (2, .int (nI nw)), (3, .int (nI (cKp Z nw q))), (4, .int 0), (5, .int 1)] [] rfl ?_
        exact lp2 (cKp Z nw q) 0 0 h Z.V (by omega) (by omega) rfl hZ (fun v => by rw [if_neg (by omega)])
      · skip
        replace e3 : ¬ nI 0 ≤ 0 := e3
        replace e3 : ¬ 0 ≤ 0 := fun z => e3 ((nI_leI (a := 0) (b := 0) (by omega) (by omega)).mpr z)
        exfalso; omega
    | succ i ih =>
      intro hi hres
      refine kx_rn dV_sweepRow 1 3 [(0, .ref (Z.ad rV)), (1, .ref (Z.ad (rRow q))), (2, .int (nI nw)), (3, .int (nI (i + 1)))] [.int (nI (i + 1))] rfl ?_
      refine kx_if (tgt := 34) (kx_tk_dec rfl dV_sweepRow) rfl (fun e3 => ?_) (fun e3 => ?_)
      · skip
        replace e3 : nI (i + 1) ≤ 0 := e3
        replace e3 : i + 1 ≤ 0 := (nI_leI (a := i + 1) (b := 0) (by omega) (by omega)).mp e3
        exfalso; omega
      · skip
        replace e3 : ¬ nI (i + 1) ≤ 0 := e3
        replace e3 : ¬ i + 1 ≤ 0 := fun z => e3 ((nI_leI (a := i + 1) (b := 0) (by omega) (by omega)).mpr z)
        refine kx_rn dV_sweepRow 2 8 [(0, .ref (Z.ad rV)), (1, .ref (Z.ad (rRow q))), (2, .int (nI nw)), (3, .int (nI (i + 1)))] [.int (nI (i + 1)), .ref (Z.ad (rRow q))] rfl ?_
        refine cV_306 (as := [.int (nI (i + 1))]) (st := []) (mc := 0) (ms := 0) (kc := 0) (ks := 0) rfl (kx_tk_dec rfl dV_sweepRow) (hZ.is (rRow q) hq) rfl rfl (Nat.le_of_ble_eq_true rfl) (cR_has (f := vrF Z q) hst (hZ.is (rRow q) hq) (hZ.is (rByw q) hq) (by omega)) (fun o h' hq => ?_)
        obtain ⟨rfl, hhe⟩ := hq
        subst h'
        show kx_w _ _ _ _ _ _ _ _ _ _ _
        rw [vrF_is (by omega) (by omega)]
        refine kx_if (tgt := 28) (kx_tk_dec rfl dV_sweepRow) rfl (fun e11 => ?_) (fun e11 => ?_)
        · skip
          replace e11 : b01 (decide (¬ Z.V (40 * q + (i + 1 - 1)) = 0)) = 0 := e11
          replace e11 : decide (¬ Z.V (40 * q + (i + 1 - 1)) = 0) = false := b01_f e11
          refine kx_rn dV_sweepRow 2 2 [(0, .ref (Z.ad rV)), (1, .ref (Z.ad (rRow q))), (2, .int (nI nw)), (3, .int ((nI (i + 1)) + (-1)))] [] rfl ?_
          rw [show (nI (i + 1)) + (-1) = nI ((i + 1) - 1) from kn_sa rfl rfl (by omega)]
          refine ih (by omega) ?_
          rw [← hres]; simp only [hw]
          rw [if_neg (fun z => by have := (of_decide_eq_true z).1; rw [decide_eq_true (p := ¬ Z.V (40 * q + (i + 1 - 1)) = 0) this] at e11; cases e11)]
        · skip
          replace e11 : ¬ b01 (decide (¬ Z.V (40 * q + (i + 1 - 1)) = 0)) = 0 := e11
          replace e11 : decide (¬ Z.V (40 * q + (i + 1 - 1)) = 0) = true := b01_t e11
          refine kx_rn dV_sweepRow 1 15 [(0, .ref (Z.ad rV)), (1, .ref (Z.ad (rRow q))), (2, .int (nI nw)), (3, .int (nI (i + 1)))] [.ref (Z.ad rV)] rfl ?_
          refine pV_18 (v := .ref (Z.ad rTr)) rfl (kx_tk_dec rfl dV_sweepRow) (hZ.is rV rfl) rfl ?_
          refine kx_rn dV_sweepRow 1 19 [(0, .ref (Z.ad rV)), (1, .ref (Z.ad (rRow q))), (2, .int (nI nw)), (3, .int (nI (i + 1)))] [.int (nI (i + 1)), .ref (Z.ad rTr)] rfl ?_
          refine pV_113 rfl (kx_tk_dec rfl dV_sweepRow) ?_
          have htr : kx_is G h (Z.ad rTr) (.inr (1, [.ref (Z.ad rSts), .int (nI bg), .int (Z.sc rTr 2)])) := by rw [← hbg]; exact hZ.is rTr rfl
          refine cV_236 (as := [.int (nI (i + 1)), .ref (G.2.2.2.1 1)]) (st := []) (mc := 0) (ms := 0) (kc := 0) (ks := 0) rfl (kx_tk_dec rfl dV_sweepRow) (hZ.is rTr rfl) rfl rfl (Nat.le_of_ble_eq_true rfl) (cT_is (k := 1) (S6 := Z.st) hst htr (hZ.is rSts rfl) hZ.wf.stc hb40 (by decide)) (fun o h' hq => ?_)
          obtain ⟨z1, rfl, hhe, hzz⟩ := hq
          subst h'
          show kx_w _ _ _ _ _ _ _ _ _ _ _
          rw [isx (Z := Z) hzz (by omega) (by omega) hb40]
          refine kx_if (tgt := 34) (kx_tk_dec rfl dV_sweepRow) rfl (fun e25 => ?_) (fun e25 => ?_)
          · skip
            replace e25 : ¬ b01 (decide (Z.st ((i + 1)) = 1 + 1)) = 0 := e25
            replace e25 : decide (Z.st ((i + 1)) = 1 + 1) = true := b01_t e25
            have hkp : cKp Z nw q = i + 1 := by
              rw [← hres]; simp only [hw]
              rw [if_pos (decide_eq_true ⟨of_decide_eq_true e11, of_decide_eq_true e25⟩)]
            rw [← hkp]
            refine kx_rn dV_sweepRow 4 40 [(0, .ref (Z.ad rV)), (1, .ref (Z.ad (rRow q))), (2, .int (nI nw)), (3, .int (nI (cKp Z nw q))), (4, .int 0), (5, .int 1)] [] rfl ?_
            exact lp2 (cKp Z nw q) 0 0 h Z.V (by omega) (by omega) rfl hZ (fun v => by rw [if_neg (by omega)])
          · skip
            replace e25 : b01 (decide (Z.st ((i + 1)) = 1 + 1)) = 0 := e25
            replace e25 : decide (Z.st ((i + 1)) = 1 + 1) = false := b01_f e25
            refine kx_rn dV_sweepRow 2 2 [(0, .ref (Z.ad rV)), (1, .ref (Z.ad (rRow q))), (2, .int (nI nw)), (3, .int ((nI (i + 1)) + (-1)))] [] rfl ?_
            rw [show (nI (i + 1)) + (-1) = nI ((i + 1) - 1) from kn_sa rfl rfl (by omega)]
            refine ih (by omega) ?_
            rw [← hres]; simp only [hw]
            rw [if_neg (fun z => by have := (of_decide_eq_true z).2; rw [decide_eq_true (p := Z.st (i + 1) = 1 + 1) this] at e25; cases e25)]
  refine kx_rn dV_sweepRow 2 2 [(0, .ref (Z.ad rV)), (1, .ref (Z.ad (rRow q))), (2, .int (nI nw)), (3, .int (nI nw))] [] rfl ?_
  exact lp1 nw (Nat.le_refl _) rfl
theorem cOut_wV {Z : cZ} {V2 : Nat → Nat} {nw q : Nat} (h : ∀ i, i < 40 → V2 (40 * q + i) = Z.V (40 * q + i)) (hn : nw ≤ 40) : ∀ i, i < 40 → cOut (Z.wV V2) nw q i = cOut Z nw q i := by
  have hk : cKp (Z.wV V2) nw q = cKp Z nw q := hw_congr (fun w h1 h2 => by
    show decide (¬ V2 (40 * q + w - 1) = 0 ∧ Z.st w = 2) = _
    rw [show 40 * q + w - 1 = 40 * q + (w - 1) by omega, h (w - 1) (by omega)])
  intro i hi
  unfold cOut
  rw [hk]
  refine decide_eq_decide.mpr ?_
  show (i + 1 < cKp Z nw q ∧ ¬ V2 (40 * q + i) = 0 ∧ Z.st (i + 1) = 2) ↔ _
  rw [h i hi]
set_option maxRecDepth 100000 in
theorem cV_sweep {k nw bg md : Nat} (hst : l.stackTraces = false) (hZ : cOk G m S A h Z) (hk : k < 3) (ht : Z.tb k = true) (hmd : Z.sc (rTab k) 2 = nI md) (hmd2 : md ≤ 24) (hbg : Z.sc rTr 1 = nI bg) (hb40 : bg ≤ 40) (hnw : nw ≤ bg) :
    kx_c G l mV_sweep (d + 3) 0 0 [.ref (Z.ad rV), .ref (Z.ad (rTab k)), .int (nI nw)] h (fun o h' => o = .returned (some (.int (nI (nsum (fun r => cnt (cOut Z nw (24 * k + r)) 40) md)))) ∧ ∃ V2, cOk G m S A h' (Z.wV V2) ∧ ∀ v, V2 v = if 24 * k ≤ v / 40 ∧ v / 40 < 24 * k + md ∧ cOut Z nw (v / 40) (v % 40) = true then 0 else Z.V v) := by
  refine kx_in (by decide +kernel) (Nat.le_of_ble_eq_true rfl) hst ?_
  have loop : ∀ n (j c : Nat) (h2 : kx_H) (V2 : Nat → Nat), j + n = md → c = nsum (fun r => cnt (cOut Z nw (24 * k + r)) 40) j → cOk G m S A h2 (Z.wV V2) → (∀ v, V2 v = if 24 * k ≤ v / 40 ∧ v / 40 < 24 * k + j ∧ cOut Z nw (v / 40) (v % 40) = true then 0 else Z.V v) → kx_w G l mV_sweep (d + 3) (fun o h' => o = .returned (some (.int (nI (nsum (fun r => cnt (cOut Z nw (24 * k + r)) 40) md)))) ∧ ∃ V2, cOk G m S A h' (Z.wV V2) ∧ ∀ v, V2 v = if 24 * k ≤ v / 40 ∧ v / 40 < 24 * k + md ∧ cOut Z nw (v / 40) (v % 40) = true then 0 else Z.V v) 0 0 5 [(0, .ref (Z.ad rV)), (1, .ref (Z.ad (rTab k))), (2, .int (nI nw)), (3, .int (nI c)), (4, .int (nI j))] [] h2 := by
    intro n
    induction n with
    | zero =>
      intro j c h2 V2 hj hc hz2 hV2
      refine kx_rn dV_sweep 2 8 [(0, .ref (Z.ad rV)), (1, .ref (Z.ad (rTab k))), (2, .int (nI nw)), (3, .int (nI c)), (4, .int (nI j))] [.ref (Z.ad (rTab k)), .int (nI j)] rfl ?_
      refine pV_131 (v := .int (Z.sc (rTab k) 2)) rfl (kx_tk_dec rfl dV_sweep) (hz2.is (rTab k) ⟨hk, ht⟩) rfl ?_
      rw [hmd]
      refine kx_ic (tgt := 35) (kx_tk_dec rfl dV_sweep) rfl (fun e11 => ?_) (fun e11 => ?_)
      · skip
        replace e11 : nI md ≤ nI j := e11
        replace e11 : md ≤ j := (nI_leI (a := md) (b := j) (by omega) (by omega)).mp e11
        refine kx_rn dV_sweep 1 36 [(0, .ref (Z.ad rV)), (1, .ref (Z.ad (rTab k))), (2, .int (nI nw)), (3, .int (nI c)), (4, .int (nI j))] [.int (nI c)] rfl ?_
        refine kx_ret (ty := .int) (kx_tk_dec rfl dV_sweep) rfl rfl ?_
        rw [hc, show j = md by omega]; exact ⟨rfl, V2, hz2, fun v => by rw [hV2, show j = md by omega]⟩
      · skip
        replace e11 : ¬ nI md ≤ nI j := e11
        replace e11 : ¬ md ≤ j := fun z => e11 ((nI_leI (a := md) (b := j) (by omega) (by omega)).mpr z)
        exfalso; omega
    | succ n ih =>
      intro j c h2 V2 hj hc hz2 hV2
      have hcl := nsum_le40 (f := (fun r => cnt (cOut Z nw (24 * k + r)) 40)) (fun r => cnt_le _ 40) j
      have hjm : j < md := by omega
      have hrow : lvZ Z (rRow (24 * k + j)) := ⟨by show 24 * k + j < 72; omega, by show Z.tb ((24 * k + j) / 24) = true; rw [show (24 * k + j) / 24 = k by omega]; exact ht⟩
      have hbyw : lvZ Z (rByw (24 * k + j)) := hrow
      refine kx_rn dV_sweep 2 8 [(0, .ref (Z.ad rV)), (1, .ref (Z.ad (rTab k))), (2, .int (nI nw)), (3, .int (nI c)), (4, .int (nI j))] [.ref (Z.ad (rTab k)), .int (nI j)] rfl ?_
      refine pV_131 (v := .int (Z.sc (rTab k) 2)) rfl (kx_tk_dec rfl dV_sweep) (hz2.is (rTab k) ⟨hk, ht⟩) rfl ?_
      rw [hmd]
      refine kx_ic (tgt := 35) (kx_tk_dec rfl dV_sweep) rfl (fun e11 => ?_) (fun e11 => ?_)
      · skip
        replace e11 : nI md ≤ nI j := e11
        replace e11 : md ≤ j := (nI_leI (a := md) (b := j) (by omega) (by omega)).mp e11
        exfalso; omega
      · skip
        replace e11 : ¬ nI md ≤ nI j := e11
        replace e11 : ¬ md ≤ j := fun z => e11 ((nI_leI (a := md) (b := j) (by omega) (by omega)).mpr z)
        refine kx_rn dV_sweep 3 17 [(0, .ref (Z.ad rV)), (1, .ref (Z.ad (rTab k))), (2, .int (nI nw)), (3, .int (nI c)), (4, .int (nI j))] [.ref (Z.ad (rTab k)), .ref (Z.ad rV), .int (nI c)] rfl ?_
        refine pV_207 (v := .ref (Z.ad (rRws k))) rfl (kx_tk_dec rfl dV_sweep) (hz2.is (rTab k) ⟨hk, ht⟩) rfl ?_
        refine kx_rn dV_sweep 1 22 [(0, .ref (Z.ad rV)), (1, .ref (Z.ad (rTab k))), (2, .int (nI nw)), (3, .int (nI c)), (4, .int (nI j))] [.int (nI j), .ref (Z.ad (rRws k)), .ref (Z.ad rV), .int (nI c)] rfl ?_
        refine kx_qldN (x := some (Z.ad (rRow (24 * k + j)))) (i := j) rfl rfl (kx_tk_dec rfl dV_sweep) (hz2.is (rRws k) ⟨hk, ht⟩) (by show j < 24; omega) (by decide) (if_pos (show j < 24 by omega)) ?_
        refine kx_rn dV_sweep 1 24 [(0, .ref (Z.ad rV)), (1, .ref (Z.ad (rTab k))), (2, .int (nI nw)), (3, .int (nI c)), (4, .int (nI j))] [.int (nI nw), .ref (Z.ad (rRow (24 * k + j))), .ref (Z.ad rV), .int (nI c)] rfl ?_
        refine cV_302 (as := [.ref (Z.ad (rRow (24 * k + j))), .int (nI nw)]) (st := [.int (nI c)]) (mc := 0) (ms := 0) (kc := 0) (ks := 0) rfl (kx_tk_dec rfl dV_sweep) (hz2.is rV rfl) rfl rfl (Nat.le_of_ble_eq_true rfl) (cV_sweepRow (d := d) (Z := Z.wV V2) hst hz2 hrow hbg hb40 hnw) (fun o h' hq => ?_)
        obtain ⟨rfl, V3, hz3, hV3⟩ := hq
        show kx_w _ _ _ _ _ _ _ _ _ _ _
        have hou := cOut_wV (Z := Z) (V2 := V2) (nw := nw) (q := 24 * k + j) (fun i hi => by rw [hV2, if_neg (by omega)]) (by omega)
        rw [show cnt (cOut (Z.wV V2) nw (24 * k + j)) 40 = cnt (cOut Z nw (24 * k + j)) 40 from cnt_congr hou]
        have hcl2 := cnt_le (cOut Z nw (24 * k + j)) 40
        refine kx_rn dV_sweep 4 5 [(0, .ref (Z.ad rV)), (1, .ref (Z.ad (rTab k))), (2, .int (nI nw)), (3, .int ((nI c) + (nI (cnt (cOut Z nw (24 * k + j)) 40)))), (4, .int ((nI j) + 1))] [] rfl ?_
        rw [show (nI c) + (nI (cnt (cOut Z nw (24 * k + j)) 40)) = nI (c + (cnt (cOut Z nw (24 * k + j)) 40)) from kn_ad rfl rfl]
        rw [show (nI j) + 1 = nI (j + 1) from kn_ad rfl rfl]
        refine ih (j + 1) _ h' V3 (by omega) (by rw [hc]; rfl) hz3 (fun v => ?_)
        rw [hV3]
        show (if _ then 0 else V2 v) = _
        rw [hV2]
        by_cases y : v / 40 = 24 * k + j
        · have ho := hou (v % 40) (by omega)
          rw [if_neg (show ¬ (24 * k ≤ v / 40 ∧ v / 40 < 24 * k + j ∧ cOut Z nw (v / 40) (v % 40) = true) by omega), ho]
          by_cases y2 : cOut Z nw (24 * k + j) (v % 40) = true
          · rw [if_pos ⟨y, y2⟩, if_pos ⟨by omega, by omega, by rw [y]; exact y2⟩]
          · rw [if_neg (fun z => y2 z.2), if_neg (fun z => y2 (by rw [← y]; exact z.2.2))]
        · rw [if_neg (fun z => y z.1)]
          by_cases y2 : 24 * k ≤ v / 40 ∧ v / 40 < 24 * k + j ∧ cOut Z nw (v / 40) (v % 40) = true
          · rw [if_pos y2, if_pos ⟨y2.1, by omega, y2.2.2⟩]
          · rw [if_neg y2, if_neg (fun z => y2 ⟨z.1, by omega, z.2.2⟩)]
  refine kx_rn dV_sweep 4 5 [(0, .ref (Z.ad rV)), (1, .ref (Z.ad (rTab k))), (2, .int (nI nw)), (3, .int 0), (4, .int 0)] [] rfl ?_
  exact loop md 0 0 h Z.V (by omega) rfl hZ (fun v => by rw [if_neg (by omega)])
set_option maxRecDepth 100000 in
theorem cV_vacuum {bg : Nat} {MD SC CL : Nat → Nat} (hst : l.stackTraces = false) (hZ : cOk G m S A h Z) (hnm : cNm Z MD SC CL) (hrw : cRw Z MD) (hbg : Z.sc rTr 1 = nI bg) (hb40 : bg ≤ 40) :
    kx_c G l mV_vacuum (d + 4) 0 0 [.ref (Z.ad rV)] h (fun o h' => ∃ ls, 1 ≤ ls ∧ ls ≤ bg + 1 ∧ (∀ t, 1 ≤ t → t < ls → ¬ Z.st t = 1) ∧ (ls ≤ bg → Z.st ls = 1) ∧ o = .returned (some (.int (nI (nsum (fun q => cnt (cOut Z (min ls bg) q) 40) 72)))) ∧ ∃ V2, cOk G m S A h' (Z.wV V2) ∧ ∀ v, V2 v = if cOut Z (min ls bg) (v / 40) (v % 40) = true then 0 else Z.V v) := by
  refine kx_in (by decide +kernel) (Nat.le_of_ble_eq_true rfl) hst ?_
  refine kx_rn dV_vacuum 1 1 [(0, .ref (Z.ad rV))] [.ref (Z.ad rV)] rfl ?_
  refine pV_18 (v := .ref (Z.ad rTr)) rfl (kx_tk_dec rfl dV_vacuum) (hZ.is rV rfl) rfl ?_
  have htr : kx_is G h (Z.ad rTr) (.inr (1, [.ref (Z.ad rSts), .int (nI bg), .int (Z.sc rTr 2)])) := by rw [← hbg]; exact hZ.is rTr rfl
  refine cV_198 (as := []) (st := []) (mc := 0) (ms := 0) (kc := 0) (ks := 0) rfl (kx_tk_dec rfl dV_vacuum) (hZ.is rTr rfl) rfl rfl (Nat.le_of_ble_eq_true rfl) (cT_leastOpen (S6 := Z.st) hst htr (hZ.is rSts rfl) hZ.wf.stc hb40) (fun o h' hq => ?_)
  obtain ⟨ls, hl1, hl2, hl3, hl4, rfl, hhe⟩ := hq
  subst h'
  show kx_w _ _ _ _ _ _ _ _ _ _ _
  have hmn : min ls bg ≤ bg := Nat.min_le_right _ _
  refine kx_rn dV_vacuum 5 12 [(0, .ref (Z.ad rV)), (1, .int (nI (min ls bg))), (2, .int 0), (3, .int 0)] [] rfl ?_
  have loop : ∀ n (j c : Nat) (h2 : kx_H) (V2 : Nat → Nat), j + n = 3 → c = nsum (fun q => cnt (cOut Z (min ls bg) q) 40) (24 * j) → cOk G m S A h2 (Z.wV V2) → (∀ v, V2 v = if v / 40 < 24 * j ∧ cOut Z (min ls bg) (v / 40) (v % 40) = true then 0 else Z.V v) → kx_w G l mV_vacuum (d + 4) (fun o h' => ∃ ls, 1 ≤ ls ∧ ls ≤ bg + 1 ∧ (∀ t, 1 ≤ t → t < ls → ¬ Z.st t = 1) ∧ (ls ≤ bg → Z.st ls = 1) ∧ o = .returned (some (.int (nI (nsum (fun q => cnt (cOut Z (min ls bg) q) 40) 72)))) ∧ ∃ V2, cOk G m S A h' (Z.wV V2) ∧ ∀ v, V2 v = if cOut Z (min ls bg) (v / 40) (v % 40) = true then 0 else Z.V v) 0 0 12 [(0, .ref (Z.ad rV)), (1, .int (nI (min ls bg))), (2, .int (nI c)), (3, .int (nI j))] [] h2 := by
    intro n
    induction n with
    | zero =>
      intro j c h2 V2 hj hc hz2 hV2
      refine kx_rn dV_vacuum 2 14 [(0, .ref (Z.ad rV)), (1, .int (nI (min ls bg))), (2, .int (nI c)), (3, .int (nI j))] [.int 3, .int (nI j)] rfl ?_
      refine kx_ic (tgt := 46) (kx_tk_dec rfl dV_vacuum) rfl (fun e14 => ?_) (fun e14 => ?_)
      · skip
        replace e14 : 3 ≤ nI j := e14
        replace e14 : 3 ≤ j := (nI_leI (a := 3) (b := j) (by omega) (by omega)).mp e14
        refine kx_rn dV_vacuum 1 47 [(0, .ref (Z.ad rV)), (1, .int (nI (min ls bg))), (2, .int (nI c)), (3, .int (nI j))] [.int (nI c)] rfl ?_
        refine kx_ret (ty := .int) (kx_tk_dec rfl dV_vacuum) rfl rfl ?_
        rw [hc, show 24 * j = 72 by omega]
        refine ⟨ls, hl1, hl2, hl3, hl4, rfl, V2, hz2, fun v => ?_⟩
        rw [hV2]
        by_cases y : cOut Z (min ls bg) (v / 40) (v % 40) = true
        · have := (hZ.wf.inn _ (of_decide_eq_true y).2.1).1
          rw [if_pos y, if_pos ⟨by omega, y⟩]
        · rw [if_neg y, if_neg (fun z => y z.2)]
      · skip
        replace e14 : ¬ 3 ≤ nI j := e14
        replace e14 : ¬ 3 ≤ j := fun z => e14 ((nI_leI (a := 3) (b := j) (by omega) (by omega)).mpr z)
        exfalso; omega
    | succ n ih =>
      intro j c h2 V2 hj hc hz2 hV2
      have hcl := nsum_le40 (f := (fun q => cnt (cOut Z (min ls bg) q) 40)) (fun r => cnt_le _ 40) (24 * j)
      refine kx_rn dV_vacuum 2 14 [(0, .ref (Z.ad rV)), (1, .int (nI (min ls bg))), (2, .int (nI c)), (3, .int (nI j))] [.int 3, .int (nI j)] rfl ?_
      refine kx_ic (tgt := 46) (kx_tk_dec rfl dV_vacuum) rfl (fun e14 => ?_) (fun e14 => ?_)
      · skip
        replace e14 : 3 ≤ nI j := e14
        replace e14 : 3 ≤ j := (nI_leI (a := 3) (b := j) (by omega) (by omega)).mp e14
        exfalso; omega
      · skip
        replace e14 : ¬ 3 ≤ nI j := e14
        replace e14 : ¬ 3 ≤ j := fun z => e14 ((nI_leI (a := 3) (b := j) (by omega) (by omega)).mpr z)
        refine kx_rn dV_vacuum 1 18 [(0, .ref (Z.ad rV)), (1, .int (nI (min ls bg))), (2, .int (nI c)), (3, .int (nI j))] [.ref (Z.ad rV)] rfl ?_
        refine pV_11 (v := .ref (Z.ad rTbs)) rfl (kx_tk_dec rfl dV_vacuum) (hz2.is rV rfl) rfl ?_
        refine kx_rn dV_vacuum 1 22 [(0, .ref (Z.ad rV)), (1, .int (nI (min ls bg))), (2, .int (nI c)), (3, .int (nI j))] [.int (nI j), .ref (Z.ad rTbs)] rfl ?_
        refine kx_qldN (x := ((tbF Z)) j) (i := j) rfl rfl (kx_tk_dec rfl dV_vacuum) (hz2.is rTbs rfl) (by show j < 3; omega) (by decide) rfl ?_
        refine kx_nul (tgt := 40) (kx_tk_dec rfl dV_vacuum) rfl (fun e23 => ?_) (fun a23 e23 => ?_)
        · skip
          refine kx_rn dV_vacuum 2 12 [(0, .ref (Z.ad rV)), (1, .int (nI (min ls bg))), (2, .int (nI c)), (3, .int ((nI j) + 1))] [] rfl ?_
          rw [show (nI j) + 1 = nI (j + 1) from kn_ad rfl rfl]
          have hzr : ∀ r, r < 24 → ∀ i, i < 40 → cOut Z (min ls bg) (24 * j + r) i = false := fun r hr i hi => decide_eq_false (fun z => by
            have y := (hZ.wf.inn _ z.2.1).2
            rw [show (40 * (24 * j + r) + i) / 960 = j by omega, tbF_n e23] at y
            cases y)
          refine ih (j + 1) _ h2 V2 (by omega) ?_ hz2 (fun v => ?_)
          · rw [show 24 * (j + 1) = 24 * j + 24 by omega, nsum_24 (f := fun q => cnt (cOut Z (min ls bg) q) 40) (md := 0) (Nat.zero_le _) (fun r _ hr => cnt_z (hzr r hr)), hc]; rfl
          · rw [hV2]
            by_cases y : v / 40 < 24 * j ∧ cOut Z (min ls bg) (v / 40) (v % 40) = true
            · rw [if_pos y, if_pos ⟨by omega, y.2⟩]
            · rw [if_neg y]
              refine (if_neg (fun z => ?_)).symm
              by_cases y3 : v / 40 < 24 * j
              · exact y ⟨y3, z.2⟩
              · have := hzr (v / 40 - 24 * j) (by omega) (v % 40) (by omega)
                rw [show 24 * j + (v / 40 - 24 * j) = v / 40 by omega, z.2] at this
                cases this
        · skip
          refine kx_rn dV_vacuum 3 29 [(0, .ref (Z.ad rV)), (1, .int (nI (min ls bg))), (2, .int (nI c)), (3, .int (nI j))] [.ref (Z.ad rV), .ref (Z.ad rV), .int (nI c)] rfl ?_
          refine pV_11 (v := .ref (Z.ad rTbs)) rfl (kx_tk_dec rfl dV_vacuum) (hz2.is rV rfl) rfl ?_
          refine kx_rn dV_vacuum 1 33 [(0, .ref (Z.ad rV)), (1, .int (nI (min ls bg))), (2, .int (nI c)), (3, .int (nI j))] [.int (nI j), .ref (Z.ad rTbs), .ref (Z.ad rV), .int (nI c)] rfl ?_
          refine kx_qldN (x := some (Z.ad (rTab j))) (i := j) rfl rfl (kx_tk_dec rfl dV_vacuum) (hz2.is rTbs rfl) (by show j < 3; omega) (by decide) (if_pos (tbF_s e23).1) ?_
          refine kx_rn dV_vacuum 1 35 [(0, .ref (Z.ad rV)), (1, .int (nI (min ls bg))), (2, .int (nI c)), (3, .int (nI j))] [.int (nI (min ls bg)), .ref (Z.ad (rTab j)), .ref (Z.ad rV), .int (nI c)] rfl ?_
          obtain ⟨y1, y2, y3, y4, y5, y6, y7⟩ := hnm j (by omega) (tbF_s e23).1
          refine cV_201 (as := [.ref (Z.ad (rTab j)), .int (nI (min ls bg))]) (st := [.int (nI c)]) (mc := 0) (ms := 0) (kc := 0) (ks := 0) rfl (kx_tk_dec rfl dV_vacuum) (hz2.is rV rfl) rfl rfl (Nat.le_of_ble_eq_true rfl) (cV_sweep (d := d) (Z := Z.wV V2) hst hz2 (by omega) (tbF_s e23).1 y4 y5 hbg hb40 (Nat.min_le_right _ _)) (fun o h' hq => ?_)
          obtain ⟨rfl, V3, hz3, hV3⟩ := hq
          show kx_w _ _ _ _ _ _ _ _ _ _ _
          have hou : ∀ q, 24 * j ≤ q → q < 24 * j + 24 → ∀ i, i < 40 → cOut (Z.wV V2) (min ls bg) q i = cOut Z (min ls bg) q i := fun q q1 q2 => cOut_wV (Z := Z) (V2 := V2) (fun i hi => by rw [hV2, if_neg (by omega)]) (by omega)
          rw [show nsum (fun r => cnt (cOut (Z.wV V2) (min ls bg) (24 * j + r)) 40) (MD j) = nsum (fun r => cnt (cOut Z (min ls bg) (24 * j + r)) 40) (MD j) from nsum_congr2 (fun r hr => cnt_congr (hou _ (by omega) (by omega)))]
          have hcl2 := nsum_le40 (f := fun r => cnt (cOut Z (min ls bg) (24 * j + r)) 40) (fun r => cnt_le _ 40) (MD j)
          refine kx_rn dV_vacuum 4 12 [(0, .ref (Z.ad rV)), (1, .int (nI (min ls bg))), (2, .int ((nI c) + (nI (nsum (fun r => cnt (cOut Z (min ls bg) (24 * j + r)) 40) (MD j))))), (3, .int ((nI j) + 1))] [] rfl ?_
          rw [show (nI c) + (nI (nsum (fun r => cnt (cOut Z (min ls bg) (24 * j + r)) 40) (MD j))) = nI (c + (nsum (fun r => cnt (cOut Z (min ls bg) (24 * j + r)) 40) (MD j))) from kn_ad rfl rfl]
          rw [show (nI j) + 1 = nI (j + 1) from kn_ad rfl rfl]
          have hzr : ∀ r, MD j ≤ r → r < 24 → ∀ i, i < 40 → cOut Z (min ls bg) (24 * j + r) i = false := fun r hr1 hr i hi => decide_eq_false (fun z => by
            have y := hrw _ z.2.1
            rw [show (40 * (24 * j + r) + i) / 960 = j by omega, show (40 * (24 * j + r) + i) / 40 % 24 = r by omega] at y
            omega)
          refine ih (j + 1) _ h' V3 (by omega) ?_ hz3 (fun v => ?_)
          · rw [show 24 * (j + 1) = 24 * j + 24 by omega, nsum_24 (f := fun q => cnt (cOut Z (min ls bg) q) 40) (md := MD j) y5 (fun r hr1 hr => cnt_z (hzr r hr1 hr)), hc]
          · rw [hV3]
            show (if _ then 0 else V2 v) = _
            rw [hV2]
            by_cases y : v / 40 < 24 * j ∧ cOut Z (min ls bg) (v / 40) (v % 40) = true
            · rw [if_pos y, if_pos (show v / 40 < 24 * (j + 1) ∧ _ from ⟨by omega, y.2⟩)]; split <;> rfl
            · rw [if_neg y]
              by_cases y2 : v / 40 < 24 * (j + 1) ∧ cOut Z (min ls bg) (v / 40) (v % 40) = true
              · rw [if_pos y2]
                have h24 : ¬ v / 40 < 24 * j := fun z => y ⟨z, y2.2⟩
                by_cases y3 : v / 40 < 24 * j + MD j
                · rw [if_pos ⟨by omega, y3, by rw [hou (v / 40) (by omega) (by omega) _ (by omega)]; exact y2.2⟩]
                · have := hzr (v / 40 - 24 * j) (by omega) (by omega) (v % 40) (by omega)
                  rw [show 24 * j + (v / 40 - 24 * j) = v / 40 by omega, y2.2] at this
                  cases this
              · rw [if_neg y2]
                refine if_neg (fun z => y2 ⟨by omega, ?_⟩)
                rw [← hou (v / 40) (by omega) (by omega) _ (by omega)]; exact z.2.2
  exact loop 3 0 0 h Z.V rfl rfl hZ (fun v => by rw [if_neg (by omega)])
end KC33
