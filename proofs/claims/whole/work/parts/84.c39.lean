/-! ===== the other side: write, delete ===== -/
section KC39
variable {G : kx_G} {l : Launch} {d : Nat} {h : kx_H} {m : Nat} {S : Nat → Int32} {A : Nat → Nat → Int32} {Z : cZ}
/-- what writes leave: the rows L written, by their places in the chosen set -/
def zWr (Z : cZ) (V2 : Nat → Nat) (Z' : cZ) (L : List Nat) (k tn i : Nat) (gn : Bool) : Prop := (∀ j r : Nat, j < i → L[j]? = some r → Z'.V (40 * (24 * k + r) + (tn - 1)) = vWr (V2 (40 * (24 * k + r) + (tn - 1))) tn gn ∧ ∀ c, c < 4 → Z'.ia (rVal (40 * (24 * k + r) + (tn - 1))) c = Z.ia (rInn (24 * (1 - Z.fi) + j)) c) ∧ ∀ v, (∀ j r : Nat, j < i → L[j]? = some r → v ≠ 40 * (24 * k + r) + (tn - 1)) → Z'.V v = V2 v ∧ Z'.ia (rVal v) = Z.ia (rVal v)
set_option maxRecDepth 100000 in
theorem cV_write1 {k md tn bg : Nat} {L : List Nat} {MD SC CL : Nat → Nat} {gn : Bool} (hst : l.stackTraces = false) (hZ : cOk G m S A h Z) (hnm : cNm Z MD SC CL) (hrw : cRw Z MD) (hk : k < 3) (ht : Z.tb k = true) (hmd2 : md ≤ 24) (hbg : Z.sc rTr 1 = nI bg) (hb40 : bg ≤ 40) (ht1 : 1 ≤ tn) (ht2 : tn ≤ bg) (hfi : 1 - Z.fi < 2) (hln : Z.sc (rRs (1 - Z.fi)) 2 = nI L.length) (hl24 : L.length ≤ 24) (hnum : ∀ i r : Nat, L[i]? = some r → Z.ia (rNum (1 - Z.fi)) i = nI r ∧ r < md) (hlate : ∃ (i r : Nat), L[i]? = some r ∧ ¬ hwq Z.V tn (24 * k + r) = 0 ∧ tn < Z.V (40 * (24 * k + r) + (hwq Z.V tn (24 * k + r) - 1)) / 4) :
    kx_c G l mV_write (d + 5) 1 6 [.ref (Z.ad rV), .int (nI tn), .ref (Z.ad (rTab k)), .int (b01 gn)] h (fun o h' => ∃ x, o = .threw x ∧ kx_is G h' x (.inr (12, [])) ∧ ∃ V2, cOk G m S A h' (((Z.sT tn 3).wV V2).sS rTr 2 (Z.sc rTr 2 + 1)) ∧ ∀ v, V2 v = vBrk Z.V tn v) := by
  refine kx_in (by decide +kernel) (Nat.le_of_ble_eq_true rfl) hst ?_
  refine kx_rn dV_write 3 3 [(0, .ref (Z.ad rV)), (1, .int (nI tn)), (2, .ref (Z.ad (rTab k))), (3, .int (b01 gn))] [.ref (Z.ad (rTab k)), .int (nI tn), .ref (Z.ad rV)] rfl ?_
  refine cV_286 (as := [.int (nI tn), .ref (Z.ad (rTab k))]) (st := []) (mc := 0) (ms := 0) (kc := 1) (ks := 6) rfl (kx_tk_dec rfl dV_write) (hZ.is rV rfl) rfl rfl (Nat.le_of_ble_eq_true rfl) (cV_isTooLate (d := d + 3) hst hZ hk ht hmd2 (by omega) hfi hln hl24 hnum) (fun o h' hq => ?_)
  obtain ⟨bl, rfl, hhe, hbl⟩ := hq
  subst h'
  show kx_w _ _ _ _ _ _ _ _ _ _ _
  refine kx_if (tgt := 24) (kx_tk_dec rfl dV_write) rfl (fun e6 => ?_) (fun e6 => ?_)
  · skip
    replace e6 : b01 bl = 0 := e6
    replace e6 : bl = false := b01_f e6
    rw [hbl.mpr hlate] at e6; cases e6
  · skip
    replace e6 : ¬ b01 bl = 0 := e6
    replace e6 : bl = true := b01_t e6
    refine kx_rn dV_write 2 11 [(0, .ref (Z.ad rV)), (1, .int (nI tn)), (2, .ref (Z.ad (rTab k))), (3, .int (b01 gn))] [.int (nI tn), .ref (Z.ad rV)] rfl ?_
    refine cV_139 (as := [.int (nI tn)]) (st := []) (mc := 0) (ms := 0) (kc := 1) (ks := 6) rfl (kx_tk_dec rfl dV_write) (hZ.is rV rfl) rfl rfl (Nat.le_of_ble_eq_true rfl) (cV_breakTooLate (d := d) hst hZ hnm hrw hbg hb40 ht1 ht2) (fun o h' hq => ?_)
    obtain ⟨rfl, V2, hz2, hV2⟩ := hq
    show kx_w _ _ _ _ _ _ _ _ _ _ _
    refine xV_144 (kc := 0) (ks := 0) rfl dV_write rfl rfl rfl rfl rfl (fun q hq => by cases hq) (Nat.le_of_ble_eq_true rfl) ?_
    exact ⟨_, rfl, cx_new hz2.b1 hz2.b2, V2, cz_new hz2 _, hV2⟩
set_option maxRecDepth 100000 in
theorem cV_write0 {k md tn bg sc : Nat} {L : List Nat} {gn : Bool} (hst : l.stackTraces = false) (hZ : cOk G m S A h Z) (hk : k < 3) (ht : Z.tb k = true) (hmd : Z.sc (rTab k) 2 = nI md) (hmd2 : md ≤ 24) (hbg : Z.sc rTr 1 = nI bg) (hb40 : bg ≤ 40) (ht1 : 1 ≤ tn) (ht2 : tn ≤ bg) (hfi : 1 - Z.fi < 2) (hln : Z.sc (rRs (1 - Z.fi)) 2 = nI L.length) (hl24 : L.length ≤ 24) (hnum : ∀ i r : Nat, L[i]? = some r → Z.ia (rNum (1 - Z.fi)) i = nI r ∧ r < md) (hsc : Z.sc (rTab k) 3 = nI sc) (hsc2 : sc ≤ 40) (hinj : ∀ i j r : Nat, L[i]? = some r → L[j]? = some r → i = j) (hlate : ¬ ∃ (i r : Nat), L[i]? = some r ∧ ¬ hwq Z.V tn (24 * k + r) = 0 ∧ tn < Z.V (40 * (24 * k + r) + (hwq Z.V tn (24 * k + r) - 1)) / 4) :
    kx_c G l mV_write (d + 5) 48 192 [.ref (Z.ad rV), .int (nI tn), .ref (Z.ad (rTab k)), .int (b01 gn)] h (fun o h' => o = .returned none ∧ ∃ V2 Z', cOk G m S A h' Z' ∧ zW ((Z.sS (rTab k) 3 (nI (max sc tn))).wV V2) Z' ∧ zWr Z V2 Z' L k tn L.length gn ∧ ∀ v, V2 v = if 24 * k ≤ v / 40 ∧ v / 40 < 24 * k + md ∧ v % 40 + 1 = hwq Z.V tn (v / 40) ∧ Z.V v / 4 < tn then Z.V v % 4 + 4 * tn else Z.V v) := by
  refine kx_in (by decide +kernel) (Nat.le_of_ble_eq_true rfl) hst ?_
  refine kx_rn dV_write 3 3 [(0, .ref (Z.ad rV)), (1, .int (nI tn)), (2, .ref (Z.ad (rTab k))), (3, .int (b01 gn))] [.ref (Z.ad (rTab k)), .int (nI tn), .ref (Z.ad rV)] rfl ?_
  refine cV_286 (as := [.int (nI tn), .ref (Z.ad (rTab k))]) (st := []) (mc := 0) (ms := 0) (kc := 48) (ks := 192) rfl (kx_tk_dec rfl dV_write) (hZ.is rV rfl) rfl rfl (Nat.le_of_ble_eq_true rfl) (cV_isTooLate (d := d + 3) hst hZ hk ht hmd2 (by omega) hfi hln hl24 hnum) (fun o h' hq => ?_)
  obtain ⟨bl, rfl, hhe, hbl⟩ := hq
  subst h'
  show kx_w _ _ _ _ _ _ _ _ _ _ _
  refine kx_if (tgt := 24) (kx_tk_dec rfl dV_write) rfl (fun e6 => ?_) (fun e6 => ?_)
  · skip
    replace e6 : b01 bl = 0 := e6
    replace e6 : bl = false := b01_f e6
    refine kx_rn dV_write 2 26 [(0, .ref (Z.ad rV)), (1, .int (nI tn)), (2, .ref (Z.ad (rTab k))), (3, .int (b01 gn))] [.int (nI tn), .ref (Z.ad (rTab k))] rfl ?_
    refine cV_155 (as := [.int (nI tn)]) (st := []) (mc := 0) (ms := 0) (kc := 48) (ks := 192) rfl (kx_tk_dec rfl dV_write) (hZ.is (rTab k) ⟨hk, ht⟩) rfl rfl (Nat.le_of_ble_eq_true rfl) (cB_markRead (d := d + 3) hst hZ hk ht hmd hmd2 hsc hsc2 ht1 (by omega)) (fun o h' hq => ?_)
    obtain ⟨rfl, V2, hz3, hV2⟩ := hq
    show kx_w _ _ _ _ _ _ _ _ _ _ _
    refine kx_rn dV_write 2 32 [(0, .ref (Z.ad rV)), (1, .int (nI tn)), (2, .ref (Z.ad (rTab k))), (3, .int (b01 gn)), (4, .int 0)] [] rfl ?_
    have loop : ∀ n (i : Nat) (h9 : kx_H) (Z9 : cZ), i + n = L.length → cOk G m S A h9 Z9 → zW ((Z.sS (rTab k) 3 (nI (max sc tn))).wV V2) Z9 → zWr Z V2 Z9 L k tn i gn → kx_w G l mV_write (d + 5) (fun o h' => o = .returned none ∧ ∃ V2 Z', cOk G m S A h' Z' ∧ zW ((Z.sS (rTab k) 3 (nI (max sc tn))).wV V2) Z' ∧ zWr Z V2 Z' L k tn L.length gn ∧ ∀ v, V2 v = if 24 * k ≤ v / 40 ∧ v / 40 < 24 * k + md ∧ v % 40 + 1 = hwq Z.V tn (v / 40) ∧ Z.V v / 4 < tn then Z.V v % 4 + 4 * tn else Z.V v) (2 * n) (8 * n) 32 [(0, .ref (Z.ad rV)), (1, .int (nI tn)), (2, .ref (Z.ad (rTab k))), (3, .int (b01 gn)), (4, .int (nI i))] [] h9 := by
      intro n
      induction n with
      | zero =>
        intro i h9 Z9 hi hz9 hw9 hwr
        refine kx_rn dV_write 2 35 [(0, .ref (Z.ad rV)), (1, .int (nI tn)), (2, .ref (Z.ad (rTab k))), (3, .int (b01 gn)), (4, .int (nI i))] [.ref (Z.ad rV), .int (nI i)] rfl ?_
        refine pV_51 (v := .ref (Z.ad (rRs (1 - Z.fi)))) rfl (kx_tk_dec rfl dV_write) (zW_is hz9 hw9 (a := 0) (b := 0) (by decide) (by decide) (by decide) rfl) rfl ?_
        refine pV_158 (v := .int (Z.sc (rRs (1 - Z.fi)) 2)) rfl (kx_tk_dec rfl dV_write) (zW_is hz9 hw9 (a := 10) (b := (1 - Z.fi)) (by decide) (by decide) (by decide) hfi) rfl ?_
        rw [hln]
        refine kx_ic (tgt := 80) (kx_tk_dec rfl dV_write) rfl (fun e41 => ?_) (fun e41 => ?_)
        · skip
          replace e41 : nI L.length ≤ nI i := e41
          replace e41 : L.length ≤ i := (nI_leI (a := L.length) (b := i) (by omega) (by omega)).mp e41
          refine kx_retv (kx_tk_dec rfl dV_write) rfl ?_
          rw [show i = L.length by omega] at hwr; exact ⟨rfl, V2, Z9, hz9, hw9, hwr, hV2⟩
        · skip
          replace e41 : ¬ nI L.length ≤ nI i := e41
          replace e41 : ¬ L.length ≤ i := fun z => e41 ((nI_leI (a := L.length) (b := i) (by omega) (by omega)).mpr z)
          exfalso; omega
      | succ n ih =>
        intro i h9 Z9 hi hz9 hw9 hwr
        have hi24 : i < L.length := by omega
        obtain ⟨r, hr⟩ : ∃ r, L[i]? = some r := ⟨L[i], List.getElem?_eq_getElem hi24⟩
        obtain ⟨hnr, hrm⟩ := hnum i r hr
        have hrow : lvZ Z (rByw (24 * k + r)) := ⟨by show 24 * k + r < 72; omega, by show Z.tb ((24 * k + r) / 24) = true; rw [show (24 * k + r) / 24 = k by omega]; exact ht⟩
        show kx_w _ _ _ _ _ (2 * n + 2) (8 * n + 8) _ _ _ _
        refine kx_rn dV_write 2 35 [(0, .ref (Z.ad rV)), (1, .int (nI tn)), (2, .ref (Z.ad (rTab k))), (3, .int (b01 gn)), (4, .int (nI i))] [.ref (Z.ad rV), .int (nI i)] rfl ?_
        refine pV_51 (v := .ref (Z.ad (rRs (1 - Z.fi)))) rfl (kx_tk_dec rfl dV_write) (zW_is hz9 hw9 (a := 0) (b := 0) (by decide) (by decide) (by decide) rfl) rfl ?_
        refine pV_158 (v := .int (Z.sc (rRs (1 - Z.fi)) 2)) rfl (kx_tk_dec rfl dV_write) (zW_is hz9 hw9 (a := 10) (b := (1 - Z.fi)) (by decide) (by decide) (by decide) hfi) rfl ?_
        rw [hln]
        refine kx_ic (tgt := 80) (kx_tk_dec rfl dV_write) rfl (fun e41 => ?_) (fun e41 => ?_)
        · skip
          replace e41 : nI L.length ≤ nI i := e41
          replace e41 : L.length ≤ i := (nI_leI (a := L.length) (b := i) (by omega) (by omega)).mp e41
          exfalso; omega
        · skip
          replace e41 : ¬ nI L.length ≤ nI i := e41
          replace e41 : ¬ L.length ≤ i := fun z => e41 ((nI_leI (a := L.length) (b := i) (by omega) (by omega)).mpr z)
          refine kx_rn dV_write 1 45 [(0, .ref (Z.ad rV)), (1, .int (nI tn)), (2, .ref (Z.ad (rTab k))), (3, .int (b01 gn)), (4, .int (nI i))] [.ref (Z.ad (rTab k))] rfl ?_
          refine pV_207 (v := .ref (Z.ad (rRws k))) rfl (kx_tk_dec rfl dV_write) (zW_is hz9 hw9 (a := 14) (b := k) (by decide) (by decide) (by decide) ⟨hk, ht⟩) rfl ?_
          refine kx_rn dV_write 1 49 [(0, .ref (Z.ad rV)), (1, .int (nI tn)), (2, .ref (Z.ad (rTab k))), (3, .int (b01 gn)), (4, .int (nI i))] [.ref (Z.ad rV), .ref (Z.ad (rRws k))] rfl ?_
          refine pV_51 (v := .ref (Z.ad (rRs (1 - Z.fi)))) rfl (kx_tk_dec rfl dV_write) (zW_is hz9 hw9 (a := 0) (b := 0) (by decide) (by decide) (by decide) rfl) rfl ?_
          refine pV_179 (v := .ref (Z.ad (rNum (1 - Z.fi)))) rfl (kx_tk_dec rfl dV_write) (zW_is hz9 hw9 (a := 10) (b := (1 - Z.fi)) (by decide) (by decide) (by decide) hfi) rfl ?_
          refine kx_rn dV_write 1 57 [(0, .ref (Z.ad rV)), (1, .int (nI tn)), (2, .ref (Z.ad (rTab k))), (3, .int (b01 gn)), (4, .int (nI i))] [.int (nI i), .ref (Z.ad (rNum (1 - Z.fi))), .ref (Z.ad (rRws k))] rfl ?_
          refine kx_ildN (x := (Z.ia (rNum (1 - Z.fi))) i) (i := i) (kx_tk_dec rfl dV_write) (zW_is hz9 hw9 (a := 11) (b := (1 - Z.fi)) (by decide) (by decide) (by decide) hfi) (by show i < 24; omega) (by decide) rfl ?_
          rw [hnr]
          refine kx_qldN (x := some (Z.ad (rRow (24 * k + r)))) (i := r) rfl rfl (kx_tk_dec rfl dV_write) (zW_is hz9 hw9 (a := 15) (b := k) (by decide) (by decide) (by decide) ⟨hk, ht⟩) (by show r < 24; omega) (by decide) (if_pos (show r < 24 by omega)) ?_
          refine kx_rn dV_write 2 61 [(0, .ref (Z.ad rV)), (1, .int (nI tn)), (2, .ref (Z.ad (rTab k))), (3, .int (b01 gn)), (4, .int (nI i))] [.ref (Z.ad rV), .int (nI tn), .ref (Z.ad (rRow (24 * k + r)))] rfl ?_
          refine pV_51 (v := .ref (Z.ad (rRs (1 - Z.fi)))) rfl (kx_tk_dec rfl dV_write) (zW_is hz9 hw9 (a := 0) (b := 0) (by decide) (by decide) (by decide) rfl) rfl ?_
          refine pV_185 (v := .ref (Z.ad (rVls (1 - Z.fi)))) rfl (kx_tk_dec rfl dV_write) (zW_is hz9 hw9 (a := 10) (b := (1 - Z.fi)) (by decide) (by decide) (by decide) hfi) rfl ?_
          refine kx_rn dV_write 1 69 [(0, .ref (Z.ad rV)), (1, .int (nI tn)), (2, .ref (Z.ad (rTab k))), (3, .int (b01 gn)), (4, .int (nI i))] [.int (nI i), .ref (Z.ad (rVls (1 - Z.fi))), .int (nI tn), .ref (Z.ad (rRow (24 * k + r)))] rfl ?_
          refine kx_qldN (x := some (Z.ad (rInn (24 * (1 - Z.fi) + i)))) (i := i) rfl rfl (kx_tk_dec rfl dV_write) (zW_is hz9 hw9 (a := 12) (b := (1 - Z.fi)) (by decide) (by decide) (by decide) hfi) (by show i < 24; omega) (by decide) (if_pos (show i < 24 by omega)) ?_
          refine kx_rn dV_write 1 71 [(0, .ref (Z.ad rV)), (1, .int (nI tn)), (2, .ref (Z.ad (rTab k))), (3, .int (b01 gn)), (4, .int (nI i))] [.int (b01 gn), .ref (Z.ad (rInn (24 * (1 - Z.fi) + i))), .int (nI tn), .ref (Z.ad (rRow (24 * k + r)))] rfl ?_
          have hrow9 : lvZ Z9 (rByw (24 * k + r)) := (zW_lv hw9 (by decide) (by decide)).mpr hrow
          have hc := cR_write (d := d + 3) (gn := gn) hst hz9 hrow9 ht1 (by omega) (zW_is hz9 hw9 (a := 13) (b := 24 * (1 - Z.fi) + i) (by decide) (by decide) (by decide) (show 24 * (1 - Z.fi) + i < 48 by omega))
          rw [show Z9.ad (rRow (24 * k + r)) = Z.ad (rRow (24 * k + r)) from hw9.1 16 _ (by decide) (by decide)] at hc
          refine cV_290 (as := [.int (nI tn), .ref (Z.ad (rInn (24 * (1 - Z.fi) + i))), .int (b01 gn)]) (st := []) (mc := 2) (ms := 8) (kc := 2 * n) (ks := 8 * n) rfl (kx_tk_dec rfl dV_write) (zW_is hz9 hw9 (a := 16) (b := (24 * k + r)) (by decide) (by decide) (by decide) hrow) rfl rfl (Nat.le_of_ble_eq_true rfl) (hc) (fun o h' hq => ?_)
          obtain ⟨rfl, Z10, hz10, hw10, hV10, hi10, hj10⟩ := hq
          show kx_w _ _ _ _ _ _ _ _ _ _ _
          refine kx_rn dV_write 2 32 [(0, .ref (Z.ad rV)), (1, .int (nI tn)), (2, .ref (Z.ad (rTab k))), (3, .int (b01 gn)), (4, .int ((nI i) + 1))] [] rfl ?_
          rw [show (nI i) + 1 = nI (i + 1) from kn_ad rfl rfl]
          have hb9 := hwr.2 (40 * (24 * k + r) + (tn - 1)) (fun j r2 hj hr2 hv2 => by
            have : r = r2 := by omega
            rw [← this] at hr2
            have := hinj i j r hr hr2
            omega)
          refine ih (i + 1) h' Z10 (by omega) hz10 (zW_t hw9 hw10) ⟨fun j r2 hj hr2 => ?_, fun v hv => ?_⟩
          · by_cases z : j = i
            · rw [z, hr] at hr2
              injection hr2 with hr2
              rw [← hr2, z, hV10, va_up_self, hb9.1]
              exact ⟨rfl, hi10⟩
            · obtain ⟨y1, y2⟩ := hwr.1 j r2 (by omega) hr2
              have hne : 40 * (24 * k + r2) + (tn - 1) ≠ 40 * (24 * k + r) + (tn - 1) := fun y => z (by
                have : r2 = r := by omega
                rw [this] at hr2
                exact hinj j i r hr2 hr)
              rw [hV10, va_up_ne _ _ hne, hj10 _ hne]
              exact ⟨y1, y2⟩
          · obtain ⟨y1, y2⟩ := hwr.2 v (fun j r2 hj => hv j r2 (by omega))
            have hne := hv i r (by omega) hr
            rw [hV10, va_up_ne _ _ hne, hj10 _ hne]
            exact ⟨y1, y2⟩
    exact kx_low (kc' := 2 * L.length) (ks' := 8 * L.length) (by omega) (by omega) (loop L.length 0 h' _ (by omega) hz3 (zW_r _) ⟨fun j r hj => by omega, fun v _ => ⟨rfl, rfl⟩⟩)
  · skip
    replace e6 : ¬ b01 bl = 0 := e6
    replace e6 : bl = true := b01_t e6
    exact absurd (hbl.mp e6) hlate
set_option maxRecDepth 100000 in
theorem cV_delete1 {t kk : Int32} {bg : Nat} (hst : l.stackTraces = false) (hZ : cOk G m S A h Z) (hbg : Z.sc rTr 1 = nI bg) (hb40 : bg ≤ 40) (hop : ¬ cOp Z bg t) :
    kx_c G l mV_delete (d + 6) 1 6 [.ref (Z.ad rV), .int t, .int kk] h (fun o h' => ∃ x, o = .threw x ∧ kx_is G h' x (.inr (11, [])) ∧ cOk G m S A h' Z) := by
  refine kx_in (by decide +kernel) (Nat.le_of_ble_eq_true rfl) hst ?_
  refine kx_rn dV_delete 2 2 [(0, .ref (Z.ad rV)), (1, .int t), (2, .int kk)] [.int t, .ref (Z.ad rV)] rfl ?_
  refine cV_110 (as := [.int t]) (st := []) (mc := 1) (ms := 6) (kc := 0) (ks := 0) rfl (kx_tk_dec rfl dV_delete) (hZ.is rV rfl) rfl rfl (Nat.le_of_ble_eq_true rfl) (cV_mustBeOpen1 (d := d + 4) hst hZ hbg hb40 hop) (fun o h' hq => ?_)
  obtain ⟨x, rfl, hx, hz0⟩ := hq
  exact kx_out (fun q hq => by cases hq) ⟨x, rfl, hx, hz0⟩
set_option maxRecDepth 100000 in
theorem cV_delete2 {tn bg : Nat} {kk : Int32} (hst : l.stackTraces = false) (hZ : cOk G m S A h Z) (hbg : Z.sc rTr 1 = nI bg) (hb40 : bg ≤ 40) (ht1 : 1 ≤ tn) (ht2 : tn ≤ bg) (hts : Z.st tn = 1) (ht : ¬ cTb Z kk) :
    kx_c G l mV_delete (d + 6) 1 6 [.ref (Z.ad rV), .int (nI tn), .int kk] h (fun o h' => ∃ x, o = .threw x ∧ kx_is G h' x (.inr (11, [])) ∧ cOk G m S A h' Z) := by
  refine kx_in (by decide +kernel) (Nat.le_of_ble_eq_true rfl) hst ?_
  refine kx_rn dV_delete 2 2 [(0, .ref (Z.ad rV)), (1, .int (nI tn)), (2, .int kk)] [.int (nI tn), .ref (Z.ad rV)] rfl ?_
  refine cV_110 (as := [.int (nI tn)]) (st := []) (mc := 0) (ms := 0) (kc := 1) (ks := 6) rfl (kx_tk_dec rfl dV_delete) (hZ.is rV rfl) rfl rfl (Nat.le_of_ble_eq_true rfl) (cV_mustBeOpen0 (d := d + 4) hst hZ hbg hb40 ⟨tn, ht1, ht2, rfl, hts⟩) (fun o h' hq => ?_)
  obtain ⟨rfl, hz0⟩ := hq
  show kx_w _ _ _ _ _ _ _ _ _ _ _
  refine kx_rn dV_delete 2 7 [(0, .ref (Z.ad rV)), (1, .int (nI tn)), (2, .int kk)] [.int kk, .ref (Z.ad rV)] rfl ?_
  refine cV_127 (as := [.int kk]) (st := []) (mc := 1) (ms := 6) (kc := 0) (ks := 0) rfl (kx_tk_dec rfl dV_delete) (hz0.is rV rfl) rfl rfl (Nat.le_of_ble_eq_true rfl) (cV_tableThere1 hst hz0 ht) (fun o h' hq => ?_)
  obtain ⟨x, rfl, hx, hz1⟩ := hq
  exact kx_out (fun q hq => by cases hq) ⟨x, rfl, hx, hz1⟩
set_option maxRecDepth 100000 in
theorem cV_delete3 {k md bg tn r0 : Nat} {es : List Int32} (hst : l.stackTraces = false) (hZ : cOk G m S A h Z) (hk : k < 3) (ht : Z.tb k = true) (hmd : Z.sc (rTab k) 2 = nI md) (hmd2 : md ≤ 24) (hbg : Z.sc rTr 1 = nI bg) (hb40 : bg ≤ 40) (ht1 : 1 ≤ tn) (ht2 : tn ≤ bg) (hts : Z.st tn = 1) (hpn : Z.sc (rPrg 0) 2 = nI es.length) (hok : okC es) (hF : prg (Z.ia (rStp 0)) es) (hr0 : r0 < md) (hall : ∀ r, r < r0 → vdC Z es tn (24 * k + r) ≤ 1) (hbad : vdC Z es tn (24 * k + r0) = 2) :
    kx_c G l mV_delete (d + 6) 1 6 [.ref (Z.ad rV), .int (nI tn), .int (nI k)] h (fun o h' => ∃ x, o = .threw x ∧ kx_is G h' x (.inr (10, [])) ∧ ∃ sc2 ia2, cOk G m S A h' (Z.wA sc2 ia2) ∧ cFr Z sc2 ia2) := by
  refine kx_in (by decide +kernel) (Nat.le_of_ble_eq_true rfl) hst ?_
  refine kx_rn dV_delete 2 2 [(0, .ref (Z.ad rV)), (1, .int (nI tn)), (2, .int (nI k))] [.int (nI tn), .ref (Z.ad rV)] rfl ?_
  refine cV_110 (as := [.int (nI tn)]) (st := []) (mc := 0) (ms := 0) (kc := 1) (ks := 6) rfl (kx_tk_dec rfl dV_delete) (hZ.is rV rfl) rfl rfl (Nat.le_of_ble_eq_true rfl) (cV_mustBeOpen0 (d := d + 4) hst hZ hbg hb40 ⟨tn, ht1, ht2, rfl, hts⟩) (fun o h' hq => ?_)
  obtain ⟨rfl, hz0⟩ := hq
  show kx_w _ _ _ _ _ _ _ _ _ _ _
  refine kx_rn dV_delete 2 7 [(0, .ref (Z.ad rV)), (1, .int (nI tn)), (2, .int (nI k))] [.int (nI k), .ref (Z.ad rV)] rfl ?_
  refine cV_127 (as := [.int (nI k)]) (st := []) (mc := 0) (ms := 0) (kc := 1) (ks := 6) rfl (kx_tk_dec rfl dV_delete) (hz0.is rV rfl) rfl rfl (Nat.le_of_ble_eq_true rfl) (cV_tableThere0 hst hz0 hk ht) (fun o h' hq => ?_)
  obtain ⟨rfl, hz1⟩ := hq
  show kx_w _ _ _ _ _ _ _ _ _ _ _
  refine kx_rn dV_delete 4 14 [(0, .ref (Z.ad rV)), (1, .int (nI tn)), (2, .int (nI k)), (3, .ref (Z.ad (rTab k)))] [.ref (Z.ad (rTab k)), .int (nI tn), .ref (Z.ad rV)] rfl ?_
  refine cV_151 (as := [.int (nI tn), .ref (Z.ad (rTab k))]) (st := []) (mc := 1) (ms := 6) (kc := 0) (ks := 0) rfl (kx_tk_dec rfl dV_delete) (hz1.is rV rfl) rfl rfl (Nat.le_of_ble_eq_true rfl) (cV_choose1 (d := d) hst hz1 hk ht hmd hmd2 hbg hb40 ht1 ht2 hpn hok hF hr0 hall hbad) (fun o h' hq => ?_)
  obtain ⟨x, rfl, hx, hz2⟩ := hq
  exact kx_out (fun q hq => by cases hq) ⟨x, rfl, hx, hz2⟩
set_option maxRecDepth 100000 in
theorem cV_delete4 {k md bg tn r0 : Nat} {es : List Int32} (hst : l.stackTraces = false) (hZ : cOk G m S A h Z) (hk : k < 3) (ht : Z.tb k = true) (hmd : Z.sc (rTab k) 2 = nI md) (hmd2 : md ≤ 24) (hbg : Z.sc rTr 1 = nI bg) (hb40 : bg ≤ 40) (ht1 : 1 ≤ tn) (ht2 : tn ≤ bg) (hts : Z.st tn = 1) (hpn : Z.sc (rPrg 0) 2 = nI es.length) (hok : okC es) (hF : prg (Z.ia (rStp 0)) es) (hr0 : r0 < md) (hall : ∀ r, r < r0 → vdC Z es tn (24 * k + r) ≤ 1) (hbad : vdC Z es tn (24 * k + r0) = 3) :
    kx_c G l mV_delete (d + 6) 1 6 [.ref (Z.ad rV), .int (nI tn), .int (nI k)] h (fun o h' => ∃ x, o = .threw x ∧ kx_is G h' x (.inr (13, [])) ∧ ∃ sc2 ia2, cOk G m S A h' (Z.wA sc2 ia2) ∧ cFr Z sc2 ia2) := by
  refine kx_in (by decide +kernel) (Nat.le_of_ble_eq_true rfl) hst ?_
  refine kx_rn dV_delete 2 2 [(0, .ref (Z.ad rV)), (1, .int (nI tn)), (2, .int (nI k))] [.int (nI tn), .ref (Z.ad rV)] rfl ?_
  refine cV_110 (as := [.int (nI tn)]) (st := []) (mc := 0) (ms := 0) (kc := 1) (ks := 6) rfl (kx_tk_dec rfl dV_delete) (hZ.is rV rfl) rfl rfl (Nat.le_of_ble_eq_true rfl) (cV_mustBeOpen0 (d := d + 4) hst hZ hbg hb40 ⟨tn, ht1, ht2, rfl, hts⟩) (fun o h' hq => ?_)
  obtain ⟨rfl, hz0⟩ := hq
  show kx_w _ _ _ _ _ _ _ _ _ _ _
  refine kx_rn dV_delete 2 7 [(0, .ref (Z.ad rV)), (1, .int (nI tn)), (2, .int (nI k))] [.int (nI k), .ref (Z.ad rV)] rfl ?_
  refine cV_127 (as := [.int (nI k)]) (st := []) (mc := 0) (ms := 0) (kc := 1) (ks := 6) rfl (kx_tk_dec rfl dV_delete) (hz0.is rV rfl) rfl rfl (Nat.le_of_ble_eq_true rfl) (cV_tableThere0 hst hz0 hk ht) (fun o h' hq => ?_)
  obtain ⟨rfl, hz1⟩ := hq
  show kx_w _ _ _ _ _ _ _ _ _ _ _
  refine kx_rn dV_delete 4 14 [(0, .ref (Z.ad rV)), (1, .int (nI tn)), (2, .int (nI k)), (3, .ref (Z.ad (rTab k)))] [.ref (Z.ad (rTab k)), .int (nI tn), .ref (Z.ad rV)] rfl ?_
  refine cV_151 (as := [.int (nI tn), .ref (Z.ad (rTab k))]) (st := []) (mc := 1) (ms := 6) (kc := 0) (ks := 0) rfl (kx_tk_dec rfl dV_delete) (hz1.is rV rfl) rfl rfl (Nat.le_of_ble_eq_true rfl) (cV_choose2 (d := d) hst hz1 hk ht hmd hmd2 hbg hb40 ht1 ht2 hpn hok hF hr0 hall hbad) (fun o h' hq => ?_)
  obtain ⟨x, rfl, hx, hz2⟩ := hq
  exact kx_out (fun q hq => by cases hq) ⟨x, rfl, hx, hz2⟩
set_option maxRecDepth 100000 in
theorem cV_delete0 {k md bg tn sc : Nat} {es : List Int32} (hst : l.stackTraces = false) (hZ : cOk G m S A h Z) (hk : k < 3) (ht : Z.tb k = true) (hmd : Z.sc (rTab k) 2 = nI md) (hmd2 : md ≤ 24) (hbg : Z.sc rTr 1 = nI bg) (hb40 : bg ≤ 40) (ht1 : 1 ≤ tn) (ht2 : tn ≤ bg) (hts : Z.st tn = 1) (hpn : Z.sc (rPrg 0) 2 = nI es.length) (hok : okC es) (hF : prg (Z.ia (rStp 0)) es) (hsc : Z.sc (rTab k) 3 = nI sc) (hsc2 : sc ≤ 40) (hall : ∀ r, r < md → vdC Z es tn (24 * k + r) ≤ 1) (hlate : ¬ ∃ (i r : Nat), (selL (cMt Z es tn k) md)[i]? = some r ∧ ¬ hwq Z.V tn (24 * k + r) = 0 ∧ tn < Z.V (40 * (24 * k + r) + (hwq Z.V tn (24 * k + r) - 1)) / 4) :
    kx_c G l mV_delete (d + 6) 48 192 [.ref (Z.ad rV), .int (nI tn), .int (nI k)] h (fun o h' => o = .returned (some (.int (nI (selL (cMt Z es tn k) md).length))) ∧ ∃ sc2 ia2 V2 Z', cOk G m S A h' Z' ∧ cFr Z sc2 ia2 ∧ chs Z sc2 ia2 (selL (cMt Z es tn k) md) (cVl Z tn k) ∧ zW (((Z.wA sc2 ia2).sS (rTab k) 3 (nI (max sc tn))).wV V2) Z' ∧ zWr (Z.wA sc2 ia2) V2 Z' (selL (cMt Z es tn k) md) k tn (selL (cMt Z es tn k) md).length true ∧ ∀ v, V2 v = if 24 * k ≤ v / 40 ∧ v / 40 < 24 * k + md ∧ v % 40 + 1 = hwq Z.V tn (v / 40) ∧ Z.V v / 4 < tn then Z.V v % 4 + 4 * tn else Z.V v) := by
  refine kx_in (by decide +kernel) (Nat.le_of_ble_eq_true rfl) hst ?_
  refine kx_rn dV_delete 2 2 [(0, .ref (Z.ad rV)), (1, .int (nI tn)), (2, .int (nI k))] [.int (nI tn), .ref (Z.ad rV)] rfl ?_
  refine cV_110 (as := [.int (nI tn)]) (st := []) (mc := 0) (ms := 0) (kc := 48) (ks := 192) rfl (kx_tk_dec rfl dV_delete) (hZ.is rV rfl) rfl rfl (Nat.le_of_ble_eq_true rfl) (cV_mustBeOpen0 (d := d + 4) hst hZ hbg hb40 ⟨tn, ht1, ht2, rfl, hts⟩) (fun o h' hq => ?_)
  obtain ⟨rfl, hz0⟩ := hq
  show kx_w _ _ _ _ _ _ _ _ _ _ _
  refine kx_rn dV_delete 2 7 [(0, .ref (Z.ad rV)), (1, .int (nI tn)), (2, .int (nI k))] [.int (nI k), .ref (Z.ad rV)] rfl ?_
  refine cV_127 (as := [.int (nI k)]) (st := []) (mc := 0) (ms := 0) (kc := 48) (ks := 192) rfl (kx_tk_dec rfl dV_delete) (hz0.is rV rfl) rfl rfl (Nat.le_of_ble_eq_true rfl) (cV_tableThere0 hst hz0 hk ht) (fun o h' hq => ?_)
  obtain ⟨rfl, hz1⟩ := hq
  show kx_w _ _ _ _ _ _ _ _ _ _ _
  refine kx_rn dV_delete 4 14 [(0, .ref (Z.ad rV)), (1, .int (nI tn)), (2, .int (nI k)), (3, .ref (Z.ad (rTab k)))] [.ref (Z.ad (rTab k)), .int (nI tn), .ref (Z.ad rV)] rfl ?_
  refine cV_151 (as := [.int (nI tn), .ref (Z.ad (rTab k))]) (st := []) (mc := 0) (ms := 0) (kc := 48) (ks := 192) rfl (kx_tk_dec rfl dV_delete) (hz1.is rV rfl) rfl rfl (Nat.le_of_ble_eq_true rfl) (cV_choose0 (d := d) hst hz1 hk ht hmd hmd2 hbg hb40 ht1 ht2 hpn hok hF hall) (fun o h' hq => ?_)
  obtain ⟨rfl, sc2, ia2, hz2, hfr, hch⟩ := hq
  show kx_w _ _ _ _ _ _ _ _ _ _ _
  have hm2 : sc2 (rTab k) 2 = nI md := by rw [hfr.1 (rTab k) (tag_ne (by decide)) (tag_ne (by decide))]; exact hmd
  have hs2 : sc2 (rTab k) 3 = nI sc := by rw [hfr.1 (rTab k) (tag_ne (by decide)) (tag_ne (by decide))]; exact hsc
  have hb2 : sc2 rTr 1 = nI bg := by rw [hfr.1 rTr (tag_ne (by decide)) (tag_ne (by decide))]; exact hbg
  refine kx_rn dV_delete 4 21 [(0, .ref (Z.ad rV)), (1, .int (nI tn)), (2, .int (nI k)), (3, .ref (Z.ad (rTab k)))] [.int 1, .ref (Z.ad (rTab k)), .int (nI tn), .ref (Z.ad rV)] rfl ?_
  have hnum : ∀ i r : Nat, (selL (cMt Z es tn k) md)[i]? = some r → (Z.wA sc2 ia2).ia (rNum (1 - (Z.wA sc2 ia2).fi)) i = nI r ∧ r < md := fun i r hr => ⟨(hch.2 i r hr).1, (selL_lt hr).1⟩
  have hlen : (selL (cMt Z es tn k) md).length ≤ 24 := by rw [selL_len]; have := cnt_le (cMt Z es tn k) md; omega
  refine cV_170 (as := [.int (nI tn), .ref (Z.ad (rTab k)), .int 1]) (st := []) (mc := 48) (ms := 192) (kc := 0) (ks := 0) rfl (kx_tk_dec rfl dV_delete) (hz2.is rV rfl) rfl rfl (Nat.le_of_ble_eq_true rfl) (cV_write0 (d := d) (Z := Z.wA sc2 ia2) (gn := true) (L := (selL (cMt Z es tn k) md)) hst hz2 hk ht hm2 hmd2 hb2 hb40 ht1 ht2 (show 1 - Z.fi < 2 by omega) hch.1 hlen hnum hs2 hsc2 (fun i j r => selL_inj) hlate) (fun o h' hq => ?_)
  obtain ⟨rfl, V2, Z9, hz9, hw9, hwr, hV2⟩ := hq
  show kx_w _ _ _ _ _ _ _ _ _ _ _
  refine kx_rn dV_delete 1 25 [(0, .ref (Z.ad rV)), (1, .int (nI tn)), (2, .int (nI k)), (3, .ref (Z.ad (rTab k)))] [.ref (Z.ad rV)] rfl ?_
  refine pV_51 (v := .ref (Z.ad (rRs (1 - Z.fi)))) rfl (kx_tk_dec rfl dV_delete) (zW_is hz9 hw9 (a := 0) (b := 0) (by decide) (by decide) (by decide) rfl) rfl ?_
  refine pV_158 (v := .int (sc2 (rRs (1 - Z.fi)) 2)) rfl (kx_tk_dec rfl dV_delete) (zW_is hz9 hw9 (a := 10) (b := (1 - Z.fi)) (by decide) (by decide) (by decide) (show 1 - Z.fi < 2 by omega)) rfl ?_
  rw [hch.1]
  refine kx_ret (ty := .int) (kx_tk_dec rfl dV_delete) rfl rfl ?_
  exact ⟨rfl, sc2, ia2, V2, Z9, hz9, hfr, hch, hw9, hwr, hV2⟩
set_option maxRecDepth 100000 in
theorem cV_delete5 {k md bg tn sc : Nat} {es : List Int32} {MD SC CL : Nat → Nat} (hst : l.stackTraces = false) (hZ : cOk G m S A h Z) (hnm : cNm Z MD SC CL) (hrw : cRw Z MD) (hk : k < 3) (ht : Z.tb k = true) (hmd : Z.sc (rTab k) 2 = nI md) (hmd2 : md ≤ 24) (hbg : Z.sc rTr 1 = nI bg) (hb40 : bg ≤ 40) (ht1 : 1 ≤ tn) (ht2 : tn ≤ bg) (hts : Z.st tn = 1) (hpn : Z.sc (rPrg 0) 2 = nI es.length) (hok : okC es) (hF : prg (Z.ia (rStp 0)) es) (hsc : Z.sc (rTab k) 3 = nI sc) (hsc2 : sc ≤ 40) (hall : ∀ r, r < md → vdC Z es tn (24 * k + r) ≤ 1) (hlate : ∃ (i r : Nat), (selL (cMt Z es tn k) md)[i]? = some r ∧ ¬ hwq Z.V tn (24 * k + r) = 0 ∧ tn < Z.V (40 * (24 * k + r) + (hwq Z.V tn (24 * k + r) - 1)) / 4) :
    kx_c G l mV_delete (d + 6) 1 6 [.ref (Z.ad rV), .int (nI tn), .int (nI k)] h (fun o h' => ∃ x, o = .threw x ∧ kx_is G h' x (.inr (12, [])) ∧ ∃ sc2 ia2 V2, cOk G m S A h' ((((Z.wA sc2 ia2).sT tn 3).wV V2).sS rTr 2 (Z.sc rTr 2 + 1)) ∧ cFr Z sc2 ia2 ∧ ∀ v, V2 v = vBrk Z.V tn v) := by
  refine kx_in (by decide +kernel) (Nat.le_of_ble_eq_true rfl) hst ?_
  refine kx_rn dV_delete 2 2 [(0, .ref (Z.ad rV)), (1, .int (nI tn)), (2, .int (nI k))] [.int (nI tn), .ref (Z.ad rV)] rfl ?_
  refine cV_110 (as := [.int (nI tn)]) (st := []) (mc := 0) (ms := 0) (kc := 1) (ks := 6) rfl (kx_tk_dec rfl dV_delete) (hZ.is rV rfl) rfl rfl (Nat.le_of_ble_eq_true rfl) (cV_mustBeOpen0 (d := d + 4) hst hZ hbg hb40 ⟨tn, ht1, ht2, rfl, hts⟩) (fun o h' hq => ?_)
  obtain ⟨rfl, hz0⟩ := hq
  show kx_w _ _ _ _ _ _ _ _ _ _ _
  refine kx_rn dV_delete 2 7 [(0, .ref (Z.ad rV)), (1, .int (nI tn)), (2, .int (nI k))] [.int (nI k), .ref (Z.ad rV)] rfl ?_
  refine cV_127 (as := [.int (nI k)]) (st := []) (mc := 0) (ms := 0) (kc := 1) (ks := 6) rfl (kx_tk_dec rfl dV_delete) (hz0.is rV rfl) rfl rfl (Nat.le_of_ble_eq_true rfl) (cV_tableThere0 hst hz0 hk ht) (fun o h' hq => ?_)
  obtain ⟨rfl, hz1⟩ := hq
  show kx_w _ _ _ _ _ _ _ _ _ _ _
  refine kx_rn dV_delete 4 14 [(0, .ref (Z.ad rV)), (1, .int (nI tn)), (2, .int (nI k)), (3, .ref (Z.ad (rTab k)))] [.ref (Z.ad (rTab k)), .int (nI tn), .ref (Z.ad rV)] rfl ?_
  refine cV_151 (as := [.int (nI tn), .ref (Z.ad (rTab k))]) (st := []) (mc := 0) (ms := 0) (kc := 1) (ks := 6) rfl (kx_tk_dec rfl dV_delete) (hz1.is rV rfl) rfl rfl (Nat.le_of_ble_eq_true rfl) (cV_choose0 (d := d) hst hz1 hk ht hmd hmd2 hbg hb40 ht1 ht2 hpn hok hF hall) (fun o h' hq => ?_)
  obtain ⟨rfl, sc2, ia2, hz2, hfr, hch⟩ := hq
  show kx_w _ _ _ _ _ _ _ _ _ _ _
  have hm2 : sc2 (rTab k) 2 = nI md := by rw [hfr.1 (rTab k) (tag_ne (by decide)) (tag_ne (by decide))]; exact hmd
  have hs2 : sc2 (rTab k) 3 = nI sc := by rw [hfr.1 (rTab k) (tag_ne (by decide)) (tag_ne (by decide))]; exact hsc
  have hb2 : sc2 rTr 1 = nI bg := by rw [hfr.1 rTr (tag_ne (by decide)) (tag_ne (by decide))]; exact hbg
  refine kx_rn dV_delete 4 21 [(0, .ref (Z.ad rV)), (1, .int (nI tn)), (2, .int (nI k)), (3, .ref (Z.ad (rTab k)))] [.int 1, .ref (Z.ad (rTab k)), .int (nI tn), .ref (Z.ad rV)] rfl ?_
  have hnum : ∀ i r : Nat, (selL (cMt Z es tn k) md)[i]? = some r → (Z.wA sc2 ia2).ia (rNum (1 - (Z.wA sc2 ia2).fi)) i = nI r ∧ r < md := fun i r hr => ⟨(hch.2 i r hr).1, (selL_lt hr).1⟩
  have hlen : (selL (cMt Z es tn k) md).length ≤ 24 := by rw [selL_len]; have := cnt_le (cMt Z es tn k) md; omega
  have hnm2 : cNm (Z.wA sc2 ia2) MD SC CL := fun k hk ht => by
    have y := hnm k hk ht
    have e : sc2 (rTab k) = Z.sc (rTab k) := hfr.1 (rTab k) (tag_ne (by decide)) (tag_ne (by decide))
    rw [← e] at y
    exact y
  have htr2 : sc2 rTr 2 = Z.sc rTr 2 := by rw [hfr.1 rTr (tag_ne (by decide)) (tag_ne (by decide))]
  refine cV_170 (as := [.int (nI tn), .ref (Z.ad (rTab k)), .int 1]) (st := []) (mc := 1) (ms := 6) (kc := 0) (ks := 0) rfl (kx_tk_dec rfl dV_delete) (hz2.is rV rfl) rfl rfl (Nat.le_of_ble_eq_true rfl) (cV_write1 (d := d) (Z := Z.wA sc2 ia2) (gn := true) (L := (selL (cMt Z es tn k) md)) hst hz2 hnm2 hrw hk ht hmd2 hb2 hb40 ht1 ht2 (show 1 - Z.fi < 2 by omega) hch.1 hlen hnum hlate) (fun o h' hq => ?_)
  obtain ⟨x, rfl, hx, V2, hz9, hV2⟩ := hq
  rw [show (Z.wA sc2 ia2).sc rTr 2 = Z.sc rTr 2 from htr2] at hz9
  exact kx_out (fun q hq => by cases hq) ⟨x, rfl, hx, sc2, ia2, V2, hz9, hfr, hV2⟩
end KC39
