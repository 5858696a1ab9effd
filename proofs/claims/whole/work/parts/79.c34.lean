/-! ===== the other side: versions read, sets of rows ===== -/
section KC34
variable {G : kx_G} {l : Launch} {d : Nat} {h : kx_H} {m : Nat} {S : Nat → Int32} {A : Nat → Nat → Int32} {Z : cZ}
theorem kmax {a b : Nat} (ha : a < 2147483648) (hb : b < 2147483648) : (if nI a < nI b then nI b else nI a) = nI (max a b) := by
  by_cases e : a < b
  · rw [if_pos ((nI_ltI ha hb).mpr e), Nat.max_eq_right (by omega)]
  · rw [if_neg (fun z => e ((nI_ltI ha hb).mp z)), Nat.max_eq_left (by omega)]
theorem hwq_v {V : Nat → Nat} {t q : Nat} (h : ¬ hwq V t q = 0) : ¬ V (40 * q + (hwq V t q - 1)) = 0 ∧ hwq V t q ≤ t := by
  have h1 := hw_at (f := fun w => decide (¬ V (40 * q + w - 1) = 0)) (n := t) h
  have h2 : ¬ V (40 * q + hwq V t q - 1) = 0 := of_decide_eq_true h1
  rw [show 40 * q + hwq V t q - 1 = 40 * q + (hwq V t q - 1) by omega] at h2
  exact ⟨h2, hw_le _ _⟩
theorem hwq_congr {V V' : Nat → Nat} {t q : Nat} (h : ∀ i, i < t → (V' (40 * q + i) = 0 ↔ V (40 * q + i) = 0)) : hwq V' t q = hwq V t q := hw_congr (fun w h1 h2 => by
  refine decide_eq_decide.mpr ?_
  rw [show 40 * q + w - 1 = 40 * q + (w - 1) by omega, h (w - 1) (by omega)])
/-- the version that a transaction holds -/
theorem cR_hold {t q : Nat} (hst : l.stackTraces = false) (hZ : cOk G m S A h Z) (hq : lvZ Z (rRow q)) (ht : t ≤ 40) :
    kx_c G l mR_holding d 0 0 [.ref (Z.ad (rRow q)), .int (nI t)] h (fun o h' => o = .returned (some (va_rf (if hwq Z.V t q = 0 then none else some (Z.ad (rVer (40 * q + (hwq Z.V t q - 1))))))) ∧ h' = h) := by
  refine kx_cc (fun o h' hq => ?_) (cR_holding (f := vrF Z q) hst (hZ.is (rRow q) hq) (hZ.is (rByw q) hq) ht)
  have hh : hw (fun w => (vrF Z q w).isSome) t = hwq Z.V t q := hw_congr (fun w h1 h2 => by
    rw [vrF_is h1 (by omega)]
    refine decide_eq_decide.mpr ?_
    rw [show 40 * q + w - 1 = 40 * q + (w - 1) by omega])
  rw [hh] at hq
  refine ⟨?_, hq.2⟩
  rw [hq.1]
  by_cases e : hwq Z.V t q = 0
  · rw [if_pos e, if_pos e]
  · rw [if_neg e, if_neg e]
    obtain ⟨h1, h2⟩ := hwq_v e
    congr 3
    unfold vrF
    rw [if_pos ⟨by omega, by omega, h1⟩]
set_option maxRecDepth 100000 in
theorem cB_markRead {k md tn sc : Nat} (hst : l.stackTraces = false) (hZ : cOk G m S A h Z) (hk : k < 3) (ht : Z.tb k = true) (hmd : Z.sc (rTab k) 2 = nI md) (hmd2 : md ≤ 24) (hsc : Z.sc (rTab k) 3 = nI sc) (hsc2 : sc ≤ 40) (ht1 : 1 ≤ tn) (ht2 : tn ≤ 40) :
    kx_c G l mB_markRead (d + 1) 0 0 [.ref (Z.ad (rTab k)), .int (nI tn)] h (fun o h' => o = .returned none ∧ ∃ V2, cOk G m S A h' ((Z.sS (rTab k) 3 (nI (max sc tn))).wV V2) ∧ ∀ v, V2 v = if 24 * k ≤ v / 40 ∧ v / 40 < 24 * k + md ∧ v % 40 + 1 = hwq Z.V tn (v / 40) ∧ Z.V v / 4 < tn then Z.V v % 4 + 4 * tn else Z.V v) := by
  refine kx_in (by decide +kernel) (Nat.le_of_ble_eq_true rfl) hst ?_
  have loop : ∀ n (j : Nat) (h2 : kx_H) (V2 : Nat → Nat), j + n = md → cOk G m S A h2 ((Z.sS (rTab k) 3 (nI (max sc tn))).wV V2) → (∀ v, V2 v = if 24 * k ≤ v / 40 ∧ v / 40 < 24 * k + j ∧ v % 40 + 1 = hwq Z.V tn (v / 40) ∧ Z.V v / 4 < tn then Z.V v % 4 + 4 * tn else Z.V v) → kx_w G l mB_markRead (d + 1) (fun o h' => o = .returned none ∧ ∃ V2, cOk G m S A h' ((Z.sS (rTab k) 3 (nI (max sc tn))).wV V2) ∧ ∀ v, V2 v = if 24 * k ≤ v / 40 ∧ v / 40 < 24 * k + md ∧ v % 40 + 1 = hwq Z.V tn (v / 40) ∧ Z.V v / 4 < tn then Z.V v % 4 + 4 * tn else Z.V v) 0 0 14 [(0, .ref (Z.ad (rTab k))), (1, .int (nI tn)), (2, .int (nI j))] [] h2 := by
    intro n
    induction n with
    | zero =>
      intro j h2 V2 hj hz2 hV2
      refine kx_rn dB_markRead 2 16 [(0, .ref (Z.ad (rTab k))), (1, .int (nI tn)), (2, .int (nI j))] [.ref (Z.ad (rTab k)), .int (nI j)] rfl ?_
      refine pB_17 (v := .int (Z.sc (rTab k) 2)) rfl (kx_tk_dec rfl dB_markRead) (hz2.is (rTab k) ⟨hk, ht⟩) rfl ?_
      rw [hmd]
      refine kx_ic (tgt := 55) (kx_tk_dec rfl dB_markRead) rfl (fun e19 => ?_) (fun e19 => ?_)
      · skip
        replace e19 : nI md ≤ nI j := e19
        replace e19 : md ≤ j := (nI_leI (a := md) (b := j) (by omega) (by omega)).mp e19
        refine kx_retv (kx_tk_dec rfl dB_markRead) rfl ?_
        exact ⟨rfl, V2, hz2, fun v => by rw [hV2, show j = md by omega]⟩
      · skip
        replace e19 : ¬ nI md ≤ nI j := e19
        replace e19 : ¬ md ≤ j := fun z => e19 ((nI_leI (a := md) (b := j) (by omega) (by omega)).mpr z)
        exfalso; omega
    | succ n ih =>
      intro j h2 V2 hj hz2 hV2
      have hjm : j < md := by omega
      have hrow : lvZ Z (rRow (24 * k + j)) := ⟨by show 24 * k + j < 72; omega, by show Z.tb ((24 * k + j) / 24) = true; rw [show (24 * k + j) / 24 = k by omega]; exact ht⟩
      have hbyw : lvZ Z (rByw (24 * k + j)) := hrow
      refine kx_rn dB_markRead 2 16 [(0, .ref (Z.ad (rTab k))), (1, .int (nI tn)), (2, .int (nI j))] [.ref (Z.ad (rTab k)), .int (nI j)] rfl ?_
      refine pB_17 (v := .int (Z.sc (rTab k) 2)) rfl (kx_tk_dec rfl dB_markRead) (hz2.is (rTab k) ⟨hk, ht⟩) rfl ?_
      rw [hmd]
      refine kx_ic (tgt := 55) (kx_tk_dec rfl dB_markRead) rfl (fun e19 => ?_) (fun e19 => ?_)
      · skip
        replace e19 : nI md ≤ nI j := e19
        replace e19 : md ≤ j := (nI_leI (a := md) (b := j) (by omega) (by omega)).mp e19
        exfalso; omega
      · skip
        replace e19 : ¬ nI md ≤ nI j := e19
        replace e19 : ¬ md ≤ j := fun z => e19 ((nI_leI (a := md) (b := j) (by omega) (by omega)).mpr z)
        refine kx_rn dB_markRead 1 23 [(0, .ref (Z.ad (rTab k))), (1, .int (nI tn)), (2, .int (nI j))] [.ref (Z.ad (rTab k))] rfl ?_
        refine pB_11 (v := .ref (Z.ad (rRws k))) rfl (kx_tk_dec rfl dB_markRead) (hz2.is (rTab k) ⟨hk, ht⟩) rfl ?_
        refine kx_rn dB_markRead 1 27 [(0, .ref (Z.ad (rTab k))), (1, .int (nI tn)), (2, .int (nI j))] [.int (nI j), .ref (Z.ad (rRws k))] rfl ?_
        refine kx_qldN (x := some (Z.ad (rRow (24 * k + j)))) (i := j) rfl rfl (kx_tk_dec rfl dB_markRead) (hz2.is (rRws k) ⟨hk, ht⟩) (by show j < 24; omega) (by decide) (if_pos (show j < 24 by omega)) ?_
        refine kx_rn dB_markRead 1 29 [(0, .ref (Z.ad (rTab k))), (1, .int (nI tn)), (2, .int (nI j))] [.int (nI tn), .ref (Z.ad (rRow (24 * k + j)))] rfl ?_
        refine cB_46 (as := [.int (nI tn)]) (st := []) (mc := 0) (ms := 0) (kc := 0) (ks := 0) rfl (kx_tk_dec rfl dB_markRead) (hz2.is (rRow (24 * k + j)) hrow) rfl rfl (Nat.le_of_ble_eq_true rfl) (cR_hold (Z := (Z.sS (rTab k) 3 (nI (max sc tn))).wV V2) hst hz2 hrow (by omega)) (fun o h' hq => ?_)
        obtain ⟨rfl, hhe⟩ := hq
        subst h'
        have hwe : hwq V2 tn (24 * k + j) = hwq Z.V tn (24 * k + j) := hwq_congr (fun i hi => by
          rw [hV2]
          split
          · rename_i y; constructor <;> (intro z; omega)
          · exact Iff.rfl)
        rw [show ((Z.sS (rTab k) 3 (nI (max sc tn))).wV V2).V = V2 from rfl, hwe]
        by_cases hh : hwq Z.V tn (24 * k + j) = 0
        · rw [if_pos hh]
          show kx_w _ _ _ _ _ _ _ _ _ _ _
          refine kx_rn dB_markRead 2 34 [(0, .ref (Z.ad (rTab k))), (1, .int (nI tn)), (2, .int (nI j)), (3, .null)] [.null] rfl ?_
          refine kx_nul (x := none) (tgt := 49) (kx_tk_dec rfl dB_markRead) rfl (fun e34 => ?_) (fun a34 e34 => ?_)
          · skip
            refine kx_rn dB_markRead 2 14 [(0, .ref (Z.ad (rTab k))), (1, .int (nI tn)), (2, .int ((nI j) + 1)), (3, .null)] [] rfl ?_
            rw [show (nI j) + 1 = nI (j + 1) from kn_ad rfl rfl]
            refine kx_lsub (lv' := [(0, .ref (Z.ad (rTab k))), (1, .int (nI tn)), (2, .int (nI (j + 1)))]) (.cons₂ _ (.cons₂ _ (.cons₂ _ (.cons _ .slnil)))) ?_
            refine ih (j + 1) h2 V2 (by omega) hz2 (fun u => ?_)
            rw [hV2]
            by_cases y : 24 * k ≤ u / 40 ∧ u / 40 < 24 * k + j ∧ u % 40 + 1 = hwq Z.V tn (u / 40) ∧ Z.V u / 4 < tn
            · rw [if_pos y, if_pos ⟨y.1, by omega, y.2.2⟩]
            · rw [if_neg y]
              refine (if_neg (fun y2 => ?_)).symm
              by_cases y3 : u / 40 < 24 * k + j
              · exact y ⟨y2.1, y3, y2.2.2⟩
              · have h1 : u / 40 = 24 * k + j := by omega
                have h2 := y2.2.2.1
                rw [h1, hh] at h2
                omega
          · skip
            cases e34
        · rw [if_neg hh]
          show kx_w _ _ _ _ _ _ _ _ _ _ _
          obtain ⟨hv0, hv1⟩ := hwq_v hh
          obtain ⟨v, hv⟩ : ∃ v, v = 40 * (24 * k + j) + (hwq Z.V tn (24 * k + j) - 1) := ⟨_, rfl⟩
          rw [← hv] at hv0
          have hv40 : v / 40 = 24 * k + j ∧ v % 40 + 1 = hwq Z.V tn (24 * k + j) := by omega
          have hvv : V2 v = Z.V v := by rw [hV2, if_neg (by omega)]
          have hvl : ¬ V2 v = 0 := by rw [hvv]; exact hv0
          have hvlow := hz2.wf.low v
          have hvodd := (hz2.wf.odd v).resolve_left hvl
          replace hvlow : V2 v < 256 := hvlow
          replace hvodd : V2 v % 2 = 1 := hvodd
          rw [← hv]
          refine kx_rn dB_markRead 2 34 [(0, .ref (Z.ad (rTab k))), (1, .int (nI tn)), (2, .int (nI j)), (3, .ref (Z.ad (rVer v)))] [.ref (Z.ad (rVer v))] rfl ?_
          refine kx_nul (x := some (Z.ad (rVer v))) (tgt := 49) (kx_tk_dec rfl dB_markRead) rfl (fun e34 => ?_) (fun a34 e34 => ?_)
          · skip
            cases e34
          · skip
            refine kx_rn dB_markRead 2 39 [(0, .ref (Z.ad (rTab k))), (1, .int (nI tn)), (2, .int (nI j)), (3, .ref (Z.ad (rVer v)))] [.ref (Z.ad (rVer v)), .ref (Z.ad (rVer v))] rfl ?_
            refine pB_50 (v := .int (nI (V2 v / 4))) rfl (kx_tk_dec rfl dB_markRead) (hz2.is (rVer v) hvl) rfl ?_
            refine kx_rn dB_markRead 1 43 [(0, .ref (Z.ad (rTab k))), (1, .int (nI tn)), (2, .int (nI j)), (3, .ref (Z.ad (rVer v)))] [.int (nI tn), .int (nI (V2 v / 4)), .ref (Z.ad (rVer v))] rfl ?_
            refine cB_40 rfl (kx_tk_dec rfl dB_markRead) (Nat.le_of_ble_eq_true rfl) ?_
            rw [kmax (a := V2 v / 4) (b := tn) (by omega) (by omega)]
            refine qB_50 rfl (kx_tk_dec rfl dB_markRead) (hz2.is (rVer v) hvl) rfl rfl (Nat.le_of_ble_eq_true rfl) ?_
            have hx4 : (V2 v % 4 + 4 * max (V2 v / 4) tn) / 4 = max (V2 v / 4) tn := by omega
            have hx2 : (V2 v % 4 + 4 * max (V2 v / 4) tn) / 2 % 2 = V2 v / 2 % 2 := by omega
            refine cw_go (cz_sV (v := v) (x := V2 v % 4 + 4 * max (V2 v / 4) tn) hz2 hvl (by omega) (by omega) (by unfold vO; rw [hx4, hx2]; rfl)) (fun h3 hz3 => ?_)
            refine kx_rn dB_markRead 2 14 [(0, .ref (Z.ad (rTab k))), (1, .int (nI tn)), (2, .int ((nI j) + 1)), (3, .ref (Z.ad (rVer v)))] [] rfl ?_
            rw [show (nI j) + 1 = nI (j + 1) from kn_ad rfl rfl]
            refine kx_lsub (lv' := [(0, .ref (Z.ad (rTab k))), (1, .int (nI tn)), (2, .int (nI (j + 1)))]) (.cons₂ _ (.cons₂ _ (.cons₂ _ (.cons _ .slnil)))) ?_
            refine ih (j + 1) h3 (va_up V2 v (V2 v % 4 + 4 * max (V2 v / 4) tn)) (by omega) hz3 (fun u => ?_)
            simp only [va_up]
            by_cases z : u = v
            · rw [if_pos z, z, hvv]
              by_cases y : Z.V v / 4 < tn
              · rw [if_pos ⟨by omega, by omega, by rw [hv40.1]; exact hv40.2, y⟩, Nat.max_eq_right (by omega)]
              · rw [if_neg (fun z => y z.2.2.2), Nat.max_eq_left (by omega)]; omega
            · rw [if_neg z, hV2]
              by_cases y : 24 * k ≤ u / 40 ∧ u / 40 < 24 * k + j ∧ u % 40 + 1 = hwq Z.V tn (u / 40) ∧ Z.V u / 4 < tn
              · rw [if_pos y, if_pos ⟨y.1, by omega, y.2.2⟩]
              · rw [if_neg y]
                refine (if_neg (fun y2 => ?_)).symm
                by_cases y3 : u / 40 < 24 * k + j
                · exact y ⟨y2.1, y3, y2.2.2⟩
                · have h1 : u / 40 = 24 * k + j := by omega
                  have h2 := y2.2.2.1
                  rw [h1] at h2
                  omega
  refine kx_rn dB_markRead 2 2 [(0, .ref (Z.ad (rTab k))), (1, .int (nI tn))] [.ref (Z.ad (rTab k)), .ref (Z.ad (rTab k))] rfl ?_
  refine pB_21 (v := .int (Z.sc (rTab k) 3)) rfl (kx_tk_dec rfl dB_markRead) (hZ.is (rTab k) ⟨hk, ht⟩) rfl ?_
  rw [hsc]
  refine kx_rn dB_markRead 1 6 [(0, .ref (Z.ad (rTab k))), (1, .int (nI tn))] [.int (nI tn), .int (nI sc), .ref (Z.ad (rTab k))] rfl ?_
  refine cB_40 rfl (kx_tk_dec rfl dB_markRead) (Nat.le_of_ble_eq_true rfl) ?_
  rw [kmax (a := sc) (b := tn) (by omega) (by omega)]
  refine qB_21 rfl (kx_tk_dec rfl dB_markRead) (hZ.is (rTab k) ⟨hk, ht⟩) rfl rfl (Nat.le_of_ble_eq_true rfl) ?_
  refine cw_go (cz_sS (ρ := rTab k) hZ ⟨hk, ht⟩ 3 (nI (max sc tn)) rfl) (fun h2 hz2 => ?_)
  refine kx_rn dB_markRead 2 14 [(0, .ref (Z.ad (rTab k))), (1, .int (nI tn)), (2, .int 0)] [] rfl ?_
  exact loop md 0 h2 Z.V (by omega) hz2 (fun v => by rw [if_neg (by omega)])
set_option maxRecDepth 100000 in
theorem cS_add {j sz r v : Nat} (hst : l.stackTraces = false) (hZ : cOk G m S A h Z) (hj : j < 2) (hsz : Z.sc (rRs j) 2 = nI sz) (hsz2 : sz < 24) (hvl : ¬ Z.V v = 0) :
    kx_c G l mS_add d 0 0 [.ref (Z.ad (rRs j)), .int (nI r), .ref (Z.ad (rVal v))] h (fun o h' => o = .returned none ∧ cOk G m S A h' (((Z.sI (rNum j) (va_up (Z.ia (rNum j)) sz (nI r))).sI (rInn (24 * j + sz)) (va_cpy (Z.ia (rVal v)) (Z.ia (rInn (24 * j + sz))) 0 0 4)).sS (rRs j) 2 (nI (sz + 1)))) := by
  refine kx_in (by decide +kernel) (Nat.le_of_ble_eq_true rfl) hst ?_
  refine kx_rn dS_add 1 1 [(0, .ref (Z.ad (rRs j))), (1, .int (nI r)), (2, .ref (Z.ad (rVal v)))] [.ref (Z.ad (rRs j))] rfl ?_
  refine pS_20 (v := .int (Z.sc (rRs j) 2)) rfl (kx_tk_dec rfl dS_add) (hZ.is (rRs j) hj) rfl ?_
  rw [hsz]
  refine kx_rn dS_add 1 6 [(0, .ref (Z.ad (rRs j))), (1, .int (nI r)), (2, .ref (Z.ad (rVal v)))] [.int 24, .int (nI sz)] rfl ?_
  refine kx_ic (tgt := 45) (kx_tk_dec rfl dS_add) rfl (fun e6 => ?_) (fun e6 => ?_)
  · skip
    replace e6 : 24 ≤ nI sz := e6
    replace e6 : 24 ≤ sz := (nI_leI (a := 24) (b := sz) (by omega) (by omega)).mp e6
    exfalso; omega
  · skip
    replace e6 : ¬ 24 ≤ nI sz := e6
    replace e6 : ¬ 24 ≤ sz := fun z => e6 ((nI_leI (a := 24) (b := sz) (by omega) (by omega)).mpr z)
    refine kx_rn dS_add 1 10 [(0, .ref (Z.ad (rRs j))), (1, .int (nI r)), (2, .ref (Z.ad (rVal v)))] [.ref (Z.ad (rRs j))] rfl ?_
    refine pS_9 (v := .ref (Z.ad (rNum j))) rfl (kx_tk_dec rfl dS_add) (hZ.is (rRs j) hj) rfl ?_
    refine kx_rn dS_add 1 14 [(0, .ref (Z.ad (rRs j))), (1, .int (nI r)), (2, .ref (Z.ad (rVal v)))] [.ref (Z.ad (rRs j)), .ref (Z.ad (rNum j))] rfl ?_
    refine pS_20 (v := .int (Z.sc (rRs j) 2)) rfl (kx_tk_dec rfl dS_add) (hZ.is (rRs j) hj) rfl ?_
    rw [hsz]
    refine kx_rn dS_add 1 18 [(0, .ref (Z.ad (rRs j))), (1, .int (nI r)), (2, .ref (Z.ad (rVal v)))] [.int (nI r), .int (nI sz), .ref (Z.ad (rNum j))] rfl ?_
    refine kx_istN (i := sz) (kx_tk_dec rfl dS_add) (hZ.is (rNum j) hj) (by show sz < 24; omega) (by decide) ?_
    refine cw_go (cz_sI (ρ := (rNum j)) hZ hj (va_up (Z.ia (rNum j)) sz (nI r)) rfl) (fun h1 hz1 => ?_)
    refine kx_rn dS_add 3 22 [(0, .ref (Z.ad (rRs j))), (1, .int (nI r)), (2, .ref (Z.ad (rVal v)))] [.ref (Z.ad (rRs j)), .int 0, .ref (Z.ad (rVal v))] rfl ?_
    refine pS_17 (v := .ref (Z.ad (rVls j))) rfl (kx_tk_dec rfl dS_add) (hz1.is (rRs j) hj) rfl ?_
    refine kx_rn dS_add 1 26 [(0, .ref (Z.ad (rRs j))), (1, .int (nI r)), (2, .ref (Z.ad (rVal v)))] [.ref (Z.ad (rRs j)), .ref (Z.ad (rVls j)), .int 0, .ref (Z.ad (rVal v))] rfl ?_
    refine pS_20 (v := .int (Z.sc (rRs j) 2)) rfl (kx_tk_dec rfl dS_add) (hz1.is (rRs j) hj) rfl ?_
    rw [hsz]
    refine kx_qldN (x := some (Z.ad (rInn (24 * j + sz)))) (i := sz) rfl rfl (kx_tk_dec rfl dS_add) (hz1.is (rVls j) hj) (by show sz < 24; omega) (by decide) (if_pos (show sz < 24 by omega)) ?_
    refine kx_rn dS_add 2 32 [(0, .ref (Z.ad (rRs j))), (1, .int (nI r)), (2, .ref (Z.ad (rVal v)))] [.int 4, .int 0, .ref (Z.ad (rInn (24 * j + sz))), .int 0, .ref (Z.ad (rVal v))] rfl ?_
    refine cS_24 rfl (kx_tk_dec rfl dS_add) (Nat.le_of_ble_eq_true rfl) (hz1.is (rVal v) hvl) (hz1.is (rInn (24 * j + sz)) (show 24 * j + sz < 48 by omega)) (by decide) (by decide) (by decide) (by decide) (by decide) ?_
    refine cw_go (cz_sI (ρ := (rInn (24 * j + sz))) hz1 (show 24 * j + sz < 48 by omega) (va_cpy (Z.ia (rVal v)) (Z.ia (rInn (24 * j + sz))) 0 0 4) rfl) (fun h2 hz2 => ?_)
    refine kx_rn dS_add 2 37 [(0, .ref (Z.ad (rRs j))), (1, .int (nI r)), (2, .ref (Z.ad (rVal v)))] [.ref (Z.ad (rRs j)), .ref (Z.ad (rRs j))] rfl ?_
    refine pS_20 (v := .int (Z.sc (rRs j) 2)) rfl (kx_tk_dec rfl dS_add) (hz2.is (rRs j) hj) rfl ?_
    rw [hsz]
    refine kx_rn dS_add 2 42 [(0, .ref (Z.ad (rRs j))), (1, .int (nI r)), (2, .ref (Z.ad (rVal v)))] [.int ((nI sz) + 1), .ref (Z.ad (rRs j))] rfl ?_
    rw [show (nI sz) + 1 = nI (sz + 1) from kn_ad rfl rfl]
    refine qS_20 rfl (kx_tk_dec rfl dS_add) (hz2.is (rRs j) hj) rfl rfl (Nat.le_of_ble_eq_true rfl) ?_
    refine cw_go (cz_sS (ρ := (rRs j)) hz2 hj 2 (nI (sz + 1)) rfl) (fun h3 hz3 => ?_)
    refine kx_retv (kx_tk_dec rfl dS_add) rfl ?_
    exact ⟨rfl, hz3⟩
set_option maxRecDepth 100000 in
theorem cS_sum {j sz c : Nat} (hst : l.stackTraces = false) (hZ : cOk G m S A h Z) (hj : j < 2) (hsz : Z.sc (rRs j) 2 = nI sz) (hsz2 : sz ≤ 24) (hc : c < 4) :
    kx_c G l mS_sum d 0 0 [.ref (Z.ad (rRs j)), .int (nI c)] h (fun o h' => o = .returned (some (.long (lsum (fun i => Z.ia (rInn (24 * j + i)) c) sz))) ∧ h' = h) := by
  refine kx_in (by decide +kernel) (Nat.le_of_ble_eq_true rfl) hst ?_
  have loop : ∀ n (i : Nat), i + n = sz → kx_w G l mS_sum d (fun o h' => o = .returned (some (.long (lsum (fun i => Z.ia (rInn (24 * j + i)) c) sz))) ∧ h' = h) 0 0 5 [(0, .ref (Z.ad (rRs j))), (1, .int (nI c)), (2, .long (lsum (fun i => Z.ia (rInn (24 * j + i)) c) i)), (4, .int (nI i))] [] h := by
    intro n
    induction n with
    | zero =>
      intro i hi
      refine kx_rn dS_sum 2 8 [(0, .ref (Z.ad (rRs j))), (1, .int (nI c)), (2, .long (lsum (fun i => Z.ia (rInn (24 * j + i)) c) i)), (4, .int (nI i))] [.ref (Z.ad (rRs j)), .int (nI i)] rfl ?_
      refine pS_20 (v := .int (Z.sc (rRs j) 2)) rfl (kx_tk_dec rfl dS_sum) (hZ.is (rRs j) hj) rfl ?_
      rw [hsz]
      refine kx_ic (tgt := 33) (kx_tk_dec rfl dS_sum) rfl (fun e11 => ?_) (fun e11 => ?_)
      · skip
        replace e11 : nI sz ≤ nI i := e11
        replace e11 : sz ≤ i := (nI_leI (a := sz) (b := i) (by omega) (by omega)).mp e11
        refine kx_rn dS_sum 1 34 [(0, .ref (Z.ad (rRs j))), (1, .int (nI c)), (2, .long (lsum (fun i => Z.ia (rInn (24 * j + i)) c) i)), (4, .int (nI i))] [.long (lsum (fun i => Z.ia (rInn (24 * j + i)) c) i)] rfl ?_
        refine kx_retl (kx_tk_dec rfl dS_sum) rfl ?_
        rw [show i = sz by omega]; exact ⟨rfl, rfl⟩
      · skip
        replace e11 : ¬ nI sz ≤ nI i := e11
        replace e11 : ¬ sz ≤ i := fun z => e11 ((nI_leI (a := sz) (b := i) (by omega) (by omega)).mpr z)
        exfalso; omega
    | succ n ih =>
      intro i hi
      refine kx_rn dS_sum 2 8 [(0, .ref (Z.ad (rRs j))), (1, .int (nI c)), (2, .long (lsum (fun i => Z.ia (rInn (24 * j + i)) c) i)), (4, .int (nI i))] [.ref (Z.ad (rRs j)), .int (nI i)] rfl ?_
      refine pS_20 (v := .int (Z.sc (rRs j) 2)) rfl (kx_tk_dec rfl dS_sum) (hZ.is (rRs j) hj) rfl ?_
      rw [hsz]
      refine kx_ic (tgt := 33) (kx_tk_dec rfl dS_sum) rfl (fun e11 => ?_) (fun e11 => ?_)
      · skip
        replace e11 : nI sz ≤ nI i := e11
        replace e11 : sz ≤ i := (nI_leI (a := sz) (b := i) (by omega) (by omega)).mp e11
        exfalso; omega
      · skip
        replace e11 : ¬ nI sz ≤ nI i := e11
        replace e11 : ¬ sz ≤ i := fun z => e11 ((nI_leI (a := sz) (b := i) (by omega) (by omega)).mpr z)
        refine kx_rn dS_sum 2 16 [(0, .ref (Z.ad (rRs j))), (1, .int (nI c)), (2, .long (lsum (fun i => Z.ia (rInn (24 * j + i)) c) i)), (4, .int (nI i))] [.ref (Z.ad (rRs j)), .long (lsum (fun i => Z.ia (rInn (24 * j + i)) c) i)] rfl ?_
        refine pS_17 (v := .ref (Z.ad (rVls j))) rfl (kx_tk_dec rfl dS_sum) (hZ.is (rRs j) hj) rfl ?_
        refine kx_rn dS_sum 1 21 [(0, .ref (Z.ad (rRs j))), (1, .int (nI c)), (2, .long (lsum (fun i => Z.ia (rInn (24 * j + i)) c) i)), (4, .int (nI i))] [.int (nI i), .ref (Z.ad (rVls j)), .long (lsum (fun i => Z.ia (rInn (24 * j + i)) c) i)] rfl ?_
        refine kx_qldN (x := some (Z.ad (rInn (24 * j + i)))) (i := i) rfl rfl (kx_tk_dec rfl dS_sum) (hZ.is (rVls j) hj) (by show i < 24; omega) (by decide) (if_pos (show i < 24 by omega)) ?_
        refine kx_rn dS_sum 1 23 [(0, .ref (Z.ad (rRs j))), (1, .int (nI c)), (2, .long (lsum (fun i => Z.ia (rInn (24 * j + i)) c) i)), (4, .int (nI i))] [.int (nI c), .ref (Z.ad (rInn (24 * j + i))), .long (lsum (fun i => Z.ia (rInn (24 * j + i)) c) i)] rfl ?_
        refine kx_ildN (x := (Z.ia (rInn (24 * j + i))) c) (i := c) (kx_tk_dec rfl dS_sum) (hZ.is (rInn (24 * j + i)) (show 24 * j + i < 48 by omega)) (by show c < 4; omega) (by decide) rfl ?_
        refine kx_rn dS_sum 5 5 [(0, .ref (Z.ad (rRs j))), (1, .int (nI c)), (2, .long ((lsum (fun i => Z.ia (rInn (24 * j + i)) c) i) + (((Z.ia (rInn (24 * j + i))) c).toInt64))), (4, .int ((nI i) + 1))] [] rfl ?_
        rw [show (nI i) + 1 = nI (i + 1) from kn_ad rfl rfl]
        exact ih (i + 1) (by omega)
  refine kx_rn dS_sum 4 5 [(0, .ref (Z.ad (rRs j))), (1, .int (nI c)), (2, .long 0), (4, .int 0)] [] rfl ?_
  exact loop sz 0 (by omega)
set_option maxRecDepth 100000 in
theorem cV_result1 {i c : Int32} {sz : Nat} (hst : l.stackTraces = false) (hZ : cOk G m S A h Z) (hsz : Z.sc (rRs Z.fi) 2 = nI sz) (hsz2 : sz ≤ 24) (hi : i < 0 ∨ ¬ i < nI sz) :
    kx_c G l mV_result (d + 1) 1 6 [.ref (Z.ad rV), .int i, .int c] h (fun o h' => ∃ x, o = .threw x ∧ kx_is G h' x (.inr (11, [])) ∧ cOk G m S A h' Z) := by
  refine kx_in (by decide +kernel) (Nat.le_of_ble_eq_true rfl) hst ?_
  refine kx_rn dV_result 1 1 [(0, .ref (Z.ad rV)), (1, .int i), (2, .int c)] [.int i] rfl ?_
  refine kx_if (tgt := 15) (kx_tk_dec rfl dV_result) rfl (fun e1 => ?_) (fun e1 => ?_)
  · skip
    replace e1 : i < 0 := e1
    refine xV_176 (kc := 0) (ks := 0) rfl dV_result rfl rfl rfl rfl rfl (fun q hq => by cases hq) (Nat.le_of_ble_eq_true rfl) ?_
    exact ⟨_, rfl, cx_new hZ.b1 hZ.b2, cz_new hZ _⟩
  · skip
    replace e1 : ¬ i < 0 := e1
    refine kx_rn dV_result 2 6 [(0, .ref (Z.ad rV)), (1, .int i), (2, .int c)] [.ref (Z.ad rV), .int i] rfl ?_
    refine pV_47 (v := .ref (Z.ad (rRs Z.fi))) rfl (kx_tk_dec rfl dV_result) (hZ.is rV rfl) rfl ?_
    refine pV_158 (v := .int (Z.sc (rRs Z.fi) 2)) rfl (kx_tk_dec rfl dV_result) (hZ.is (rRs Z.fi) hZ.wf.fi) rfl ?_
    rw [hsz]
    refine kx_ic (tgt := 25) (kx_tk_dec rfl dV_result) rfl (fun e12 => ?_) (fun e12 => ?_)
    · skip
      replace e12 : i < nI sz := e12
      exact absurd e12 (hi.resolve_left e1)
    · skip
      replace e12 : ¬ i < nI sz := e12
      refine xV_176 (kc := 0) (ks := 0) rfl dV_result rfl rfl rfl rfl rfl (fun q hq => by cases hq) (Nat.le_of_ble_eq_true rfl) ?_
      exact ⟨_, rfl, cx_new hZ.b1 hZ.b2, cz_new hZ _⟩
set_option maxRecDepth 100000 in
theorem cV_result2 {i sz : Nat} (hst : l.stackTraces = false) (hZ : cOk G m S A h Z) (hsz : Z.sc (rRs Z.fi) 2 = nI sz) (hsz2 : sz ≤ 24) (hi : i < sz) :
    kx_c G l mV_result (d + 1) 0 0 [.ref (Z.ad rV), .int (nI i), .int ((-1))] h (fun o h' => o = .returned (some (.int (Z.ia (rNum Z.fi) i))) ∧ cOk G m S A h' Z) := by
  refine kx_in (by decide +kernel) (Nat.le_of_ble_eq_true rfl) hst ?_
  refine kx_rn dV_result 1 1 [(0, .ref (Z.ad rV)), (1, .int (nI i)), (2, .int ((-1)))] [.int (nI i)] rfl ?_
  refine kx_if (tgt := 15) (kx_tk_dec rfl dV_result) rfl (fun e1 => ?_) (fun e1 => ?_)
  · skip
    replace e1 : nI i < 0 := e1
    exact absurd e1 (nI_pos (by omega))
  · skip
    replace e1 : ¬ nI i < 0 := e1
    refine kx_rn dV_result 2 6 [(0, .ref (Z.ad rV)), (1, .int (nI i)), (2, .int ((-1)))] [.ref (Z.ad rV), .int (nI i)] rfl ?_
    refine pV_47 (v := .ref (Z.ad (rRs Z.fi))) rfl (kx_tk_dec rfl dV_result) (hZ.is rV rfl) rfl ?_
    refine pV_158 (v := .int (Z.sc (rRs Z.fi) 2)) rfl (kx_tk_dec rfl dV_result) (hZ.is (rRs Z.fi) hZ.wf.fi) rfl ?_
    rw [hsz]
    refine kx_ic (tgt := 25) (kx_tk_dec rfl dV_result) rfl (fun e12 => ?_) (fun e12 => ?_)
    · skip
      replace e12 : nI i < nI sz := e12
      replace e12 : i < sz := (nI_ltI (a := i) (b := sz) (by omega) (by omega)).mp e12
      refine kx_rn dV_result 2 27 [(0, .ref (Z.ad rV)), (1, .int (nI i)), (2, .int ((-1)))] [.int ((-1)), .int ((-1))] rfl ?_
      refine kx_ic (tgt := 40) (kx_tk_dec rfl dV_result) rfl (fun e27 => ?_) (fun e27 => ?_)
      · skip
        replace e27 : ¬ ((-1) : Int32) = (-1) := e27
        exact absurd (by decide) e27
      · skip
        replace e27 : ((-1) : Int32) = (-1) := e27
        refine kx_rn dV_result 1 31 [(0, .ref (Z.ad rV)), (1, .int (nI i)), (2, .int ((-1)))] [.ref (Z.ad rV)] rfl ?_
        refine pV_47 (v := .ref (Z.ad (rRs Z.fi))) rfl (kx_tk_dec rfl dV_result) (hZ.is rV rfl) rfl ?_
        refine pV_179 (v := .ref (Z.ad (rNum Z.fi))) rfl (kx_tk_dec rfl dV_result) (hZ.is (rRs Z.fi) hZ.wf.fi) rfl ?_
        refine kx_rn dV_result 1 38 [(0, .ref (Z.ad rV)), (1, .int (nI i)), (2, .int ((-1)))] [.int (nI i), .ref (Z.ad (rNum Z.fi))] rfl ?_
        refine kx_ildN (x := (Z.ia (rNum Z.fi)) i) (i := i) (kx_tk_dec rfl dV_result) (hZ.is (rNum Z.fi) hZ.wf.fi) (by show i < 24; omega) (by decide) rfl ?_
        refine kx_ret (ty := .int) (kx_tk_dec rfl dV_result) rfl rfl ?_
        exact ⟨rfl, hZ⟩
    · skip
      replace e12 : ¬ nI i < nI sz := e12
      replace e12 : ¬ i < sz := fun z => e12 ((nI_ltI (a := i) (b := sz) (by omega) (by omega)).mpr z)
      exfalso; omega
set_option maxRecDepth 100000 in
theorem cV_result3 {i sz : Nat} {c : Int32} (hst : l.stackTraces = false) (hZ : cOk G m S A h Z) (hsz : Z.sc (rRs Z.fi) 2 = nI sz) (hsz2 : sz ≤ 24) (hi : i < sz) (hcn : ¬ c = -1) (hc : c < 0 ∨ ¬ c < 4) :
    kx_c G l mV_result (d + 1) 1 6 [.ref (Z.ad rV), .int (nI i), .int c] h (fun o h' => ∃ x, o = .threw x ∧ kx_is G h' x (.inr (14, [])) ∧ cOk G m S A h' Z) := by
  refine kx_in (by decide +kernel) (Nat.le_of_ble_eq_true rfl) hst ?_
  refine kx_rn dV_result 1 1 [(0, .ref (Z.ad rV)), (1, .int (nI i)), (2, .int c)] [.int (nI i)] rfl ?_
  refine kx_if (tgt := 15) (kx_tk_dec rfl dV_result) rfl (fun e1 => ?_) (fun e1 => ?_)
  · skip
    replace e1 : nI i < 0 := e1
    exact absurd e1 (nI_pos (by omega))
  · skip
    replace e1 : ¬ nI i < 0 := e1
    refine kx_rn dV_result 2 6 [(0, .ref (Z.ad rV)), (1, .int (nI i)), (2, .int c)] [.ref (Z.ad rV), .int (nI i)] rfl ?_
    refine pV_47 (v := .ref (Z.ad (rRs Z.fi))) rfl (kx_tk_dec rfl dV_result) (hZ.is rV rfl) rfl ?_
    refine pV_158 (v := .int (Z.sc (rRs Z.fi) 2)) rfl (kx_tk_dec rfl dV_result) (hZ.is (rRs Z.fi) hZ.wf.fi) rfl ?_
    rw [hsz]
    refine kx_ic (tgt := 25) (kx_tk_dec rfl dV_result) rfl (fun e12 => ?_) (fun e12 => ?_)
    · skip
      replace e12 : nI i < nI sz := e12
      replace e12 : i < sz := (nI_ltI (a := i) (b := sz) (by omega) (by omega)).mp e12
      refine kx_rn dV_result 2 27 [(0, .ref (Z.ad rV)), (1, .int (nI i)), (2, .int c)] [.int ((-1)), .int c] rfl ?_
      refine kx_ic (tgt := 40) (kx_tk_dec rfl dV_result) rfl (fun e27 => ?_) (fun e27 => ?_)
      · skip
        replace e27 : ¬ c = (-1) := e27
        refine kx_rn dV_result 2 42 [(0, .ref (Z.ad rV)), (1, .int (nI i)), (2, .int c)] [.int c, .ref (Z.ad rV)] rfl ?_
        refine cV_182 (as := [.int c]) (st := []) (mc := 1) (ms := 6) (kc := 0) (ks := 0) rfl (kx_tk_dec rfl dV_result) (hZ.is rV rfl) rfl rfl (Nat.le_of_ble_eq_true rfl) (cV_mustBeColumn1 hst hZ hc) (fun o h' hq => ?_)
        obtain ⟨x, rfl, hx, hz0⟩ := hq
        exact kx_out (fun q hq => by cases hq) ⟨x, rfl, hx, hz0⟩
      · skip
        replace e27 : c = (-1) := e27
        exact absurd e27 hcn
    · skip
      replace e12 : ¬ nI i < nI sz := e12
      replace e12 : ¬ i < sz := fun z => e12 ((nI_ltI (a := i) (b := sz) (by omega) (by omega)).mpr z)
      exfalso; omega
set_option maxRecDepth 100000 in
theorem cV_result0 {i sz c : Nat} (hst : l.stackTraces = false) (hZ : cOk G m S A h Z) (hsz : Z.sc (rRs Z.fi) 2 = nI sz) (hsz2 : sz ≤ 24) (hi : i < sz) (hc : c < 4) :
    kx_c G l mV_result (d + 1) 0 0 [.ref (Z.ad rV), .int (nI i), .int (nI c)] h (fun o h' => o = .returned (some (.int (Z.ia (rInn (24 * Z.fi + i)) c))) ∧ cOk G m S A h' Z) := by
  refine kx_in (by decide +kernel) (Nat.le_of_ble_eq_true rfl) hst ?_
  refine kx_rn dV_result 1 1 [(0, .ref (Z.ad rV)), (1, .int (nI i)), (2, .int (nI c))] [.int (nI i)] rfl ?_
  refine kx_if (tgt := 15) (kx_tk_dec rfl dV_result) rfl (fun e1 => ?_) (fun e1 => ?_)
  · skip
    replace e1 : nI i < 0 := e1
    exact absurd e1 (nI_pos (by omega))
  · skip
    replace e1 : ¬ nI i < 0 := e1
    refine kx_rn dV_result 2 6 [(0, .ref (Z.ad rV)), (1, .int (nI i)), (2, .int (nI c))] [.ref (Z.ad rV), .int (nI i)] rfl ?_
    refine pV_47 (v := .ref (Z.ad (rRs Z.fi))) rfl (kx_tk_dec rfl dV_result) (hZ.is rV rfl) rfl ?_
    refine pV_158 (v := .int (Z.sc (rRs Z.fi) 2)) rfl (kx_tk_dec rfl dV_result) (hZ.is (rRs Z.fi) hZ.wf.fi) rfl ?_
    rw [hsz]
    refine kx_ic (tgt := 25) (kx_tk_dec rfl dV_result) rfl (fun e12 => ?_) (fun e12 => ?_)
    · skip
      replace e12 : nI i < nI sz := e12
      replace e12 : i < sz := (nI_ltI (a := i) (b := sz) (by omega) (by omega)).mp e12
      refine kx_rn dV_result 2 27 [(0, .ref (Z.ad rV)), (1, .int (nI i)), (2, .int (nI c))] [.int ((-1)), .int (nI c)] rfl ?_
      refine kx_ic (tgt := 40) (kx_tk_dec rfl dV_result) rfl (fun e27 => ?_) (fun e27 => ?_)
      · skip
        replace e27 : ¬ nI c = (-1) := e27
        refine kx_rn dV_result 2 42 [(0, .ref (Z.ad rV)), (1, .int (nI i)), (2, .int (nI c))] [.int (nI c), .ref (Z.ad rV)] rfl ?_
        refine cV_182 (as := [.int (nI c)]) (st := []) (mc := 0) (ms := 0) (kc := 0) (ks := 0) rfl (kx_tk_dec rfl dV_result) (hZ.is rV rfl) rfl rfl (Nat.le_of_ble_eq_true rfl) (cV_mustBeColumn0 hst hZ (nI_pos (by omega)) (nI_lt (b := 4) (by omega) (by omega))) (fun o h' hq => ?_)
        obtain ⟨rfl, hz0⟩ := hq
        show kx_w _ _ _ _ _ _ _ _ _ _ _
        refine kx_rn dV_result 1 46 [(0, .ref (Z.ad rV)), (1, .int (nI i)), (2, .int (nI c))] [.ref (Z.ad rV)] rfl ?_
        refine pV_47 (v := .ref (Z.ad (rRs Z.fi))) rfl (kx_tk_dec rfl dV_result) (hz0.is rV rfl) rfl ?_
        refine pV_185 (v := .ref (Z.ad (rVls Z.fi))) rfl (kx_tk_dec rfl dV_result) (hz0.is (rRs Z.fi) hZ.wf.fi) rfl ?_
        refine kx_rn dV_result 1 53 [(0, .ref (Z.ad rV)), (1, .int (nI i)), (2, .int (nI c))] [.int (nI i), .ref (Z.ad (rVls Z.fi))] rfl ?_
        refine kx_qldN (x := some (Z.ad (rInn (24 * Z.fi + i)))) (i := i) rfl rfl (kx_tk_dec rfl dV_result) (hz0.is (rVls Z.fi) hZ.wf.fi) (by show i < 24; omega) (by decide) (if_pos (show i < 24 by omega)) ?_
        refine kx_rn dV_result 1 55 [(0, .ref (Z.ad rV)), (1, .int (nI i)), (2, .int (nI c))] [.int (nI c), .ref (Z.ad (rInn (24 * Z.fi + i)))] rfl ?_
        refine kx_ildN (x := (Z.ia (rInn (24 * Z.fi + i))) c) (i := c) (kx_tk_dec rfl dV_result) (hz0.is (rInn (24 * Z.fi + i)) (show 24 * Z.fi + i < 48 by have := hZ.wf.fi; omega)) (by show c < 4; omega) (by decide) rfl ?_
        refine kx_ret (ty := .int) (kx_tk_dec rfl dV_result) rfl rfl ?_
        exact ⟨rfl, hz0⟩
      · skip
        replace e27 : nI c = (-1) := e27
        exact absurd (e27 ▸ nI_pos (n := c) (by omega)) (by decide)
    · skip
      replace e12 : ¬ nI i < nI sz := e12
      replace e12 : ¬ i < sz := fun z => e12 ((nI_ltI (a := i) (b := sz) (by omega) (by omega)).mpr z)
      exfalso; omega
set_option maxRecDepth 100000 in
theorem cV_mean1 {c : Int32} (hst : l.stackTraces = false) (hZ : cOk G m S A h Z) (hc : c < 0 ∨ ¬ c < 4) :
    kx_c G l mV_mean (d + 1) 1 6 [.ref (Z.ad rV), .int c] h (fun o h' => ∃ x, o = .threw x ∧ kx_is G h' x (.inr (14, [])) ∧ cOk G m S A h' Z) := by
  refine kx_in (by decide +kernel) (Nat.le_of_ble_eq_true rfl) hst ?_
  refine kx_rn dV_mean 2 2 [(0, .ref (Z.ad rV)), (1, .int c)] [.int c, .ref (Z.ad rV)] rfl ?_
  refine cV_182 (as := [.int c]) (st := []) (mc := 1) (ms := 6) (kc := 0) (ks := 0) rfl (kx_tk_dec rfl dV_mean) (hZ.is rV rfl) rfl rfl (Nat.le_of_ble_eq_true rfl) (cV_mustBeColumn1 hst hZ hc) (fun o h' hq => ?_)
  obtain ⟨x, rfl, hx, hz0⟩ := hq
  exact kx_out (fun q hq => by cases hq) ⟨x, rfl, hx, hz0⟩
set_option maxRecDepth 100000 in
theorem cV_mean2 {c sz : Nat} (hst : l.stackTraces = false) (hZ : cOk G m S A h Z) (hsz : Z.sc (rRs Z.fi) 2 = nI sz) (hsz2 : sz ≤ 24) (hc : c < 4) (hs0 : sz = 0) :
    kx_c G l mV_mean (d + 1) 1 6 [.ref (Z.ad rV), .int (nI c)] h (fun o h' => ∃ x, o = .threw x ∧ kx_is G h' x (.inr (13, [])) ∧ cOk G m S A h' Z) := by
  refine kx_in (by decide +kernel) (Nat.le_of_ble_eq_true rfl) hst ?_
  refine kx_rn dV_mean 2 2 [(0, .ref (Z.ad rV)), (1, .int (nI c))] [.int (nI c), .ref (Z.ad rV)] rfl ?_
  refine cV_182 (as := [.int (nI c)]) (st := []) (mc := 0) (ms := 0) (kc := 1) (ks := 6) rfl (kx_tk_dec rfl dV_mean) (hZ.is rV rfl) rfl rfl (Nat.le_of_ble_eq_true rfl) (cV_mustBeColumn0 hst hZ (nI_pos (by omega)) (nI_lt (b := 4) (by omega) (by omega))) (fun o h' hq => ?_)
  obtain ⟨rfl, hz0⟩ := hq
  show kx_w _ _ _ _ _ _ _ _ _ _ _
  refine kx_rn dV_mean 1 6 [(0, .ref (Z.ad rV)), (1, .int (nI c))] [.ref (Z.ad rV)] rfl ?_
  refine pV_47 (v := .ref (Z.ad (rRs Z.fi))) rfl (kx_tk_dec rfl dV_mean) (hz0.is rV rfl) rfl ?_
  refine pV_158 (v := .int (Z.sc (rRs Z.fi) 2)) rfl (kx_tk_dec rfl dV_mean) (hz0.is (rRs Z.fi) hZ.wf.fi) rfl ?_
  rw [hsz]
  refine kx_if (tgt := 25) (kx_tk_dec rfl dV_mean) rfl (fun e12 => ?_) (fun e12 => ?_)
  · skip
    replace e12 : ¬ nI sz = 0 := e12
    replace e12 : ¬ sz = 0 := fun z => e12 ((nI_eq (a := sz) (b := 0) (by omega) (by omega)).mpr z)
    exact absurd hs0 e12
  · skip
    replace e12 : nI sz = 0 := e12
    replace e12 : sz = 0 := (nI_eq (a := sz) (b := 0) (by omega) (by omega)).mp e12
    refine xV_191 (kc := 0) (ks := 0) rfl dV_mean rfl rfl rfl rfl rfl (fun q hq => by cases hq) (Nat.le_of_ble_eq_true rfl) ?_
    exact ⟨_, rfl, cx_new hz0.b1 hz0.b2, cz_new hz0 _⟩
set_option maxRecDepth 100000 in
theorem cV_mean0 {c sz : Nat} (hst : l.stackTraces = false) (hZ : cOk G m S A h Z) (hsz : Z.sc (rRs Z.fi) 2 = nI sz) (hsz2 : sz ≤ 24) (hc : c < 4) (hs0 : ¬ sz = 0) :
    kx_c G l mV_mean (d + 1) 0 0 [.ref (Z.ad rV), .int (nI c)] h (fun o h' => o = .returned (some (.double (FP.ddiv (FP.l2d (lsum (fun i => Z.ia (rInn (24 * Z.fi + i)) c) sz)) (FP.i2d (nI sz))))) ∧ cOk G m S A h' Z) := by
  refine kx_in (by decide +kernel) (Nat.le_of_ble_eq_true rfl) hst ?_
  refine kx_rn dV_mean 2 2 [(0, .ref (Z.ad rV)), (1, .int (nI c))] [.int (nI c), .ref (Z.ad rV)] rfl ?_
  refine cV_182 (as := [.int (nI c)]) (st := []) (mc := 0) (ms := 0) (kc := 0) (ks := 0) rfl (kx_tk_dec rfl dV_mean) (hZ.is rV rfl) rfl rfl (Nat.le_of_ble_eq_true rfl) (cV_mustBeColumn0 hst hZ (nI_pos (by omega)) (nI_lt (b := 4) (by omega) (by omega))) (fun o h' hq => ?_)
  obtain ⟨rfl, hz0⟩ := hq
  show kx_w _ _ _ _ _ _ _ _ _ _ _
  refine kx_rn dV_mean 1 6 [(0, .ref (Z.ad rV)), (1, .int (nI c))] [.ref (Z.ad rV)] rfl ?_
  refine pV_47 (v := .ref (Z.ad (rRs Z.fi))) rfl (kx_tk_dec rfl dV_mean) (hz0.is rV rfl) rfl ?_
  refine pV_158 (v := .int (Z.sc (rRs Z.fi) 2)) rfl (kx_tk_dec rfl dV_mean) (hz0.is (rRs Z.fi) hZ.wf.fi) rfl ?_
  rw [hsz]
  refine kx_if (tgt := 25) (kx_tk_dec rfl dV_mean) rfl (fun e12 => ?_) (fun e12 => ?_)
  · skip
    replace e12 : ¬ nI sz = 0 := e12
    replace e12 : ¬ sz = 0 := fun z => e12 ((nI_eq (a := sz) (b := 0) (by omega) (by omega)).mpr z)
    refine kx_rn dV_mean 1 26 [(0, .ref (Z.ad rV)), (1, .int (nI c))] [.ref (Z.ad rV)] rfl ?_
    refine pV_47 (v := .ref (Z.ad (rRs Z.fi))) rfl (kx_tk_dec rfl dV_mean) (hz0.is rV rfl) rfl ?_
    refine kx_rn dV_mean 1 30 [(0, .ref (Z.ad rV)), (1, .int (nI c))] [.int (nI c), .ref (Z.ad (rRs Z.fi))] rfl ?_
    refine cV_194 (as := [.int (nI c)]) (st := []) (mc := 0) (ms := 0) (kc := 0) (ks := 0) rfl (kx_tk_dec rfl dV_mean) (hz0.is (rRs Z.fi) hZ.wf.fi) rfl rfl (Nat.le_of_ble_eq_true rfl) (cS_sum hst hz0 hZ.wf.fi hsz hsz2 hc) (fun o h' hq => ?_)
    obtain ⟨rfl, hhe⟩ := hq
    subst hhe
    show kx_w _ _ _ _ _ _ _ _ _ _ _
    refine kx_l2d (kx_tk_dec rfl dV_mean) ?_
    refine kx_rn dV_mean 1 35 [(0, .ref (Z.ad rV)), (1, .int (nI c))] [.ref (Z.ad rV), .double (FP.l2d (lsum (fun i => Z.ia (rInn (24 * Z.fi + i)) c) sz))] rfl ?_
    refine pV_47 (v := .ref (Z.ad (rRs Z.fi))) rfl (kx_tk_dec rfl dV_mean) (hz0.is rV rfl) rfl ?_
    refine pV_158 (v := .int (Z.sc (rRs Z.fi) 2)) rfl (kx_tk_dec rfl dV_mean) (hz0.is (rRs Z.fi) hZ.wf.fi) rfl ?_
    rw [hsz]
    refine kx_rn dV_mean 1 42 [(0, .ref (Z.ad rV)), (1, .int (nI c))] [.double (FP.i2d (nI sz)), .double (FP.l2d (lsum (fun i => Z.ia (rInn (24 * Z.fi + i)) c) sz))] rfl ?_
    refine kx_ddiv (kx_tk_dec rfl dV_mean) (km_nn _ (by omega) (by omega)) ?_
    refine kx_retd (kx_tk_dec rfl dV_mean) rfl ?_
    exact ⟨rfl, hz0⟩
  · skip
    replace e12 : nI sz = 0 := e12
    replace e12 : sz = 0 := (nI_eq (a := sz) (b := 0) (by omega) (by omega)).mp e12
    exact absurd e12 hs0
end KC34
