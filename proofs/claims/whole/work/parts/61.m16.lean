/-! ===== the reference: settings, lines taken, a new one ===== -/
section KM16
variable {G : kx_G} {l : Launch} {d : Nat} {h0 : kx_H} {m : Nat} {S : Nat → Int32} {A : Nat → Nat → Int32}
set_option maxRecDepth 100000 in
theorem cM_settingText {ln : Nat} (hst : l.stackTraces = false) (hm : mOk G h0 m) (hl : S 10 = nI ln) (hln : ln ≤ 40) (h18 : S 18 = 0) (h19 : S 19 = nI 0) :
    kx_c G l mM_settingText (d + 3) 0 0 [.ref m] (mH h0 m S A) (fun o h' => ∃ (S1 : Nat → Int32) (A1 : Nat → Nat → Int32), o = .returned (some (.int (b01 (pSet (A 7) ln).1))) ∧ h' = mH h0 m S1 A1 ∧ mPR S A 0 (pSet (A 7) ln) S1 A1) := by
  refine kx_in (by decide +kernel) (Nat.le_of_ble_eq_true rfl) hst ?_
  refine kx_rn dM_settingText 1 1 [(0, .ref m)] [.ref m] rfl ?_
  refine pM_96 (v := .int (S 18)) rfl (kx_tk_dec rfl dM_settingText) (mh_o hm) rfl ?_
  rw [h18]
  refine kx_rn dM_settingText 1 5 [(0, .ref m)] [.ref m, .int 0] rfl ?_
  refine pM_90 (v := .int (S 10)) rfl (kx_tk_dec rfl dM_settingText) (mh_o hm) rfl ?_
  rw [hl]
  refine kx_ic (tgt := 39) (kx_tk_dec rfl dM_settingText) rfl (fun e8 => ?_) (fun e8 => ?_)
  · skip
    replace e8 : (0 : Int32) = nI ln := e8
    replace e8 : 0 = ln := (nI_eq (a := 0) (b := ln) (by omega) (by omega)).mp e8
    refine kx_rn dM_settingText 1 40 [(0, .ref m)] [.int 0] rfl ?_
    refine kx_ret (ty := .boolean) (kx_tk_dec rfl dM_settingText) rfl rfl ?_
    have hr : pSet (A 7) ln = (false, 0, []) := by unfold pSet; rw [if_neg (by rw [kCur_out (by omega)]; decide)]
    rw [hr]
    exact ⟨S, A, rfl, rfl, h18, fun k _ _ => rfl, fun k _ => rfl, fun i _ => rfl, fun z => by cases z⟩
  · skip
    replace e8 : ¬ (0 : Int32) = nI ln := e8
    replace e8 : ¬ 0 = ln := fun z => e8 ((nI_eq (a := 0) (b := ln) (by omega) (by omega)).mpr z)
    refine kx_rn dM_settingText 1 12 [(0, .ref m)] [.ref m] rfl ?_
    refine pM_28 (v := .ref (m + 7)) rfl (kx_tk_dec rfl dM_settingText) (mh_o hm) rfl ?_
    refine kx_rn dM_settingText 1 16 [(0, .ref m)] [.ref m, .ref (m + 7)] rfl ?_
    refine pM_96 (v := .int (S 18)) rfl (kx_tk_dec rfl dM_settingText) (mh_o hm) rfl ?_
    rw [h18]
    refine mh_ld (k := 7) (x := A 7 0) (i := 0) rfl rfl (kx_tk_dec rfl dM_settingText) hm (by show 0 < 40; omega) ?_
    refine kx_rn dM_settingText 1 22 [(0, .ref m)] [.int 97, .int (A 7 0)] rfl ?_
    refine kx_ic (tgt := 39) (kx_tk_dec rfl dM_settingText) rfl (fun e22 => ?_) (fun e22 => ?_)
    · skip
      replace e22 : A 7 0 < 97 := e22
      refine kx_rn dM_settingText 1 40 [(0, .ref m)] [.int 0] rfl ?_
      refine kx_ret (ty := .boolean) (kx_tk_dec rfl dM_settingText) rfl rfl ?_
      have hr : pSet (A 7) ln = (false, 0, []) := by unfold pSet; rw [if_neg (by rw [kCur_in (by omega)]; unfold isCol; rw [decide_eq_true_eq]; rintro ⟨z1, z2⟩; rw [kI_le] at z1; rw [kI_lt] at e22; omega)]
      rw [hr]
      exact ⟨S, A, rfl, rfl, h18, fun k _ _ => rfl, fun k _ => rfl, fun i _ => rfl, fun z => by cases z⟩
    · skip
      replace e22 : ¬ A 7 0 < 97 := e22
      refine kx_rn dM_settingText 1 26 [(0, .ref m)] [.ref m] rfl ?_
      refine pM_28 (v := .ref (m + 7)) rfl (kx_tk_dec rfl dM_settingText) (mh_o hm) rfl ?_
      refine kx_rn dM_settingText 1 30 [(0, .ref m)] [.ref m, .ref (m + 7)] rfl ?_
      refine pM_96 (v := .int (S 18)) rfl (kx_tk_dec rfl dM_settingText) (mh_o hm) rfl ?_
      rw [h18]
      refine mh_ld (k := 7) (x := A 7 0) (i := 0) rfl rfl (kx_tk_dec rfl dM_settingText) hm (by show 0 < 40; omega) ?_
      refine kx_rn dM_settingText 1 36 [(0, .ref m)] [.int 100, .int (A 7 0)] rfl ?_
      refine kx_ic (tgt := 41) (kx_tk_dec rfl dM_settingText) rfl (fun e36 => ?_) (fun e36 => ?_)
      · skip
        replace e36 : A 7 0 ≤ 100 := e36
        have hcol : isCol (kCur (A 7) ln 0) = true := by
          rw [kCur_in (by omega)]; unfold isCol; rw [decide_eq_true_eq]
          refine ⟨?_, e36⟩
          rw [kI_lt] at e22; rw [kI_le]; omega
        refine kx_rn dM_settingText 2 43 [(0, .ref m)] [.ref m, .ref m] rfl ?_
        refine pM_96 (v := .int (S 18)) rfl (kx_tk_dec rfl dM_settingText) (mh_o hm) rfl ?_
        rw [h18]
        refine kx_rn dM_settingText 2 48 [(0, .ref m)] [.int 1, .ref m] rfl ?_
        refine qM_96 rfl (kx_tk_dec rfl dM_settingText) (mh_o hm) rfl rfl (Nat.le_of_ble_eq_true rfl) ?_
        rw [mh_p18]
        refine kx_rn dM_settingText 1 52 [(0, .ref m)] [.ref m] rfl ?_
        refine pM_96 (v := .int 1) rfl (kx_tk_dec rfl dM_settingText) (mh_o hm) rfl ?_
        refine kx_rn dM_settingText 1 56 [(0, .ref m)] [.ref m, .int 1] rfl ?_
        refine pM_90 (v := .int (S 10)) rfl (kx_tk_dec rfl dM_settingText) (mh_o hm) rfl ?_
        rw [hl]
        refine kx_ic (tgt := 76) (kx_tk_dec rfl dM_settingText) rfl (fun e59 => ?_) (fun e59 => ?_)
        · skip
          replace e59 : (1 : Int32) = nI ln := e59
          replace e59 : 1 = ln := (nI_eq (a := 1) (b := ln) (by omega) (by omega)).mp e59
          refine kx_rn dM_settingText 1 77 [(0, .ref m)] [.int 0] rfl ?_
          refine kx_ret (ty := .boolean) (kx_tk_dec rfl dM_settingText) rfl rfl ?_
          have hr : pSet (A 7) ln = (false, 1, []) := by unfold pSet; rw [if_pos hcol, if_neg (by rw [kCur_out (by omega)]; decide)]
          rw [hr]
          exact ⟨_, _, rfl, rfl, rfl, fun k z18 z19 => va_up_ne _ _ z18, fun k _ => rfl, fun i _ => rfl, fun z => by cases z⟩
        · skip
          replace e59 : ¬ (1 : Int32) = nI ln := e59
          replace e59 : ¬ 1 = ln := fun z => e59 ((nI_eq (a := 1) (b := ln) (by omega) (by omega)).mpr z)
          refine kx_rn dM_settingText 1 63 [(0, .ref m)] [.ref m] rfl ?_
          refine pM_28 (v := .ref (m + 7)) rfl (kx_tk_dec rfl dM_settingText) (mh_o hm) rfl ?_
          refine kx_rn dM_settingText 1 67 [(0, .ref m)] [.ref m, .ref (m + 7)] rfl ?_
          refine pM_96 (v := .int 1) rfl (kx_tk_dec rfl dM_settingText) (mh_o hm) rfl ?_
          refine mh_ld (k := 7) (x := A 7 1) (i := 1) rfl rfl (kx_tk_dec rfl dM_settingText) hm (by show 1 < 40; omega) ?_
          refine kx_rn dM_settingText 1 73 [(0, .ref m)] [.int 61, .int (A 7 1)] rfl ?_
          refine kx_ic (tgt := 78) (kx_tk_dec rfl dM_settingText) rfl (fun e73 => ?_) (fun e73 => ?_)
          · skip
            replace e73 : A 7 1 = 61 := e73
            refine kx_rn dM_settingText 2 80 [(0, .ref m)] [.ref m, .ref m] rfl ?_
            refine pM_96 (v := .int 1) rfl (kx_tk_dec rfl dM_settingText) (mh_o hm) rfl ?_
            refine kx_rn dM_settingText 2 85 [(0, .ref m)] [.int 2, .ref m] rfl ?_
            refine qM_96 rfl (kx_tk_dec rfl dM_settingText) (mh_o hm) rfl rfl (Nat.le_of_ble_eq_true rfl) ?_
            rw [mh_p18]
            rw [va_upup]
            refine kx_rn dM_settingText 1 89 [(0, .ref m)] [.ref m] rfl ?_
            refine cM_116 (as := []) (st := []) (mc := 0) (ms := 0) (kc := 0) (ks := 0) rfl (kx_tk_dec rfl dM_settingText) (mh_o hm) rfl rfl (Nat.le_of_ble_eq_true rfl) (cM_term (d := d) (ln := ln) (at0 := 2) (n := 0) hst hm hl hln rfl (by omega) h19 (by omega)) (fun o h' hq => ?_)
            obtain ⟨S1, A1, rfl, rfl, hp1⟩ := hq
            show kx_w _ _ _ _ _ _ _ _ _ _ _
            obtain ⟨p18, pS, pA, p8, p19⟩ := id hp1
            have q10 : S1 10 = nI ln := by rw [pS 10 (by decide) (by decide)]; exact hl
            obtain ⟨g1, g2, g3⟩ := rTerm_gd (A 7) ln 2 (by omega)
            refine kx_if (tgt := 110) (kx_tk_dec rfl dM_settingText) rfl (fun e92 => ?_) (fun e92 => ?_)
            · skip
              replace e92 : b01 ((rTerm (A 7) ln 2).1) = 0 := e92
              replace e92 : (rTerm (A 7) ln 2).1 = false := b01_f e92
              refine kx_rn dM_settingText 1 111 [(0, .ref m)] [.int 0] rfl ?_
              refine kx_ret (ty := .boolean) (kx_tk_dec rfl dM_settingText) rfl rfl ?_
              have hr : pSet (A 7) ln = (false, (rTerm (A 7) ln 2).2.1, []) := by unfold pSet; rw [if_pos hcol, if_pos (by rw [kCur_in (by omega)]; exact e73), if_neg (fun z => by rw [e92] at z; exact absurd z.1 (by decide))]
              rw [hr]
              exact ⟨S1, A1, rfl, rfl, p18, fun k z18 z19 => by rw [pS k z18 z19, va_up_ne _ _ z18], pA, p8, fun z => by cases z⟩
            · skip
              replace e92 : ¬ b01 ((rTerm (A 7) ln 2).1) = 0 := e92
              replace e92 : (rTerm (A 7) ln 2).1 = true := b01_t e92
              refine kx_rn dM_settingText 1 96 [(0, .ref m)] [.ref m] rfl ?_
              refine pM_96 (v := .int (S1 18)) rfl (kx_tk_dec rfl dM_settingText) (mh_o hm) rfl ?_
              rw [p18]
              refine kx_rn dM_settingText 1 100 [(0, .ref m)] [.ref m, .int (nI ((rTerm (A 7) ln 2).2.1))] rfl ?_
              refine pM_90 (v := .int (S1 10)) rfl (kx_tk_dec rfl dM_settingText) (mh_o hm) rfl ?_
              rw [q10]
              refine kx_ic (tgt := 110) (kx_tk_dec rfl dM_settingText) rfl (fun e103 => ?_) (fun e103 => ?_)
              · skip
                replace e103 : ¬ nI ((rTerm (A 7) ln 2).2.1) = nI ln := e103
                replace e103 : ¬ (rTerm (A 7) ln 2).2.1 = ln := fun z => e103 ((nI_eq (a := (rTerm (A 7) ln 2).2.1) (b := ln) (by omega) (by omega)).mpr z)
                refine kx_rn dM_settingText 1 111 [(0, .ref m)] [.int 0] rfl ?_
                refine kx_ret (ty := .boolean) (kx_tk_dec rfl dM_settingText) rfl rfl ?_
                have hr : pSet (A 7) ln = (false, (rTerm (A 7) ln 2).2.1, []) := by unfold pSet; rw [if_pos hcol, if_pos (by rw [kCur_in (by omega)]; exact e73), if_neg (fun z => e103 z.2)]
                rw [hr]
                exact ⟨S1, A1, rfl, rfl, p18, fun k z18 z19 => by rw [pS k z18 z19, va_up_ne _ _ z18], pA, p8, fun z => by cases z⟩
              · skip
                replace e103 : nI ((rTerm (A 7) ln 2).2.1) = nI ln := e103
                replace e103 : (rTerm (A 7) ln 2).2.1 = ln := (nI_eq (a := (rTerm (A 7) ln 2).2.1) (b := ln) (by omega) (by omega)).mp e103
                refine kx_rn dM_settingText 2 111 [(0, .ref m)] [.int 1] rfl ?_
                refine kx_ret (ty := .boolean) (kx_tk_dec rfl dM_settingText) rfl rfl ?_
                have hr : pSet (A 7) ln = (true, ln, (rTerm (A 7) ln 2).2.2) := by unfold pSet; rw [if_pos hcol, if_pos (by rw [kCur_in (by omega)]; exact e73), if_pos ⟨e92, e103⟩]
                rw [hr]
                exact ⟨S1, A1, rfl, rfl, by rw [p18, e103], fun k z18 z19 => by rw [pS k z18 z19, va_up_ne _ _ z18], pA, p8, fun _ => p19 e92⟩
          · skip
            replace e73 : ¬ A 7 1 = 61 := e73
            refine kx_rn dM_settingText 1 77 [(0, .ref m)] [.int 0] rfl ?_
            refine kx_ret (ty := .boolean) (kx_tk_dec rfl dM_settingText) rfl rfl ?_
            have hr : pSet (A 7) ln = (false, 1, []) := by unfold pSet; rw [if_pos hcol, if_neg (by rw [kCur_in (by omega)]; exact e73)]
            rw [hr]
            exact ⟨_, _, rfl, rfl, rfl, fun k z18 z19 => va_up_ne _ _ z18, fun k _ => rfl, fun i _ => rfl, fun z => by cases z⟩
      · skip
        replace e36 : ¬ A 7 0 ≤ 100 := e36
        refine kx_rn dM_settingText 1 40 [(0, .ref m)] [.int 0] rfl ?_
        refine kx_ret (ty := .boolean) (kx_tk_dec rfl dM_settingText) rfl rfl ?_
        have hr : pSet (A 7) ln = (false, 0, []) := by unfold pSet; rw [if_neg (by rw [kCur_in (by omega)]; unfold isCol; rw [decide_eq_true_eq]; rintro ⟨z1, z2⟩; exact e36 z2)]
        rw [hr]
        exact ⟨S, A, rfl, rfl, h18, fun k _ _ => rfl, fun k _ => rfl, fun i _ => rfl, fun z => by cases z⟩
/-- what the reading of a line leaves -/
def readQ (h0 : kx_H) (m : Nat) (S : Nat → Int32) (A : Nat → Nat → Int32) (r : kRes) : Outcome → kx_H → Prop := fun o h' => ∃ (S1 : Nat → Int32) (A1 : Nat → Nat → Int32), o = .returned (some (.int (b01 r.1))) ∧ h' = mH h0 m S1 A1 ∧ S1 10 = 0 ∧ S1 11 = (if r.1 = true then -1 else nI r.2.1) ∧ (∀ k, k ≠ 10 → k ≠ 11 → k ≠ 17 → k ≠ 18 → k ≠ 19 → k ≠ 20 → S1 k = S k) ∧ (∀ k, k ≠ 8 → k ≠ 11 → k ≠ 13 → A1 k = A k) ∧ (∀ i, i < 220 → A1 8 i = A 8 i) ∧ (r.1 = true → S1 19 = nI r.2.2.length ∧ atL (A1 8) 220 r.2.2)
set_option maxRecDepth 100000 in
theorem cM_readC {ln : Nat} (hst : l.stackTraces = false) (hm : mOk G h0 m) (hl : S 10 = nI ln) (hln : ln ≤ 40) :
    kx_c G l mM_read (d + 6) 0 0 [.ref m, .int 0] (mH h0 m S A) (readQ h0 m S A (pCond (A 7) ln)) := by
  refine kx_in (by decide +kernel) (Nat.le_of_ble_eq_true rfl) hst ?_
  refine kx_rn dM_read 2 2 [(0, .ref m), (1, .int 0)] [.int 0, .ref m] rfl ?_
  refine qM_96 rfl (kx_tk_dec rfl dM_read) (mh_o hm) rfl rfl (Nat.le_of_ble_eq_true rfl) ?_
  rw [mh_p18]
  refine kx_rn dM_read 2 7 [(0, .ref m), (1, .int 0)] [.int 0, .ref m] rfl ?_
  refine qM_93 rfl (kx_tk_dec rfl dM_read) (mh_o hm) rfl rfl (Nat.le_of_ble_eq_true rfl) ?_
  rw [mh_p19]
  refine kx_rn dM_read 2 12 [(0, .ref m), (1, .int 0)] [.int 0, .ref m] rfl ?_
  refine qM_110 rfl (kx_tk_dec rfl dM_read) (mh_o hm) rfl rfl (Nat.le_of_ble_eq_true rfl) ?_
  rw [mh_p17]
  refine kx_rn dM_read 2 17 [(0, .ref m), (1, .int 0)] [.int 0, .ref m] rfl ?_
  refine qM_113 rfl (kx_tk_dec rfl dM_read) (mh_o hm) rfl rfl (Nat.le_of_ble_eq_true rfl) ?_
  rw [mh_p20]
  refine kx_rn dM_read 1 21 [(0, .ref m), (1, .int 0)] [.int 0] rfl ?_
  refine kx_if (tgt := 31) (kx_tk_dec rfl dM_read) rfl (fun e21 => ?_) (fun e21 => ?_)
  · skip
    replace e21 : (0 : Int32) = 0 := e21
    refine kx_rn dM_read 1 32 [(0, .ref m), (1, .int 0)] [.ref m] rfl ?_
    refine cM_134 (as := []) (st := []) (mc := 0) (ms := 0) (kc := 0) (ks := 0) rfl (kx_tk_dec rfl dM_read) (mh_o hm) rfl rfl (Nat.le_of_ble_eq_true rfl) (cM_condition (d := d) (ln := ln) hst hm hln ⟨hl, rfl, rfl, rfl, rfl, atL_nil _ _, trivial, trivial⟩) (fun o h' hq => ?_)
    obtain ⟨S1, A1, rfl, rfl, ⟨fS, fA, f8⟩, f18, fok⟩ := hq
    show kx_w _ _ _ _ _ _ _ _ _ _ _
    refine kx_rn dM_read 3 38 [(0, .ref m), (1, .int 0), (2, .int (b01 ((pCond (A 7) ln).1)))] [.int (b01 ((pCond (A 7) ln).1)), .ref m] rfl ?_
    refine kx_if (tgt := 45) (kx_tk_dec rfl dM_read) rfl (fun e38 => ?_) (fun e38 => ?_)
    · skip
      replace e38 : b01 ((pCond (A 7) ln).1) = 0 := e38
      replace e38 : (pCond (A 7) ln).1 = false := b01_f e38
      refine kx_rn dM_read 1 46 [(0, .ref m), (1, .int 0), (2, .int (b01 ((pCond (A 7) ln).1)))] [.ref m, .ref m] rfl ?_
      refine pM_96 (v := .int (S1 18)) rfl (kx_tk_dec rfl dM_read) (mh_o hm) rfl ?_
      refine qM_31 rfl (kx_tk_dec rfl dM_read) (mh_o hm) rfl rfl (Nat.le_of_ble_eq_true rfl) ?_
      rw [mh_p11]
      refine kx_rn dM_read 2 54 [(0, .ref m), (1, .int 0), (2, .int (b01 ((pCond (A 7) ln).1)))] [.int 0, .ref m] rfl ?_
      refine qM_90 rfl (kx_tk_dec rfl dM_read) (mh_o hm) rfl rfl (Nat.le_of_ble_eq_true rfl) ?_
      rw [mh_p10]
      refine kx_rn dM_read 1 58 [(0, .ref m), (1, .int 0), (2, .int (b01 ((pCond (A 7) ln).1)))] [.int (b01 ((pCond (A 7) ln).1))] rfl ?_
      refine kx_ret (ty := .boolean) (kx_tk_dec rfl dM_read) rfl (b01_nr _) ?_
      refine ⟨_, _, rfl, rfl, rfl, ?_, fun k z1 z2 z3 z4 z5 z6 => ?_, fA, f8, (fun z => by rw [e38] at z; cases z)⟩
      · show S1 18 = _
        rw [e38]; exact f18
      · rw [va_up_ne _ _ z1, va_up_ne _ _ z2]
        rw [fS k z3 z4 z5 z6]; rw [va_up_ne _ _ z6, va_up_ne _ _ z3, va_up_ne _ _ z5, va_up_ne _ _ z4]
    · skip
      replace e38 : ¬ b01 ((pCond (A 7) ln).1) = 0 := e38
      replace e38 : (pCond (A 7) ln).1 = true := b01_t e38
      refine kx_rn dM_read 2 49 [(0, .ref m), (1, .int 0), (2, .int (b01 ((pCond (A 7) ln).1)))] [.int ((-1)), .ref m] rfl ?_
      refine qM_31 rfl (kx_tk_dec rfl dM_read) (mh_o hm) rfl rfl (Nat.le_of_ble_eq_true rfl) ?_
      rw [mh_p11]
      refine kx_rn dM_read 2 54 [(0, .ref m), (1, .int 0), (2, .int (b01 ((pCond (A 7) ln).1)))] [.int 0, .ref m] rfl ?_
      refine qM_90 rfl (kx_tk_dec rfl dM_read) (mh_o hm) rfl rfl (Nat.le_of_ble_eq_true rfl) ?_
      rw [mh_p10]
      refine kx_rn dM_read 1 58 [(0, .ref m), (1, .int 0), (2, .int (b01 ((pCond (A 7) ln).1)))] [.int (b01 ((pCond (A 7) ln).1))] rfl ?_
      refine kx_ret (ty := .boolean) (kx_tk_dec rfl dM_read) rfl (b01_nr _) ?_
      refine ⟨_, _, rfl, rfl, rfl, ?_, fun k z1 z2 z3 z4 z5 z6 => ?_, fA, f8, fun _ => fok e38⟩
      · show (-1 : Int32) = _
        rw [e38]; rfl
      · rw [va_up_ne _ _ z1, va_up_ne _ _ z2]
        rw [fS k z3 z4 z5 z6]; rw [va_up_ne _ _ z6, va_up_ne _ _ z3, va_up_ne _ _ z5, va_up_ne _ _ z4]
  · skip
    replace e21 : ¬ (0 : Int32) = 0 := e21
    exact absurd (by decide) e21
set_option maxRecDepth 100000 in
theorem cM_readS {ln : Nat} (hst : l.stackTraces = false) (hm : mOk G h0 m) (hl : S 10 = nI ln) (hln : ln ≤ 40) :
    kx_c G l mM_read (d + 6) 0 0 [.ref m, .int 1] (mH h0 m S A) (readQ h0 m S A (pSet (A 7) ln)) := by
  refine kx_in (by decide +kernel) (Nat.le_of_ble_eq_true rfl) hst ?_
  refine kx_rn dM_read 2 2 [(0, .ref m), (1, .int 1)] [.int 0, .ref m] rfl ?_
  refine qM_96 rfl (kx_tk_dec rfl dM_read) (mh_o hm) rfl rfl (Nat.le_of_ble_eq_true rfl) ?_
  rw [mh_p18]
  refine kx_rn dM_read 2 7 [(0, .ref m), (1, .int 1)] [.int 0, .ref m] rfl ?_
  refine qM_93 rfl (kx_tk_dec rfl dM_read) (mh_o hm) rfl rfl (Nat.le_of_ble_eq_true rfl) ?_
  rw [mh_p19]
  refine kx_rn dM_read 2 12 [(0, .ref m), (1, .int 1)] [.int 0, .ref m] rfl ?_
  refine qM_110 rfl (kx_tk_dec rfl dM_read) (mh_o hm) rfl rfl (Nat.le_of_ble_eq_true rfl) ?_
  rw [mh_p17]
  refine kx_rn dM_read 2 17 [(0, .ref m), (1, .int 1)] [.int 0, .ref m] rfl ?_
  refine qM_113 rfl (kx_tk_dec rfl dM_read) (mh_o hm) rfl rfl (Nat.le_of_ble_eq_true rfl) ?_
  rw [mh_p20]
  refine kx_rn dM_read 1 21 [(0, .ref m), (1, .int 1)] [.int 1] rfl ?_
  refine kx_if (tgt := 31) (kx_tk_dec rfl dM_read) rfl (fun e21 => ?_) (fun e21 => ?_)
  · skip
    replace e21 : (1 : Int32) = 0 := e21
    exact absurd e21 (by decide)
  · skip
    replace e21 : ¬ (1 : Int32) = 0 := e21
    refine kx_rn dM_read 1 25 [(0, .ref m), (1, .int 1)] [.ref m] rfl ?_
    refine cM_131 (as := []) (st := []) (mc := 0) (ms := 0) (kc := 0) (ks := 0) rfl (kx_tk_dec rfl dM_read) (mh_o hm) rfl rfl (Nat.le_of_ble_eq_true rfl) (cM_settingText (d := d + 2) (ln := ln) hst hm hl hln rfl rfl) (fun o h' hq => ?_)
    obtain ⟨S1, A1, rfl, rfl, f18, fS, fA, f8, fok⟩ := hq
    show kx_w _ _ _ _ _ _ _ _ _ _ _
    refine kx_rn dM_read 4 38 [(0, .ref m), (1, .int 1), (2, .int (b01 ((pSet (A 7) ln).1)))] [.int (b01 ((pSet (A 7) ln).1)), .ref m] rfl ?_
    refine kx_if (tgt := 45) (kx_tk_dec rfl dM_read) rfl (fun e38 => ?_) (fun e38 => ?_)
    · skip
      replace e38 : b01 ((pSet (A 7) ln).1) = 0 := e38
      replace e38 : (pSet (A 7) ln).1 = false := b01_f e38
      refine kx_rn dM_read 1 46 [(0, .ref m), (1, .int 1), (2, .int (b01 ((pSet (A 7) ln).1)))] [.ref m, .ref m] rfl ?_
      refine pM_96 (v := .int (S1 18)) rfl (kx_tk_dec rfl dM_read) (mh_o hm) rfl ?_
      refine qM_31 rfl (kx_tk_dec rfl dM_read) (mh_o hm) rfl rfl (Nat.le_of_ble_eq_true rfl) ?_
      rw [mh_p11]
      refine kx_rn dM_read 2 54 [(0, .ref m), (1, .int 1), (2, .int (b01 ((pSet (A 7) ln).1)))] [.int 0, .ref m] rfl ?_
      refine qM_90 rfl (kx_tk_dec rfl dM_read) (mh_o hm) rfl rfl (Nat.le_of_ble_eq_true rfl) ?_
      rw [mh_p10]
      refine kx_rn dM_read 1 58 [(0, .ref m), (1, .int 1), (2, .int (b01 ((pSet (A 7) ln).1)))] [.int (b01 ((pSet (A 7) ln).1))] rfl ?_
      refine kx_ret (ty := .boolean) (kx_tk_dec rfl dM_read) rfl (b01_nr _) ?_
      refine ⟨_, _, rfl, rfl, rfl, ?_, fun k z1 z2 z3 z4 z5 z6 => ?_, fun k z1 _ _ => fA k z1, f8, (fun z => by rw [e38] at z; cases z)⟩
      · show S1 18 = _
        rw [e38]; exact f18
      · rw [va_up_ne _ _ z1, va_up_ne _ _ z2]
        rw [fS k z4 z5]; rw [va_up_ne _ _ z6, va_up_ne _ _ z3, va_up_ne _ _ z5, va_up_ne _ _ z4]
    · skip
      replace e38 : ¬ b01 ((pSet (A 7) ln).1) = 0 := e38
      replace e38 : (pSet (A 7) ln).1 = true := b01_t e38
      refine kx_rn dM_read 2 49 [(0, .ref m), (1, .int 1), (2, .int (b01 ((pSet (A 7) ln).1)))] [.int ((-1)), .ref m] rfl ?_
      refine qM_31 rfl (kx_tk_dec rfl dM_read) (mh_o hm) rfl rfl (Nat.le_of_ble_eq_true rfl) ?_
      rw [mh_p11]
      refine kx_rn dM_read 2 54 [(0, .ref m), (1, .int 1), (2, .int (b01 ((pSet (A 7) ln).1)))] [.int 0, .ref m] rfl ?_
      refine qM_90 rfl (kx_tk_dec rfl dM_read) (mh_o hm) rfl rfl (Nat.le_of_ble_eq_true rfl) ?_
      rw [mh_p10]
      refine kx_rn dM_read 1 58 [(0, .ref m), (1, .int 1), (2, .int (b01 ((pSet (A 7) ln).1)))] [.int (b01 ((pSet (A 7) ln).1))] rfl ?_
      refine kx_ret (ty := .boolean) (kx_tk_dec rfl dM_read) rfl (b01_nr _) ?_
      refine ⟨_, _, rfl, rfl, rfl, ?_, fun k z1 z2 z3 z4 z5 z6 => ?_, fun k z1 _ _ => fA k z1, f8, fun _ => by have z := fok e38; rw [Nat.zero_add] at z; exact z⟩
      · show (-1 : Int32) = _
        rw [e38]; rfl
      · rw [va_up_ne _ _ z1, va_up_ne _ _ z2]
        rw [fS k z4 z5]; rw [va_up_ne _ _ z6, va_up_ne _ _ z3, va_up_ne _ _ z5, va_up_ne _ _ z4]
set_option maxRecDepth 100000 in
theorem cM_keep {rw n : Nat} (hst : l.stackTraces = false) (hm : mOk G h0 m) (hrw : rw < 5) (hn : S 19 = nI n) (hn2 : n ≤ 44) :
    kx_c G l mM_keep d 0 0 [.ref m, .int (nI rw)] (mH h0 m S A) (fun o h' => ∃ F : Nat → Int32, o = .returned none ∧ h' = mH h0 m S (va_up (va_up A 8 F) 9 (va_up (A 9) rw (nI n))) ∧ (∀ i, i < n → F (44 * rw + i) = A 8 (220 + i)) ∧ ∀ i, ¬ (44 * rw ≤ i ∧ i < 44 * rw + n) → F i = A 8 i) := by
  refine kx_in (by decide +kernel) (Nat.le_of_ble_eq_true rfl) hst ?_
  have loop : ∀ n1 (j : Nat) (F : Nat → Int32), j + n1 = n → (∀ i, i < j → F (44 * rw + i) = A 8 (220 + i)) → (∀ i, ¬ (44 * rw ≤ i ∧ i < 44 * rw + j) → F i = A 8 i) → kx_w G l mM_keep d (fun o h' => ∃ F : Nat → Int32, o = .returned none ∧ h' = mH h0 m S (va_up (va_up A 8 F) 9 (va_up (A 9) rw (nI n))) ∧ (∀ i, i < n → F (44 * rw + i) = A 8 (220 + i)) ∧ ∀ i, ¬ (44 * rw ≤ i ∧ i < 44 * rw + n) → F i = A 8 i) 0 0 2 [(0, .ref m), (1, .int (nI rw)), (2, .int (nI j))] [] (mH h0 m S (va_up A 8 F)) := by
    intro n1
    induction n1 with
    | zero =>
      intro j F hj hF1 hF2
      refine kx_rn dM_keep 2 4 [(0, .ref m), (1, .int (nI rw)), (2, .int (nI j))] [.ref m, .int (nI j)] rfl ?_
      refine pM_93 (v := .int (S 19)) rfl (kx_tk_dec rfl dM_keep) (mh_o hm) rfl ?_
      rw [hn]
      refine kx_ic (tgt := 37) (kx_tk_dec rfl dM_keep) rfl (fun e7 => ?_) (fun e7 => ?_)
      · skip
        replace e7 : nI n ≤ nI j := e7
        replace e7 : n ≤ j := (nI_leI (a := n) (b := j) (by omega) (by omega)).mp e7
        refine kx_rn dM_keep 1 38 [(0, .ref m), (1, .int (nI rw)), (2, .int (nI j))] [.ref m] rfl ?_
        refine pM_38 (v := .ref (m + 9)) rfl (kx_tk_dec rfl dM_keep) (mh_o hm) rfl ?_
        refine kx_rn dM_keep 2 43 [(0, .ref m), (1, .int (nI rw)), (2, .int (nI j))] [.ref m, .int (nI rw), .ref (m + 9)] rfl ?_
        refine pM_93 (v := .int (S 19)) rfl (kx_tk_dec rfl dM_keep) (mh_o hm) rfl ?_
        rw [hn]
        refine mh_st (k := 9) (i := rw) (A' := va_up (va_up A 8 F) 9 (va_up (A 9) rw (nI n))) rfl (kx_tk_dec rfl dM_keep) hm (by show rw < 6; omega) rfl ?_
        refine kx_retv (kx_tk_dec rfl dM_keep) rfl ?_
        exact ⟨F, rfl, rfl, fun i hi => hF1 i (by omega), fun i hi => hF2 i (by omega)⟩
      · skip
        replace e7 : ¬ nI n ≤ nI j := e7
        replace e7 : ¬ n ≤ j := fun z => e7 ((nI_leI (a := n) (b := j) (by omega) (by omega)).mpr z)
        exfalso; omega
    | succ n1 ih =>
      intro j F hj hF1 hF2
      refine kx_rn dM_keep 2 4 [(0, .ref m), (1, .int (nI rw)), (2, .int (nI j))] [.ref m, .int (nI j)] rfl ?_
      refine pM_93 (v := .int (S 19)) rfl (kx_tk_dec rfl dM_keep) (mh_o hm) rfl ?_
      rw [hn]
      refine kx_ic (tgt := 37) (kx_tk_dec rfl dM_keep) rfl (fun e7 => ?_) (fun e7 => ?_)
      · skip
        replace e7 : nI n ≤ nI j := e7
        replace e7 : n ≤ j := (nI_leI (a := n) (b := j) (by omega) (by omega)).mp e7
        exfalso; omega
      · skip
        replace e7 : ¬ nI n ≤ nI j := e7
        replace e7 : ¬ n ≤ j := fun z => e7 ((nI_leI (a := n) (b := j) (by omega) (by omega)).mpr z)
        refine kx_rn dM_keep 1 11 [(0, .ref m), (1, .int (nI rw)), (2, .int (nI j))] [.ref m] rfl ?_
        refine pM_35 (v := .ref (m + 8)) rfl (kx_tk_dec rfl dM_keep) (mh_o hm) rfl ?_
        refine kx_rn dM_keep 6 21 [(0, .ref m), (1, .int (nI rw)), (2, .int (nI j))] [.ref m, .int ((44 * (nI rw)) + (nI j)), .ref (m + 8)] rfl ?_
        rw [show (44 * (nI rw)) + (nI j) = nI ((44 * rw) + j) from kn_ad (kn_mu rfl rfl) rfl]
        refine pM_35 (v := .ref (m + 8)) rfl (kx_tk_dec rfl dM_keep) (mh_o hm) rfl ?_
        refine kx_rn dM_keep 3 29 [(0, .ref m), (1, .int (nI rw)), (2, .int (nI j))] [.int (220 + (nI j)), .ref (m + 8), .int (nI ((44 * rw) + j)), .ref (m + 8)] rfl ?_
        rw [show 220 + (nI j) = nI (220 + j) from kn_ad rfl rfl]
        refine mh_ld (k := 8) (x := F (220 + j)) (i := 220 + j) rfl rfl (kx_tk_dec rfl dM_keep) hm (by show 220 + j < 264; omega) ?_
        rw [hF2 _ (by omega)]
        refine mh_st (k := 8) (i := (44 * rw) + j) (A' := va_up A 8 (va_up F ((44 * rw) + j) (A 8 (220 + j)))) rfl (kx_tk_dec rfl dM_keep) hm (by show (44 * rw) + j < 264; omega) (va_upup _ _ _ _) ?_
        refine kx_rn dM_keep 2 2 [(0, .ref m), (1, .int (nI rw)), (2, .int ((nI j) + 1))] [] rfl ?_
        rw [show (nI j) + 1 = nI (j + 1) from kn_ad rfl rfl]
        refine ih (j + 1) _ (by omega) (fun i hi => ?_) (fun i hi => ?_)
        · by_cases z : i = j
          · rw [z, va_up_self]
          · rw [va_up_ne _ _ (by omega)]; exact hF1 i (by omega)
        · rw [va_up_ne _ _ (by omega)]; exact hF2 i (by omega)
  refine kx_rn dM_keep 2 2 [(0, .ref m), (1, .int (nI rw)), (2, .int 0)] [] rfl ?_
  refine kx_heq (congrArg (fun z => mH h0 m S z) (show A = va_up A 8 (A 8) from (va_upsame A 8).symm)) ?_
  exact loop n 0 (A 8) (by omega) (fun i hi => by omega) (fun i _ => rfl)
/-- a line taken into a row of programs -/
def takeQ (S : Nat → Int32) (A : Nat → Nat → Int32) (r : kRes) (rw : Nat) (S1 : Nat → Int32) (A1 : Nat → Nat → Int32) : Prop := S1 0 = (if r.1 = true then 0 else 1) ∧ S1 10 = 0 ∧ S1 11 = (if r.1 = true then -1 else nI r.2.1) ∧ (∀ k, k ≠ 0 → k ≠ 10 → k ≠ 11 → k ≠ 17 → k ≠ 18 → k ≠ 19 → k ≠ 20 → S1 k = S k) ∧ (∀ k, k ≠ 8 → k ≠ 9 → k ≠ 10 → k ≠ 11 → k ≠ 13 → A1 k = A k) ∧ (r.1 = true → A1 9 = va_up (A 9) rw (nI r.2.2.length) ∧ atL (A1 8) (44 * rw) r.2.2 ∧ ∀ i, i < 220 → ¬ (44 * rw ≤ i ∧ i < 44 * rw + 44) → A1 8 i = A 8 i) ∧ (r.1 = false → A1 9 = A 9 ∧ ∀ i, i < 220 → A1 8 i = A 8 i)
set_option maxRecDepth 100000 in
theorem cM_where {ln : Nat} (hst : l.stackTraces = false) (hm : mOk G h0 m) (hl : S 10 = nI ln) (hln : ln ≤ 40) :
    kx_c G l mM_where (d + 7) 0 0 [.ref m] (mH h0 m S A) (fun o h' => ∃ (S1 : Nat → Int32) (A1 : Nat → Nat → Int32), o = .returned none ∧ h' = mH h0 m S1 A1 ∧ takeQ S A (pCond (A 7) ln) 0 S1 A1 ∧ A1 10 = A 10) := by
  refine kx_in (by decide +kernel) (Nat.le_of_ble_eq_true rfl) hst ?_
  refine kx_rn dM_where 2 2 [(0, .ref m)] [.int 0, .ref m] rfl ?_
  refine qM_69 rfl (kx_tk_dec rfl dM_where) (mh_o hm) rfl rfl (Nat.le_of_ble_eq_true rfl) ?_
  rw [mh_p0]
  refine kx_rn dM_where 2 7 [(0, .ref m)] [.int 0, .ref m] rfl ?_
  refine cM_137 (as := [.int 0]) (st := []) (mc := 0) (ms := 0) (kc := 0) (ks := 0) rfl (kx_tk_dec rfl dM_where) (mh_o hm) rfl rfl (Nat.le_of_ble_eq_true rfl) (cM_readC (d := d) (ln := ln) hst hm hl hln) (fun o h' hq => ?_)
  obtain ⟨S1, A1, rfl, rfl, f10, f11, fS, fA, f8, fok⟩ := hq
  show kx_w _ _ _ _ _ _ _ _ _ _ _
  refine kx_if (tgt := 21) (kx_tk_dec rfl dM_where) rfl (fun e10 => ?_) (fun e10 => ?_)
  · skip
    replace e10 : b01 ((pCond (A 7) ln).1) = 0 := e10
    replace e10 : (pCond (A 7) ln).1 = false := b01_f e10
    refine kx_rn dM_where 2 23 [(0, .ref m)] [.int 1, .ref m] rfl ?_
    refine qM_69 rfl (kx_tk_dec rfl dM_where) (mh_o hm) rfl rfl (Nat.le_of_ble_eq_true rfl) ?_
    rw [mh_p0]
    refine kx_retv (kx_tk_dec rfl dM_where) rfl ?_
    refine ⟨_, _, rfl, rfl, ⟨by rw [if_neg (by rw [e10]; decide)]; rfl, f10, f11, fun k z0 z1 z2 z3 z4 z5 z6 => by rw [va_up_ne _ _ z0, fS k z1 z2 z3 z4 z5 z6, va_up_ne _ _ z0], fun k z1 z2 z3 z4 z5 => fA k z1 z4 z5, (fun z => by rw [e10] at z; cases z), fun _ => ⟨fA 9 (by decide) (by decide) (by decide), f8⟩⟩, fA 10 (by decide) (by decide) (by decide)⟩
  · skip
    replace e10 : ¬ b01 ((pCond (A 7) ln).1) = 0 := e10
    replace e10 : (pCond (A 7) ln).1 = true := b01_t e10
    refine kx_rn dM_where 2 15 [(0, .ref m)] [.int 0, .ref m] rfl ?_
    obtain ⟨f19, fL⟩ := fok e10
    have hle : (pCond (A 7) ln).2.2.length ≤ 40 := (pCond_ok hln e10).1
    refine cM_141 (as := [.int 0]) (st := []) (mc := 0) (ms := 0) (kc := 0) (ks := 0) rfl (kx_tk_dec rfl dM_where) (mh_o hm) rfl rfl (Nat.le_of_ble_eq_true rfl) (cM_keep (rw := 0) (n := (pCond (A 7) ln).2.2.length) hst hm (by omega) f19 (by omega)) (fun o h' hq => ?_)
    obtain ⟨F, rfl, rfl, k1, k2⟩ := hq
    show kx_w _ _ _ _ _ _ _ _ _ _ _
    refine kx_rn dM_where 1 26 [(0, .ref m)] [] rfl ?_
    refine kx_retv (kx_tk_dec rfl dM_where) rfl ?_
    refine ⟨_, _, rfl, rfl, ⟨by rw [if_pos e10, fS 0 (by decide) (by decide) (by decide) (by decide) (by decide) (by decide)]; rfl, f10, f11, fun k z0 z1 z2 z3 z4 z5 z6 => by rw [fS k z1 z2 z3 z4 z5 z6, va_up_ne _ _ z0], fun k z1 z2 z3 z4 z5 => by rw [va_up_ne _ _ z2, va_up_ne _ _ z1, fA k z1 z4 z5], fun _ => ⟨by show va_up (A1 9) _ _ = _; rw [fA 9 (by decide) (by decide) (by decide)], fun i x hx => by show F _ = x; rw [k1 i (List.getElem?_eq_some_iff.mp hx).1]; exact fL i x hx, fun i hi hn => by show F i = _; rw [k2 i (by omega)]; exact f8 i hi⟩, (fun z => by rw [e10] at z; cases z)⟩, by rw [va_up_ne _ _ (by decide), va_up_ne _ _ (by decide)]; exact fA 10 (by decide) (by decide) (by decide)⟩
/-- the column that a setting speaks of -/
theorem pSet_col {tx : Nat → Int32} {ln : Nat} (h : (pSet tx ln).1 = true) : ∃ c, c < 4 ∧ tx 0 = nI (97 + c) ∧ tx 0 - 97 = nI c := by
  unfold pSet at h
  by_cases e : isCol (kCur tx ln 0) = true
  · have hlt : 0 < ln := Nat.lt_of_not_le fun z => by rw [kCur_out (by omega)] at e; exact absurd e (by decide)
    rw [kCur_in hlt] at e
    rcases isCol_nat e with z | z | z | z
    · exact ⟨0, by decide, z, by rw [z]; rfl⟩
    · exact ⟨1, by decide, z, by rw [z]; rfl⟩
    · exact ⟨2, by decide, z, by rw [z]; rfl⟩
    · exact ⟨3, by decide, z, by rw [z]; rfl⟩
  · rw [if_neg e] at h; cases h
set_option maxRecDepth 100000 in
theorem cM_setting {ln : Nat} (hst : l.stackTraces = false) (hm : mOk G h0 m) (hl : S 10 = nI ln) (hln : ln ≤ 40) :
    kx_c G l mM_setting (d + 7) 0 0 [.ref m] (mH h0 m S A) (fun o h' => ∃ (S1 : Nat → Int32) (A1 : Nat → Nat → Int32), h' = mH h0 m S1 A1 ∧ (((pSet (A 7) ln).1 = false ∧ o = .returned (some (.int 0)) ∧ takeQ S A (pSet (A 7) ln) 0 S1 A1 ∧ A1 10 = A 10) ∨ ∃ c, c < 4 ∧ A 7 0 = nI (97 + c) ∧ (pSet (A 7) ln).1 = true ∧ o = .returned (some (.int (nI (cnt (fun c => decide (¬ A1 10 c = 0)) 4)))) ∧ takeQ S A (pSet (A 7) ln) (1 + c) S1 A1 ∧ A1 10 = va_up (A 10) c 1)) := by
  refine kx_in (by decide +kernel) (Nat.le_of_ble_eq_true rfl) hst ?_
  refine kx_rn dM_setting 2 2 [(0, .ref m)] [.int 0, .ref m] rfl ?_
  refine qM_69 rfl (kx_tk_dec rfl dM_setting) (mh_o hm) rfl rfl (Nat.le_of_ble_eq_true rfl) ?_
  rw [mh_p0]
  refine kx_rn dM_setting 1 6 [(0, .ref m)] [.ref m] rfl ?_
  refine pM_28 (v := .ref (m + 7)) rfl (kx_tk_dec rfl dM_setting) (mh_o hm) rfl ?_
  refine kx_rn dM_setting 1 10 [(0, .ref m)] [.int 0, .ref (m + 7)] rfl ?_
  refine mh_ld (k := 7) (x := A 7 0) (i := 0) rfl rfl (kx_tk_dec rfl dM_setting) hm (by show 0 < 40; omega) ?_
  refine kx_rn dM_setting 5 17 [(0, .ref m), (1, .int ((A 7 0) - 97))] [.int 1, .ref m] rfl ?_
  refine cM_137 (as := [.int 1]) (st := []) (mc := 0) (ms := 0) (kc := 0) (ks := 0) rfl (kx_tk_dec rfl dM_setting) (mh_o hm) rfl rfl (Nat.le_of_ble_eq_true rfl) (cM_readS (d := d) (ln := ln) hst hm hl hln) (fun o h' hq => ?_)
  obtain ⟨S1, A1, rfl, rfl, f10, f11, fS, fA, f8, fok⟩ := hq
  show kx_w _ _ _ _ _ _ _ _ _ _ _
  refine kx_if (tgt := 29) (kx_tk_dec rfl dM_setting) rfl (fun e20 => ?_) (fun e20 => ?_)
  · skip
    replace e20 : ¬ b01 ((pSet (A 7) ln).1) = 0 := e20
    replace e20 : (pSet (A 7) ln).1 = true := b01_t e20
    obtain ⟨c, hc4, hc97, hc⟩ := pSet_col e20
    rw [hc]
    refine kx_rn dM_setting 4 33 [(0, .ref m), (1, .int (nI c))] [.int (1 + (nI c)), .ref m] rfl ?_
    rw [show 1 + (nI c) = nI (1 + c) from kn_ad rfl rfl]
    obtain ⟨f19, fL⟩ := fok e20
    have hle : (pSet (A 7) ln).2.2.length ≤ 40 := (pSet_ok hln e20).1
    refine cM_141 (as := [.int (nI (1 + c))]) (st := []) (mc := 0) (ms := 0) (kc := 0) (ks := 0) rfl (kx_tk_dec rfl dM_setting) (mh_o hm) rfl rfl (Nat.le_of_ble_eq_true rfl) (cM_keep (rw := 1 + c) (n := (pSet (A 7) ln).2.2.length) hst hm (by omega) f19 (by omega)) (fun o h' hq => ?_)
    obtain ⟨F, rfl, rfl, k1, k2⟩ := hq
    show kx_w _ _ _ _ _ _ _ _ _ _ _
    refine kx_rn dM_setting 1 37 [(0, .ref m), (1, .int (nI c))] [.ref m] rfl ?_
    refine pM_41 (v := .ref (m + 10)) rfl (kx_tk_dec rfl dM_setting) (mh_o hm) rfl ?_
    refine kx_rn dM_setting 2 42 [(0, .ref m), (1, .int (nI c))] [.int 1, .int (nI c), .ref (m + 10)] rfl ?_
    refine mh_zs (k := 10) (i := c) (A' := va_up (va_up (va_up A1 8 F) 9 (va_up (A1 9) (1 + c) (nI (pSet (A 7) ln).2.2.length))) 10 (va_up (A1 10) c 1)) rfl (kx_tk_dec rfl dM_setting) hm (by show c < 4; omega) rfl rfl ?_
    refine kx_rn dM_setting 1 44 [(0, .ref m), (1, .int (nI c))] [.ref m] rfl ?_
    refine cM_144 (as := []) (st := []) (mc := 0) (ms := 0) (kc := 0) (ks := 0) rfl (kx_tk_dec rfl dM_setting) (mh_o hm) rfl rfl (Nat.le_of_ble_eq_true rfl) (cM_settings hst hm) (fun o h' hq => ?_)
    obtain ⟨rfl, rfl⟩ := hq
    show kx_w _ _ _ _ _ _ _ _ _ _ _
    refine kx_ret (ty := .int) (kx_tk_dec rfl dM_setting) rfl rfl ?_
    refine ⟨_, _, rfl, Or.inr ⟨c, hc4, hc97, e20, rfl, ⟨by rw [if_pos e20, fS 0 (by decide) (by decide) (by decide) (by decide) (by decide) (by decide)]; rfl, f10, f11, fun k z0 z1 z2 z3 z4 z5 z6 => by rw [fS k z1 z2 z3 z4 z5 z6, va_up_ne _ _ z0], fun k z1 z2 z3 z4 z5 => by rw [va_up_ne _ _ z3, va_up_ne _ _ z2, va_up_ne _ _ z1, fA k z1 z4 z5], fun _ => ⟨by show va_up (A1 9) _ _ = _; rw [fA 9 (by decide) (by decide) (by decide)], fun i x hx => by show F _ = x; rw [k1 i (List.getElem?_eq_some_iff.mp hx).1]; exact fL i x hx, fun i hi hn => by show F i = _; rw [k2 i (by omega)]; exact f8 i hi⟩, (fun z => by rw [e20] at z; cases z)⟩, by rw [va_up_self, fA 10 (by decide) (by decide) (by decide)]⟩⟩
  · skip
    replace e20 : b01 ((pSet (A 7) ln).1) = 0 := e20
    replace e20 : (pSet (A 7) ln).1 = false := b01_f e20
    refine kx_rn dM_setting 2 25 [(0, .ref m), (1, .int ((A 7 0) - 97))] [.int 1, .ref m] rfl ?_
    refine cM_79 (as := [.int 1]) (st := []) (mc := 0) (ms := 0) (kc := 0) (ks := 0) rfl (kx_tk_dec rfl dM_setting) (mh_o hm) rfl rfl (Nat.le_of_ble_eq_true rfl) (cM_fail hst hm) (fun o h' hq => ?_)
    obtain ⟨rfl, rfl⟩ := hq
    show kx_w _ _ _ _ _ _ _ _ _ _ _
    refine kx_ret (ty := .int) (kx_tk_dec rfl dM_setting) rfl rfl ?_
    exact ⟨_, _, rfl, Or.inl ⟨e20, rfl, ⟨by rw [if_neg (by rw [e20]; decide)]; rfl, f10, f11, fun k z0 z1 z2 z3 z4 z5 z6 => by rw [va_up_ne _ _ z0, fS k z1 z2 z3 z4 z5 z6, va_up_ne _ _ z0], fun k z1 z2 z3 z4 z5 => fA k z1 z4 z5, (fun z => by rw [e20] at z; cases z), fun _ => ⟨fA 9 (by decide) (by decide) (by decide), f8⟩⟩, fA 10 (by decide) (by decide) (by decide)⟩⟩
end KM16
