/-! ===== vacuum of the reference, with what lies beyond ===== -/
section KM6b
variable {G : kx_G} {l : Launch} {d : Nat} {h0 : kx_H} {m : Nat} {S : Nat → Int32} {A : Nat → Nat → Int32}

theorem cM_vacuum2 (hst : l.stackTraces = false) (hm : mOk G h0 m) {bg : Nat} (hb : S 7 = nI bg) (hbg : bg ≤ 40) {V : Nat → Nat} (hV : ∀ v, A 4 v = nI (V v)) (hV2 : ∀ v, V v < 256) :
    kx_c G l mM_vacuum d 0 0 [.ref m] (mH h0 m S A) (fun o h' => ∃ ls, mLeast A bg ls ∧ o = .returned (some (.int (nI (nsum (fun q => cnt (vOut (A 6) V ls q) 40) 72)))) ∧ ∃ (F : Nat → Int32) (U : Nat → Nat), h' = mH h0 m (va_up S 0 0) (va_up A 4 F) ∧ (∀ v, F v = nI (U v)) ∧ (∀ v, U v < 256) ∧ ∀ q i, i < 40 → U (40 * q + i) = if q < 72 then vVac (A 6) V ls q i else V (40 * q + i)) := by
  refine kx_in (by decide +kernel) (Nat.le_of_ble_eq_true rfl) hst ?_
  have vac : ∀ ls, mLeast A bg ls → kx_w G l mM_vacuum d (fun o h' => ∃ ls, mLeast A bg ls ∧ o = .returned (some (.int (nI (nsum (fun q => cnt (vOut (A 6) V ls q) 40) 72)))) ∧ ∃ (F : Nat → Int32) (U : Nat → Nat), h' = mH h0 m (va_up S 0 0) (va_up A 4 F) ∧ (∀ v, F v = nI (U v)) ∧ (∀ v, U v < 256) ∧ ∀ q i, i < 40 → U (40 * q + i) = if q < 72 then vVac (A 6) V ls q i else V (40 * q + i)) 0 0 35 [(0, .ref m), (1, .int (nI ls)), (2, .int 0), (3, .int 0)] [] (mH h0 m (va_up S 0 0) A) := by
    intro ls hls
    have hls2 := hls.2.1
    have outer : ∀ n (q c0 : Nat) (F : Nat → Int32) (U : Nat → Nat), q + n = 72 → c0 = nsum (fun q => cnt (vOut (A 6) V ls q) 40) q → (∀ v, F v = nI (U v)) → (∀ v, U v < 256) → (∀ p i, i < 40 → U (40 * p + i) = if p < q then vVac (A 6) V ls p i else V (40 * p + i)) → kx_w G l mM_vacuum d (fun o h' => ∃ ls, mLeast A bg ls ∧ o = .returned (some (.int (nI (nsum (fun q => cnt (vOut (A 6) V ls q) 40) 72)))) ∧ ∃ (F : Nat → Int32) (U : Nat → Nat), h' = mH h0 m (va_up S 0 0) (va_up A 4 F) ∧ (∀ v, F v = nI (U v)) ∧ (∀ v, U v < 256) ∧ ∀ q i, i < 40 → U (40 * q + i) = if q < 72 then vVac (A 6) V ls q i else V (40 * q + i)) 0 0 35 [(0, .ref m), (1, .int (nI ls)), (2, .int (nI c0)), (3, .int (nI (40 * q)))] [] (mH h0 m (va_up S 0 0) (va_up A 4 F)) := by
      intro n
      induction n with
      | zero =>
        intro q c0 F U hq hc0 hF hU2 hU
        refine kx_rn dM_vacuum 2 39 [(0, .ref m), (1, .int (nI ls)), (2, .int (nI c0)), (3, .int (nI (40 * q)))] [.int 2880, .int (nI (40 * q))] rfl ?_
        refine kx_ic (tgt := 123) (kx_tk_dec rfl dM_vacuum) rfl (fun e39 => ?_) (fun e39 => ?_)
        · skip
          replace e39 : 2880 ≤ nI (40 * q) := e39
          replace e39 : 2880 ≤ 40 * q := (nI_leI (a := 2880) (b := 40 * q) (by omega) (by omega)).mp e39
          refine kx_rn dM_vacuum 1 124 [(0, .ref m), (1, .int (nI ls)), (2, .int (nI c0)), (3, .int (nI (40 * q)))] [.int (nI c0)] rfl ?_
          refine kx_ret (ty := .int) (kx_tk_dec rfl dM_vacuum) rfl rfl ?_
          exact ⟨ls, hls, by rw [hc0, show q = 72 by omega], F, U, rfl, hF, hU2, fun p i hi => by rw [hU p i hi, show q = 72 by omega]⟩
        · skip
          replace e39 : ¬ 2880 ≤ nI (40 * q) := e39
          replace e39 : ¬ 2880 ≤ 40 * q := fun z => e39 ((nI_leI (a := 2880) (b := 40 * q) (by omega) (by omega)).mpr z)
          exfalso; omega
      | succ n ih =>
        intro q c0 F U hq hc0 hF hU2 hU
        have hc0l := nsum_le (f := fun q => cnt (vOut (A 6) V ls q) 40) (b := 40) (fun q => cnt_le _ 40) q
        have inner : ∀ n (c : Nat) (lt : Bool) (F : Nat → Int32) (U : Nat → Nat), n ≤ 40 → c + cnt (vOut (A 6) V ls q) n = c0 + cnt (vOut (A 6) V ls q) 40 → lt = decide (n < vKp (A 6) V ls q) → (∀ v, F v = nI (U v)) → (∀ v, U v < 256) → (∀ p i, i < 40 → U (40 * p + i) = if p < q ∨ (p = q ∧ n ≤ i) then vVac (A 6) V ls p i else V (40 * p + i)) → kx_w G l mM_vacuum d (fun o h' => ∃ ls, mLeast A bg ls ∧ o = .returned (some (.int (nI (nsum (fun q => cnt (vOut (A 6) V ls q) 40) 72)))) ∧ ∃ (F : Nat → Int32) (U : Nat → Nat), h' = mH h0 m (va_up S 0 0) (va_up A 4 F) ∧ (∀ v, F v = nI (U v)) ∧ (∀ v, U v < 256) ∧ ∀ q i, i < 40 → U (40 * q + i) = if q < 72 then vVac (A 6) V ls q i else V (40 * q + i)) 0 0 49 [(0, .ref m), (1, .int (nI ls)), (2, .int (nI c)), (3, .int (nI (40 * q))), (4, .int (b01 lt)), (5, .int (nI n))] [] (mH h0 m (va_up S 0 0) (va_up A 4 F)) := by
          intro n
          induction n with
          | zero =>
            intro c lt F U hw40 hc hlt hF hU2 hU
            refine kx_rn dM_vacuum 1 51 [(0, .ref m), (1, .int (nI ls)), (2, .int (nI c)), (3, .int (nI (40 * q))), (4, .int (b01 lt)), (5, .int 0)] [.int 0] rfl ?_
            refine kx_if (tgt := 117) (kx_tk_dec rfl dM_vacuum) rfl (fun e51 => ?_) (fun e51 => ?_)
            · skip
              replace e51 : (0 : Int32) ≤ 0 := e51
              refine kx_rn dM_vacuum 2 35 [(0, .ref m), (1, .int (nI ls)), (2, .int (nI c)), (3, .int ((nI (40 * q)) + 40)), (4, .int (b01 lt)), (5, .int 0)] [] rfl ?_
              rw [show (nI (40 * q)) + 40 = nI ((40 * q) + 40) from kn_ad rfl rfl]
              refine kx_lsub (lv' := [(0, .ref m), (1, .int (nI ls)), (2, .int (nI c)), (3, .int (nI ((40 * q) + 40)))]) (.cons₂ _ (.cons₂ _ (.cons₂ _ (.cons₂ _ (.cons _ (.cons _ .slnil)))))) ?_
              refine ih (q + 1) c F U (by omega) (by have hc2 : c = c0 + cnt (vOut (A 6) V ls q) 40 := hc; rw [hc2, hc0]; rfl) hF hU2 (fun p i hi => ?_)
              rw [hU p i hi]
              by_cases z : p < q + 1
              · rw [if_pos (by omega), if_pos z]
              · rw [if_neg (by omega), if_neg z]
            · skip
              replace e51 : ¬ (0 : Int32) ≤ 0 := e51
              exact absurd (by decide) e51
          | succ n ihw =>
            intro c lt F U hw40 hc hlt hF hU2 hU
            have hcl := cnt_le (vOut (A 6) V ls q) 40
            refine kx_rn dM_vacuum 1 51 [(0, .ref m), (1, .int (nI ls)), (2, .int (nI c)), (3, .int (nI (40 * q))), (4, .int (b01 lt)), (5, .int (nI (n + 1)))] [.int (nI (n + 1))] rfl ?_
            refine kx_if (tgt := 117) (kx_tk_dec rfl dM_vacuum) rfl (fun e51 => ?_) (fun e51 => ?_)
            · skip
              replace e51 : nI (n + 1) ≤ 0 := e51
              replace e51 : n + 1 ≤ 0 := (nI_leI (a := n + 1) (b := 0) (by omega) (by omega)).mp e51
              exfalso; omega
            · skip
              replace e51 : ¬ nI (n + 1) ≤ 0 := e51
              replace e51 : ¬ n + 1 ≤ 0 := fun z => e51 ((nI_leI (a := n + 1) (b := 0) (by omega) (by omega)).mpr z)
              refine kx_rn dM_vacuum 1 55 [(0, .ref m), (1, .int (nI ls)), (2, .int (nI c)), (3, .int (nI (40 * q))), (4, .int (b01 lt)), (5, .int (nI (n + 1)))] [.ref m] rfl ?_
              refine pM_19 (v := .ref (m + 4)) rfl (kx_tk_dec rfl dM_vacuum) (mh_o hm) rfl ?_
              refine kx_rn dM_vacuum 5 64 [(0, .ref m), (1, .int (nI ls)), (2, .int (nI c)), (3, .int (nI (40 * q))), (4, .int (b01 lt)), (5, .int (nI (n + 1)))] [.int (((nI (40 * q)) + (nI (n + 1))) - 1), .ref (m + 4)] rfl ?_
              rw [show ((nI (40 * q)) + (nI (n + 1))) - 1 = nI (((40 * q) + (n + 1)) - 1) from kn_su (kn_ad rfl rfl) rfl (by omega)]
              rw [show 40 * q + (n + 1) - 1 = 40 * q + n from by omega]
              refine mh_ld (k := 4) (x := F (40 * q + n)) (i := 40 * q + n) rfl rfl (kx_tk_dec rfl dM_vacuum) hm (by show 40 * q + n < 2880; omega) ?_
              rw [hF (40 * q + n)]
              have := hU2 (40 * q + n)
              refine kx_if (tgt := 111) (kx_tk_dec rfl dM_vacuum) rfl (fun e65 => ?_) (fun e65 => ?_)
              · skip
                replace e65 : nI (U (40 * q + n)) = 0 := e65
                replace e65 : U (40 * q + n) = 0 := (nI_eq (a := U (40 * q + n)) (b := 0) (by omega) (by omega)).mp e65
                refine kx_rn dM_vacuum 2 49 [(0, .ref m), (1, .int (nI ls)), (2, .int (nI c)), (3, .int (nI (40 * q))), (4, .int (b01 lt)), (5, .int ((nI (n + 1)) + (-1)))] [] rfl ?_
                rw [show (nI (n + 1)) + (-1) = nI ((n + 1) - 1) from kn_sa rfl rfl (by omega)]
                have hU0 : U (40 * q + n) = V (40 * q + n) := by rw [hU q n (by omega), if_neg (by omega)]
                have hno : vOut (A 6) V ls q n = false := by unfold vOut; rw [decide_eq_false_iff_not]; exact (by rw [hU0] at e65; exact fun z => z.2.1 e65)
                have hlt2 : lt = decide (n < vKp (A 6) V ls q) := hlt.trans (vKp_step (n := n) (by omega) (by rw [hU0] at e65; exact fun z => z.1 e65)).symm
                refine ihw c lt F U (by omega) (by rw [cnt_succ, if_neg (by rw [hno]; decide)] at hc; omega) hlt2 hF ?_ (fun p i hi => ?_)
                · exact hU2
                · rw [hU p i hi]
                  by_cases z : p = q ∧ i = n
                  · obtain ⟨rfl, rfl⟩ := z
                    rw [if_neg (by omega), if_pos (by omega)]
                    unfold vVac
                    rw [if_neg (by rw [hno]; decide)]
                  · by_cases z2 : p < q ∨ (p = q ∧ n + 1 ≤ i)
                    · rw [if_pos z2, if_pos (by omega)]
                    · rw [if_neg z2, if_neg (by omega)]
              · skip
                replace e65 : ¬ nI (U (40 * q + n)) = 0 := e65
                replace e65 : ¬ U (40 * q + n) = 0 := fun z => e65 ((nI_eq (a := U (40 * q + n)) (b := 0) (by omega) (by omega)).mpr z)
                refine kx_rn dM_vacuum 1 69 [(0, .ref m), (1, .int (nI ls)), (2, .int (nI c)), (3, .int (nI (40 * q))), (4, .int (b01 lt)), (5, .int (nI (n + 1)))] [.ref m] rfl ?_
                refine pM_25 (v := .ref (m + 6)) rfl (kx_tk_dec rfl dM_vacuum) (mh_o hm) rfl ?_
                refine kx_rn dM_vacuum 1 74 [(0, .ref m), (1, .int (nI ls)), (2, .int (nI c)), (3, .int (nI (40 * q))), (4, .int (b01 lt)), (5, .int (nI (n + 1)))] [.int (nI (n + 1)), .ref (m + 6)] rfl ?_
                refine mh_ld (k := 6) (x := A 6 (n + 1)) (i := n + 1) rfl rfl (kx_tk_dec rfl dM_vacuum) hm (by show n + 1 < 41; omega) ?_
                refine kx_rn dM_vacuum 1 76 [(0, .ref m), (1, .int (nI ls)), (2, .int (nI c)), (3, .int (nI (40 * q))), (4, .int (b01 lt)), (5, .int (nI (n + 1)))] [.int 2, .int (A 6 (n + 1))] rfl ?_
                refine kx_ic (tgt := 82) (kx_tk_dec rfl dM_vacuum) rfl (fun e76 => ?_) (fun e76 => ?_)
                · skip
                  replace e76 : A 6 (n + 1) = 2 := e76
                  refine kx_rn dM_vacuum 1 84 [(0, .ref m), (1, .int (nI ls)), (2, .int (nI c)), (3, .int (nI (40 * q))), (4, .int (b01 lt)), (5, .int (nI (n + 1)))] [.int (b01 lt)] rfl ?_
                  refine kx_if (tgt := 102) (kx_tk_dec rfl dM_vacuum) rfl (fun e84 => ?_) (fun e84 => ?_)
                  · skip
                    replace e84 : b01 lt = 0 := e84
                    replace e84 : lt = false := b01_f e84
                    refine kx_rn dM_vacuum 2 105 [(0, .ref m), (1, .int (nI ls)), (2, .int (nI c)), (3, .int (nI (40 * q))), (4, .int (b01 lt)), (5, .int (nI (n + 1)))] [.int (nI ls), .int (nI (n + 1))] rfl ?_
                    refine kx_ic (tgt := 111) (kx_tk_dec rfl dM_vacuum) rfl (fun e105 => ?_) (fun e105 => ?_)
                    · skip
                      replace e105 : nI ls < nI (n + 1) := e105
                      replace e105 : ls < n + 1 := (nI_ltI (a := ls) (b := n + 1) (by omega) (by omega)).mp e105
                      refine kx_rn dM_vacuum 2 49 [(0, .ref m), (1, .int (nI ls)), (2, .int (nI c)), (3, .int (nI (40 * q))), (4, .int (b01 lt)), (5, .int ((nI (n + 1)) + (-1)))] [] rfl ?_
                      rw [show (nI (n + 1)) + (-1) = nI ((n + 1) - 1) from kn_sa rfl rfl (by omega)]
                      have hU0 : U (40 * q + n) = V (40 * q + n) := by rw [hU q n (by omega), if_neg (by omega)]
                      rw [hU0] at e65
                      have hno : vOut (A 6) V ls q n = false := by unfold vOut; rw [decide_eq_false_iff_not]; rw [hlt, decide_eq_false_iff_not] at e84; exact fun z => e84 z.1
                      have hlt2 : lt = decide (n < vKp (A 6) V ls q) := hlt.trans (vKp_step (n := n) (by omega) (fun z => absurd z.2.2 (by omega))).symm
                      refine ihw c lt F U (by omega) (by rw [cnt_succ, if_neg (by rw [hno]; decide)] at hc; omega) hlt2 hF ?_ (fun p i hi => ?_)
                      · exact hU2
                      · rw [hU p i hi]
                        by_cases z : p = q ∧ i = n
                        · obtain ⟨rfl, rfl⟩ := z
                          rw [if_neg (by omega), if_pos (by omega)]
                          unfold vVac
                          rw [if_neg (by rw [hno]; decide)]
                        · by_cases z2 : p < q ∨ (p = q ∧ n + 1 ≤ i)
                          · rw [if_pos z2, if_pos (by omega)]
                          · rw [if_neg z2, if_neg (by omega)]
                    · skip
                      replace e105 : ¬ nI ls < nI (n + 1) := e105
                      replace e105 : ¬ ls < n + 1 := fun z => e105 ((nI_ltI (a := ls) (b := n + 1) (by omega) (by omega)).mpr z)
                      refine kx_rn dM_vacuum 4 49 [(0, .ref m), (1, .int (nI ls)), (2, .int (nI c)), (3, .int (nI (40 * q))), (4, .int 1), (5, .int ((nI (n + 1)) + (-1)))] [] rfl ?_
                      rw [show (nI (n + 1)) + (-1) = nI ((n + 1) - 1) from kn_sa rfl rfl (by omega)]
                      have hU0 : U (40 * q + n) = V (40 * q + n) := by rw [hU q n (by omega), if_neg (by omega)]
                      rw [hU0] at e65
                      have hno : vOut (A 6) V ls q n = false := by unfold vOut; rw [decide_eq_false_iff_not]; rw [hlt, decide_eq_false_iff_not] at e84; exact fun z => e84 z.1
                      have hlt2 : true = decide (n < vKp (A 6) V ls q) := (decide_eq_true (vKp_yes (by omega) e65 e76 (by omega))).symm
                      refine ihw c true F U (by omega) (by rw [cnt_succ, if_neg (by rw [hno]; decide)] at hc; omega) hlt2 hF ?_ (fun p i hi => ?_)
                      · exact hU2
                      · rw [hU p i hi]
                        by_cases z : p = q ∧ i = n
                        · obtain ⟨rfl, rfl⟩ := z
                          rw [if_neg (by omega), if_pos (by omega)]
                          unfold vVac
                          rw [if_neg (by rw [hno]; decide)]
                        · by_cases z2 : p < q ∨ (p = q ∧ n + 1 ≤ i)
                          · rw [if_pos z2, if_pos (by omega)]
                          · rw [if_neg z2, if_neg (by omega)]
                  · skip
                    replace e84 : ¬ b01 lt = 0 := e84
                    replace e84 : lt = true := b01_t e84
                    refine kx_rn dM_vacuum 1 88 [(0, .ref m), (1, .int (nI ls)), (2, .int (nI c)), (3, .int (nI (40 * q))), (4, .int (b01 lt)), (5, .int (nI (n + 1)))] [.ref m] rfl ?_
                    refine pM_19 (v := .ref (m + 4)) rfl (kx_tk_dec rfl dM_vacuum) (mh_o hm) rfl ?_
                    refine kx_rn dM_vacuum 5 97 [(0, .ref m), (1, .int (nI ls)), (2, .int (nI c)), (3, .int (nI (40 * q))), (4, .int (b01 lt)), (5, .int (nI (n + 1)))] [.int (((nI (40 * q)) + (nI (n + 1))) - 1), .ref (m + 4)] rfl ?_
                    rw [show ((nI (40 * q)) + (nI (n + 1))) - 1 = nI (((40 * q) + (n + 1)) - 1) from kn_su (kn_ad rfl rfl) rfl (by omega)]
                    rw [show 40 * q + (n + 1) - 1 = 40 * q + n from by omega]
                    refine kx_rn dM_vacuum 1 98 [(0, .ref m), (1, .int (nI ls)), (2, .int (nI c)), (3, .int (nI (40 * q))), (4, .int (b01 lt)), (5, .int (nI (n + 1)))] [.int 0, .int (nI (40 * q + n)), .ref (m + 4)] rfl ?_
                    refine mh_st (k := 4) (i := 40 * q + n) (A' := va_up A 4 (va_up F (40 * q + n) 0)) rfl (kx_tk_dec rfl dM_vacuum) hm (by show 40 * q + n < 2880; omega) (va_upup _ _ _ _) ?_
                    refine kx_rn dM_vacuum 3 105 [(0, .ref m), (1, .int (nI ls)), (2, .int ((nI c) + 1)), (3, .int (nI (40 * q))), (4, .int (b01 lt)), (5, .int (nI (n + 1)))] [.int (nI ls), .int (nI (n + 1))] rfl ?_
                    rw [show (nI c) + 1 = nI (c + 1) from kn_ad rfl rfl]
                    refine kx_ic (tgt := 111) (kx_tk_dec rfl dM_vacuum) rfl (fun e105 => ?_) (fun e105 => ?_)
                    · skip
                      replace e105 : nI ls < nI (n + 1) := e105
                      replace e105 : ls < n + 1 := (nI_ltI (a := ls) (b := n + 1) (by omega) (by omega)).mp e105
                      refine kx_rn dM_vacuum 2 49 [(0, .ref m), (1, .int (nI ls)), (2, .int (nI (c + 1))), (3, .int (nI (40 * q))), (4, .int (b01 lt)), (5, .int ((nI (n + 1)) + (-1)))] [] rfl ?_
                      rw [show (nI (n + 1)) + (-1) = nI ((n + 1) - 1) from kn_sa rfl rfl (by omega)]
                      have hU0 : U (40 * q + n) = V (40 * q + n) := by rw [hU q n (by omega), if_neg (by omega)]
                      rw [hU0] at e65
                      have hno : vOut (A 6) V ls q n = true := by unfold vOut; rw [decide_eq_true_eq]; rw [hlt, decide_eq_true_eq] at e84; exact ⟨e84, e65, e76⟩
                      have hlt2 : lt = decide (n < vKp (A 6) V ls q) := hlt.trans (vKp_step (n := n) (by omega) (fun z => absurd z.2.2 (by omega))).symm
                      refine ihw (c + 1) lt (va_up F (40 * q + n) 0) (va_up U (40 * q + n) 0) (by omega) (by rw [cnt_succ, if_pos hno] at hc; omega) hlt2 (va_nIp hF _ 0) ?_ (fun p i hi => ?_)
                      · intro v
                        simp only [va_up]
                        split
                        · decide
                        · exact hU2 v
                      · by_cases z : p = q ∧ i = n
                        · obtain ⟨rfl, rfl⟩ := z
                          rw [va_up_self, if_pos (by omega)]
                          unfold vVac
                          rw [if_pos hno]
                        · rw [va_up_ne _ _ (by omega), hU p i hi]
                          by_cases z2 : p < q ∨ (p = q ∧ n + 1 ≤ i)
                          · rw [if_pos z2, if_pos (by omega)]
                          · rw [if_neg z2, if_neg (by omega)]
                    · skip
                      replace e105 : ¬ nI ls < nI (n + 1) := e105
                      replace e105 : ¬ ls < n + 1 := fun z => e105 ((nI_ltI (a := ls) (b := n + 1) (by omega) (by omega)).mpr z)
                      refine kx_rn dM_vacuum 4 49 [(0, .ref m), (1, .int (nI ls)), (2, .int (nI (c + 1))), (3, .int (nI (40 * q))), (4, .int 1), (5, .int ((nI (n + 1)) + (-1)))] [] rfl ?_
                      rw [show (nI (n + 1)) + (-1) = nI ((n + 1) - 1) from kn_sa rfl rfl (by omega)]
                      have hU0 : U (40 * q + n) = V (40 * q + n) := by rw [hU q n (by omega), if_neg (by omega)]
                      rw [hU0] at e65
                      have hno : vOut (A 6) V ls q n = true := by unfold vOut; rw [decide_eq_true_eq]; rw [hlt, decide_eq_true_eq] at e84; exact ⟨e84, e65, e76⟩
                      have hlt2 : true = decide (n < vKp (A 6) V ls q) := (decide_eq_true (vKp_yes (by omega) e65 e76 (by omega))).symm
                      refine ihw (c + 1) true (va_up F (40 * q + n) 0) (va_up U (40 * q + n) 0) (by omega) (by rw [cnt_succ, if_pos hno] at hc; omega) hlt2 (va_nIp hF _ 0) ?_ (fun p i hi => ?_)
                      · intro v
                        simp only [va_up]
                        split
                        · decide
                        · exact hU2 v
                      · by_cases z : p = q ∧ i = n
                        · obtain ⟨rfl, rfl⟩ := z
                          rw [va_up_self, if_pos (by omega)]
                          unfold vVac
                          rw [if_pos hno]
                        · rw [va_up_ne _ _ (by omega), hU p i hi]
                          by_cases z2 : p < q ∨ (p = q ∧ n + 1 ≤ i)
                          · rw [if_pos z2, if_pos (by omega)]
                          · rw [if_neg z2, if_neg (by omega)]
                · skip
                  replace e76 : ¬ A 6 (n + 1) = 2 := e76
                  refine kx_rn dM_vacuum 3 49 [(0, .ref m), (1, .int (nI ls)), (2, .int (nI c)), (3, .int (nI (40 * q))), (4, .int (b01 lt)), (5, .int ((nI (n + 1)) + (-1)))] [] rfl ?_
                  rw [show (nI (n + 1)) + (-1) = nI ((n + 1) - 1) from kn_sa rfl rfl (by omega)]
                  have hU0 : U (40 * q + n) = V (40 * q + n) := by rw [hU q n (by omega), if_neg (by omega)]
                  have hno : vOut (A 6) V ls q n = false := by unfold vOut; rw [decide_eq_false_iff_not]; exact (fun z => e76 z.2.2)
                  have hlt2 : lt = decide (n < vKp (A 6) V ls q) := hlt.trans (vKp_step (n := n) (by omega) (fun z => e76 z.2.1)).symm
                  refine ihw c lt F U (by omega) (by rw [cnt_succ, if_neg (by rw [hno]; decide)] at hc; omega) hlt2 hF ?_ (fun p i hi => ?_)
                  · exact hU2
                  · rw [hU p i hi]
                    by_cases z : p = q ∧ i = n
                    · obtain ⟨rfl, rfl⟩ := z
                      rw [if_neg (by omega), if_pos (by omega)]
                      unfold vVac
                      rw [if_neg (by rw [hno]; decide)]
                    · by_cases z2 : p < q ∨ (p = q ∧ n + 1 ≤ i)
                      · rw [if_pos z2, if_pos (by omega)]
                      · rw [if_neg z2, if_neg (by omega)]
        refine kx_rn dM_vacuum 2 39 [(0, .ref m), (1, .int (nI ls)), (2, .int (nI c0)), (3, .int (nI (40 * q)))] [.int 2880, .int (nI (40 * q))] rfl ?_
        refine kx_ic (tgt := 123) (kx_tk_dec rfl dM_vacuum) rfl (fun e39 => ?_) (fun e39 => ?_)
        · skip
          replace e39 : 2880 ≤ nI (40 * q) := e39
          replace e39 : 2880 ≤ 40 * q := (nI_leI (a := 2880) (b := 40 * q) (by omega) (by omega)).mp e39
          exfalso; omega
        · skip
          replace e39 : ¬ 2880 ≤ nI (40 * q) := e39
          replace e39 : ¬ 2880 ≤ 40 * q := fun z => e39 ((nI_leI (a := 2880) (b := 40 * q) (by omega) (by omega)).mpr z)
          refine kx_rn dM_vacuum 4 49 [(0, .ref m), (1, .int (nI ls)), (2, .int (nI c0)), (3, .int (nI (40 * q))), (4, .int 0), (5, .int 40)] [] rfl ?_
          refine inner 40 c0 false F U (Nat.le_refl _) rfl ?_ hF hU2 (fun p i hi => ?_)
          · have := hw_le (fun w => decide (¬ V (40 * q + w - 1) = 0 ∧ A 6 w = 2)) (min ls 40)
            exact (decide_eq_false (by unfold vKp; omega)).symm
          · rw [hU p i hi]
            by_cases z : p < q
            · rw [if_pos z, if_pos (by omega)]
            · rw [if_neg z, if_neg (by omega)]
    refine kx_heq (congrArg (mH h0 m (va_up S 0 0)) (va_upsame A 4).symm) ?_
    exact outer 72 0 0 _ V rfl rfl hV hV2 (fun p i hi => by rw [if_neg (by omega)])
  have first : ∀ n (j : Nat), j + n = bg → (∀ t, 1 ≤ t → t ≤ j → ¬ A 6 t = 1) → kx_w G l mM_vacuum d (fun o h' => ∃ ls, mLeast A bg ls ∧ o = .returned (some (.int (nI (nsum (fun q => cnt (vOut (A 6) V ls q) 40) 72)))) ∧ ∃ (F : Nat → Int32) (U : Nat → Nat), h' = mH h0 m (va_up S 0 0) (va_up A 4 F) ∧ (∀ v, F v = nI (U v)) ∧ (∀ v, U v < 256) ∧ ∀ q i, i < 40 → U (40 * q + i) = if q < 72 then vVac (A 6) V ls q i else V (40 * q + i)) 0 0 7 [(0, .ref m), (1, .int (nI (j + 1)))] [] (mH h0 m (va_up S 0 0) A) := by
    intro n
    induction n with
    | zero =>
      intro j hj hj2
      refine kx_rn dM_vacuum 2 9 [(0, .ref m), (1, .int (nI (j + 1)))] [.ref m, .int (nI (j + 1))] rfl ?_
      refine pM_76 (v := .int (S 7)) rfl (kx_tk_dec rfl dM_vacuum) (mh_o hm) rfl ?_
      rw [hb]
      refine kx_ic (tgt := 31) (kx_tk_dec rfl dM_vacuum) rfl (fun e12 => ?_) (fun e12 => ?_)
      · skip
        replace e12 : nI bg < nI (j + 1) := e12
        replace e12 : bg < j + 1 := (nI_ltI (a := bg) (b := j + 1) (by omega) (by omega)).mp e12
        refine kx_rn dM_vacuum 4 35 [(0, .ref m), (1, .int (nI (j + 1))), (2, .int 0), (3, .int 0)] [] rfl ?_
        exact vac (j + 1) ⟨by omega, by omega, fun t h1 h2 => hj2 t h1 (by omega), fun z => absurd z (by omega)⟩
      · skip
        replace e12 : ¬ nI bg < nI (j + 1) := e12
        replace e12 : ¬ bg < j + 1 := fun z => e12 ((nI_ltI (a := bg) (b := j + 1) (by omega) (by omega)).mpr z)
        exfalso; omega
    | succ n ih =>
      intro j hj hj2
      refine kx_rn dM_vacuum 2 9 [(0, .ref m), (1, .int (nI (j + 1)))] [.ref m, .int (nI (j + 1))] rfl ?_
      refine pM_76 (v := .int (S 7)) rfl (kx_tk_dec rfl dM_vacuum) (mh_o hm) rfl ?_
      rw [hb]
      refine kx_ic (tgt := 31) (kx_tk_dec rfl dM_vacuum) rfl (fun e12 => ?_) (fun e12 => ?_)
      · skip
        replace e12 : nI bg < nI (j + 1) := e12
        replace e12 : bg < j + 1 := (nI_ltI (a := bg) (b := j + 1) (by omega) (by omega)).mp e12
        exfalso; omega
      · skip
        replace e12 : ¬ nI bg < nI (j + 1) := e12
        replace e12 : ¬ bg < j + 1 := fun z => e12 ((nI_ltI (a := bg) (b := j + 1) (by omega) (by omega)).mpr z)
        refine kx_rn dM_vacuum 1 16 [(0, .ref m), (1, .int (nI (j + 1)))] [.ref m] rfl ?_
        refine pM_25 (v := .ref (m + 6)) rfl (kx_tk_dec rfl dM_vacuum) (mh_o hm) rfl ?_
        refine kx_rn dM_vacuum 1 20 [(0, .ref m), (1, .int (nI (j + 1)))] [.int (nI (j + 1)), .ref (m + 6)] rfl ?_
        refine mh_ld (k := 6) (x := A 6 (j + 1)) (i := j + 1) rfl rfl (kx_tk_dec rfl dM_vacuum) hm (by show j + 1 < 41; omega) ?_
        refine kx_rn dM_vacuum 1 22 [(0, .ref m), (1, .int (nI (j + 1)))] [.int 1, .int (A 6 (j + 1))] rfl ?_
        refine kx_ic (tgt := 31) (kx_tk_dec rfl dM_vacuum) rfl (fun e22 => ?_) (fun e22 => ?_)
        · skip
          replace e22 : A 6 (j + 1) = 1 := e22
          refine kx_rn dM_vacuum 4 35 [(0, .ref m), (1, .int (nI (j + 1))), (2, .int 0), (3, .int 0)] [] rfl ?_
          exact vac (j + 1) ⟨by omega, by omega, fun t h1 h2 => hj2 t h1 (by omega), fun _ => e22⟩
        · skip
          replace e22 : ¬ A 6 (j + 1) = 1 := e22
          refine kx_rn dM_vacuum 2 7 [(0, .ref m), (1, .int ((nI (j + 1)) + 1))] [] rfl ?_
          rw [show (nI (j + 1)) + 1 = nI ((j + 1) + 1) from kn_ad rfl rfl]
          exact ih (j + 1) (by omega) (fun t h1 h2 => by
            by_cases z : t = j + 1
            · rw [z]; exact e22
            · exact hj2 t h1 (by omega))
  refine kx_rn dM_vacuum 2 2 [(0, .ref m)] [.int 0, .ref m] rfl ?_
  refine qM_69 rfl (kx_tk_dec rfl dM_vacuum) (mh_o hm) rfl rfl (Nat.le_of_ble_eq_true rfl) ?_
  rw [mh_p0]
  refine kx_rn dM_vacuum 2 7 [(0, .ref m), (1, .int 1)] [] rfl ?_
  exact first bg 0 (by omega) (fun t h1 h2 => absurd h1 (by omega))
end KM6b
