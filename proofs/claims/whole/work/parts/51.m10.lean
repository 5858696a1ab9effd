/-! ===== the reference: writeAll, workSettings ===== -/
section KM10
variable {G : kx_G} {l : Launch} {d : Nat} {h0 : kx_H} {m : Nat} {S : Nat → Int32} {A : Nat → Nat → Int32}
/-- row q of table kn is one of those that are written -/
def vHit (mt : Nat → Bool) (kn tn rw q w : Nat) : Prop := 24 * kn ≤ q ∧ q < 24 * kn + rw ∧ mt (q - 24 * kn) = true ∧ w + 1 = tn
def mLate (V : Nat → Nat) (mt : Nat → Bool) (tn kn rw : Nat) : Prop := ∃ r, r < rw ∧ mt r = true ∧ tn < V (40 * (24 * kn + r) + (hwq V tn (24 * kn + r) - 1)) / 4
/-- what is written: the words and the values -/
def vWrote (V0 : Nat → Nat → Nat) (f news : Nat → Int32) (mt : Nat → Bool) (kn tn rw : Nat) (g : Bool) (F F5 : Nat → Int32) : Prop := ∃ U : Nat → Nat, (∀ v, F v = nI (U v)) ∧ (∀ v, U v < 256) ∧ (∀ q w, w < 40 → (vHit mt kn tn rw q w → U (40 * q + w) = vWr (V0 q w) tn g) ∧ (¬ vHit mt kn tn rw q w → U (40 * q + w) = V0 q w)) ∧ ∀ q w c, w < 40 → c < 4 → (vHit mt kn tn rw q w → F5 (4 * (40 * q + w) + c) = if g then 0 else news (4 * (q - 24 * kn) + c)) ∧ (¬ vHit mt kn tn rw q w → F5 (4 * (40 * q + w) + c) = f (4 * (40 * q + w) + c))
theorem vWr_lt {x tn : Nat} {g : Bool} (hx : x < 256) (ht : tn ≤ 40) : vWr x tn g < 256 := by
  unfold vWr
  split <;> split <;> omega
set_option maxRecDepth 100000 in
theorem cM_writeAll {tn kn rw sc : Nat} {g : Bool} {lc : Int32} (hst : l.stackTraces = false) (hm : mOk G h0 m) (ht1 : 1 ≤ tn) (ht2 : tn ≤ 40) (hk : kn < 3) (hrw : A 2 kn = nI rw) (hrw2 : rw ≤ 24) (hs : A 3 kn = nI sc) (hs2 : sc ≤ 40) {V : Nat → Nat} (hV : ∀ v, A 4 v = nI (V v)) (hV2 : ∀ v, V v < 256) {mt : Nat → Bool} (hmt : ∀ r, r < rw → A 18 r = b01 (mt r)) (hW : ∀ r, r < rw → A 16 r = heldR (40 * (24 * kn + r)) (hwq V tn (24 * kn + r))) (hmw : ∀ r, mt r = true → ¬ hwq V tn (24 * kn + r) = 0) :
    kx_c G l mM_writeAll (d + 2) 0 0 [.ref m, .int (nI tn), .int (nI kn), .int (b01 g), .int lc] (mH h0 m S A) (fun o h' => (mLate V mt tn kn rw ∧ o = .returned (some (.int 0)) ∧ h' = mH h0 m (va_up (va_up S 8 (S 8 + 1)) 0 lc) (va_up (va_up A 6 (va_up (A 6) tn 3)) 4 (fun v => nI (vBrk V tn v)))) ∨ (¬ mLate V mt tn kn rw ∧ o = .returned (some (.int (nI (cnt mt rw)))) ∧ ∃ A1 : Nat → Nat → Int32, h' = mH h0 m S A1 ∧ (∀ k, k ≠ 3 → k ≠ 4 → k ≠ 5 → A1 k = A k) ∧ A1 3 = va_up (A 3) kn (nI (max sc tn)) ∧ vWrote (vMark V (hwq V tn) kn tn rw) (A 5) (A 17) mt kn tn rw g (A1 4) (A1 5))) := by
  refine kx_in (by decide +kernel) (Nat.le_of_ble_eq_true rfl) hst ?_
  refine kx_rn dM_writeAll 3 3 [(0, .ref m), (1, .int (nI tn)), (2, .int (nI kn)), (3, .int (b01 g)), (4, .int lc)] [.int (nI kn), .int (nI tn), .ref m] rfl ?_
  refine cM_182 (as := [.int (nI tn), .int (nI kn)]) (st := []) (mc := 0) (ms := 0) (kc := 0) (ks := 0) rfl (kx_tk_dec rfl dM_writeAll) (mh_o hm) rfl rfl (Nat.le_of_ble_eq_true rfl) (cM_tooLate (W := hwq V tn) hst hm ht1 ht2 hk hrw hrw2 hV hV2 hW (fun q => Nat.le_trans (hw_le _ _) (by omega)) (fun r hr z => hmw r (b01_t (by rw [← hmt r hr]; exact z)))) (fun o h' hq => ?_)
  obtain ⟨bl, rfl, rfl, hbl⟩ := hq
  show kx_w _ _ _ _ _ _ _ _ _ _ _
  have hbl2 : bl = true ↔ mLate V mt tn kn rw := by
    rw [hbl]
    constructor
    · rintro ⟨r, z1, z2, z3⟩
      rw [hmt r z1] at z2
      exact ⟨r, z1, b01_t z2, z3⟩
    · rintro ⟨r, z1, z2, z3⟩
      exact ⟨r, z1, by rw [hmt r z1, z2]; decide, z3⟩
  refine kx_if (tgt := 17) (kx_tk_dec rfl dM_writeAll) rfl (fun e6 => ?_) (fun e6 => ?_)
  · skip
    replace e6 : b01 bl = 0 := e6
    replace e6 : bl = false := b01_f e6
    refine kx_rn dM_writeAll 3 20 [(0, .ref m), (1, .int (nI tn)), (2, .int (nI kn)), (3, .int (b01 g)), (4, .int lc)] [.int (nI kn), .int (nI tn), .ref m] rfl ?_
    refine cM_172 (as := [.int (nI tn), .int (nI kn)]) (st := []) (mc := 0) (ms := 0) (kc := 0) (ks := 0) rfl (kx_tk_dec rfl dM_writeAll) (mh_o hm) rfl rfl (Nat.le_of_ble_eq_true rfl) (cM_mark (sc := sc) (W := hwq V tn) hst hm ht1 ht2 hk hrw hrw2 hs hs2 hV hV2 hW (fun q => Nat.le_trans (hw_le _ _) (by omega))) (fun o h' hq => ?_)
    obtain ⟨rfl, F, U, rfl, hF, hU2, hU⟩ := hq
    show kx_w _ _ _ _ _ _ _ _ _ _ _
    refine kx_rn dM_writeAll 4 29 [(0, .ref m), (1, .int (nI tn)), (2, .int (nI kn)), (3, .int (b01 g)), (4, .int lc), (5, .int 0), (6, .int 0)] [] rfl ?_
    have loop : ∀ n (j c : Nat) (A2 : Nat → Nat → Int32), j + n = rw → c = cnt mt j → (∀ k, k ≠ 4 → k ≠ 5 → A2 k = (va_up (va_up A 3 (va_up (A 3) kn (nI (max sc tn)))) 4 F) k) → vWrote (vMark V (hwq V tn) kn tn rw) (A 5) (A 17) mt kn tn j g (A2 4) (A2 5) → kx_w G l mM_writeAll (d + 2) (fun o h' => (mLate V mt tn kn rw ∧ o = .returned (some (.int 0)) ∧ h' = mH h0 m (va_up (va_up S 8 (S 8 + 1)) 0 lc) (va_up (va_up A 6 (va_up (A 6) tn 3)) 4 (fun v => nI (vBrk V tn v)))) ∨ (¬ mLate V mt tn kn rw ∧ o = .returned (some (.int (nI (cnt mt rw)))) ∧ ∃ A1 : Nat → Nat → Int32, h' = mH h0 m S A1 ∧ (∀ k, k ≠ 3 → k ≠ 4 → k ≠ 5 → A1 k = A k) ∧ A1 3 = va_up (A 3) kn (nI (max sc tn)) ∧ vWrote (vMark V (hwq V tn) kn tn rw) (A 5) (A 17) mt kn tn rw g (A1 4) (A1 5))) 0 0 29 [(0, .ref m), (1, .int (nI tn)), (2, .int (nI kn)), (3, .int (b01 g)), (4, .int lc), (5, .int (nI c)), (6, .int (nI j))] [] (mH h0 m S A2) := by
      intro n
      induction n with
      | zero =>
        intro j c A2 hj hc hA2 hw2
        have hR2' : A2 2 kn = nI rw := by rw [hA2 2 (by decide) (by decide)]; exact hrw
        have hcj := cnt_le mt j
        refine kx_rn dM_writeAll 2 32 [(0, .ref m), (1, .int (nI tn)), (2, .int (nI kn)), (3, .int (b01 g)), (4, .int lc), (5, .int (nI c)), (6, .int (nI j))] [.ref m, .int (nI j)] rfl ?_
        refine pM_13 (v := .ref (m + 2)) rfl (kx_tk_dec rfl dM_writeAll) (mh_o hm) rfl ?_
        refine kx_rn dM_writeAll 1 36 [(0, .ref m), (1, .int (nI tn)), (2, .int (nI kn)), (3, .int (b01 g)), (4, .int lc), (5, .int (nI c)), (6, .int (nI j))] [.int (nI kn), .ref (m + 2), .int (nI j)] rfl ?_
        refine mh_ld (k := 2) (x := A2 2 kn) (i := kn) rfl rfl (kx_tk_dec rfl dM_writeAll) hm (by show kn < 3; omega) ?_
        rw [hR2']
        refine kx_ic (tgt := 71) (kx_tk_dec rfl dM_writeAll) rfl (fun e37 => ?_) (fun e37 => ?_)
        · skip
          replace e37 : nI rw ≤ nI j := e37
          replace e37 : rw ≤ j := (nI_leI (a := rw) (b := j) (by omega) (by omega)).mp e37
          refine kx_rn dM_writeAll 1 73 [(0, .ref m), (1, .int (nI tn)), (2, .int (nI kn)), (3, .int (b01 g)), (4, .int lc), (5, .int (nI c)), (6, .int (nI j))] [.int (nI c)] rfl ?_
          refine kx_ret (ty := .int) (kx_tk_dec rfl dM_writeAll) rfl rfl ?_
          refine Or.inr ⟨fun z => absurd (hbl2.mpr z) (by rw [e6]; decide), by rw [hc, show j = rw by omega], A2, rfl, ?_, ?_, by have z := hw2; rw [show j = rw by omega] at z; exact z⟩
          · intro k z3 z4 z5
            rw [hA2 k z4 z5, va_up_ne _ _ z4, va_up_ne _ _ z3]
          · rw [hA2 3 (by decide) (by decide)]; rfl
        · skip
          replace e37 : ¬ nI rw ≤ nI j := e37
          replace e37 : ¬ rw ≤ j := fun z => e37 ((nI_leI (a := rw) (b := j) (by omega) (by omega)).mpr z)
          exfalso; omega
      | succ n ih =>
        intro j c A2 hj hc hA2 hw2
        have hR2' : A2 2 kn = nI rw := by rw [hA2 2 (by decide) (by decide)]; exact hrw
        have hcj := cnt_le mt j
        refine kx_rn dM_writeAll 2 32 [(0, .ref m), (1, .int (nI tn)), (2, .int (nI kn)), (3, .int (b01 g)), (4, .int lc), (5, .int (nI c)), (6, .int (nI j))] [.ref m, .int (nI j)] rfl ?_
        refine pM_13 (v := .ref (m + 2)) rfl (kx_tk_dec rfl dM_writeAll) (mh_o hm) rfl ?_
        refine kx_rn dM_writeAll 1 36 [(0, .ref m), (1, .int (nI tn)), (2, .int (nI kn)), (3, .int (b01 g)), (4, .int lc), (5, .int (nI c)), (6, .int (nI j))] [.int (nI kn), .ref (m + 2), .int (nI j)] rfl ?_
        refine mh_ld (k := 2) (x := A2 2 kn) (i := kn) rfl rfl (kx_tk_dec rfl dM_writeAll) hm (by show kn < 3; omega) ?_
        rw [hR2']
        refine kx_ic (tgt := 71) (kx_tk_dec rfl dM_writeAll) rfl (fun e37 => ?_) (fun e37 => ?_)
        · skip
          replace e37 : nI rw ≤ nI j := e37
          replace e37 : rw ≤ j := (nI_leI (a := rw) (b := j) (by omega) (by omega)).mp e37
          exfalso; omega
        · skip
          replace e37 : ¬ nI rw ≤ nI j := e37
          replace e37 : ¬ rw ≤ j := fun z => e37 ((nI_leI (a := rw) (b := j) (by omega) (by omega)).mpr z)
          refine kx_rn dM_writeAll 1 41 [(0, .ref m), (1, .int (nI tn)), (2, .int (nI kn)), (3, .int (b01 g)), (4, .int lc), (5, .int (nI c)), (6, .int (nI j))] [.ref m] rfl ?_
          refine pM_66 (v := .ref (m + 18)) rfl (kx_tk_dec rfl dM_writeAll) (mh_o hm) rfl ?_
          refine kx_rn dM_writeAll 1 46 [(0, .ref m), (1, .int (nI tn)), (2, .int (nI kn)), (3, .int (b01 g)), (4, .int lc), (5, .int (nI c)), (6, .int (nI j))] [.int (nI j), .ref (m + 18)] rfl ?_
          refine mh_zl (k := 18) (x := A2 18 j) (i := j) rfl rfl (kx_tk_dec rfl dM_writeAll) hm (by show j < 24; omega) ?_
          rw [show A2 18 j = b01 (mt j) from by rw [hA2 18 (by decide) (by decide)]; exact hmt j (by omega)]
          refine kx_if (tgt := 53) (kx_tk_dec rfl dM_writeAll) rfl (fun e47 => ?_) (fun e47 => ?_)
          · skip
            replace e47 : ¬ b01 (mt j) = 0 := e47
            replace e47 : mt j = true := b01_t e47
            refine kx_rn dM_writeAll 5 59 [(0, .ref m), (1, .int (nI tn)), (2, .int (nI kn)), (3, .int (b01 g)), (4, .int lc), (5, .int (nI c)), (6, .int (nI j))] [.int (b01 g), .int (nI j), .int (nI kn), .int (nI tn), .ref m] rfl ?_
            obtain ⟨U2, hF2, hU22, hw3, hw4⟩ := id hw2
            refine cM_188 (as := [.int (nI tn), .int (nI kn), .int (nI j), .int (b01 g)]) (st := []) (mc := 0) (ms := 0) (kc := 0) (ks := 0) rfl (kx_tk_dec rfl dM_writeAll) (mh_o hm) rfl rfl (Nat.le_of_ble_eq_true rfl) (cM_write (V := U2) hst hm ht1 ht2 hk (by omega) hF2 hU22) (fun o h' hq => ?_)
            obtain ⟨rfl, rfl⟩ := hq
            show kx_w _ _ _ _ _ _ _ _ _ _ _
            refine kx_rn dM_writeAll 3 29 [(0, .ref m), (1, .int (nI tn)), (2, .int (nI kn)), (3, .int (b01 g)), (4, .int lc), (5, .int ((nI c) + 1)), (6, .int ((nI j) + 1))] [] rfl ?_
            rw [show (nI c) + 1 = nI (c + 1) from kn_ad rfl rfl]
            rw [show (nI j) + 1 = nI (j + 1) from kn_ad rfl rfl]
            refine ih (j + 1) (c + 1) _ (by omega) (cnt_y hc e47) (fun k z4 z5 => by rw [va_up_ne _ _ z5, va_up_ne _ _ z4]; exact hA2 k z4 z5) ?_
            have hv0 : 40 * (24 * kn + j) + tn - 1 = 40 * (24 * kn + j) + (tn - 1) := by omega
            have hnot : ¬ vHit mt kn tn j (24 * kn + j) (tn - 1) := fun z => by have := z.2.1; omega
            have hit : vHit mt kn tn (j + 1) (24 * kn + j) (tn - 1) := ⟨by omega, by omega, by rw [show 24 * kn + j - 24 * kn = j by omega]; exact e47, by omega⟩
            have key : ∀ q w, ¬ (q = 24 * kn + j ∧ w = tn - 1) → (vHit mt kn tn (j + 1) q w ↔ vHit mt kn tn j q w) := by
              intro q w z
              unfold vHit
              constructor
              · rintro ⟨z1, z2, z3, z4⟩
                exact ⟨z1, by omega, z3, z4⟩
              · rintro ⟨z1, z2, z3, z4⟩
                exact ⟨z1, by omega, z3, z4⟩
            have hA17 : A2 17 = A 17 := by rw [hA2 17 (by decide) (by decide)]; rfl
            rw [hv0]
            refine ⟨va_up U2 (40 * (24 * kn + j) + (tn - 1)) (vWr (U2 (40 * (24 * kn + j) + (tn - 1))) tn g), ?_, ?_, ?_, ?_⟩
            · exact va_nIp hF2 _ _
            · intro v
              simp only [va_up]
              split
              · exact vWr_lt (hU22 _) ht2
              · exact hU22 v
            · intro q w hw
              by_cases z : q = 24 * kn + j ∧ w = tn - 1
              · obtain ⟨rfl, rfl⟩ := z
                rw [va_up_self, (hw3 _ _ hw).2 hnot]
                exact ⟨fun _ => rfl, fun z => absurd hit z⟩
              · rw [va_up_ne _ _ (by omega), key q w z]
                exact hw3 q w hw
            · intro q w c2 hw hc2
              show (_ → vVal (A2 5) (A2 17) (40 * (24 * kn + j) + (tn - 1)) j g 4 _ = _) ∧ (_ → vVal (A2 5) (A2 17) (40 * (24 * kn + j) + (tn - 1)) j g 4 _ = _)
              unfold vVal
              by_cases z : q = 24 * kn + j ∧ w = tn - 1
              · obtain ⟨rfl, rfl⟩ := z
                rw [if_pos (by omega), hA17]
                refine ⟨fun _ => ?_, fun z => absurd hit z⟩
                rw [show 4 * (40 * (24 * kn + j) + (tn - 1)) + c2 - 4 * (40 * (24 * kn + j) + (tn - 1)) = c2 by omega, show 24 * kn + j - 24 * kn = j by omega]
              · rw [if_neg (by omega), key q w z]
                exact hw4 q w c2 hw hc2
          · skip
            replace e47 : b01 (mt j) = 0 := e47
            replace e47 : mt j = false := b01_f e47
            refine kx_rn dM_writeAll 3 29 [(0, .ref m), (1, .int (nI tn)), (2, .int (nI kn)), (3, .int (b01 g)), (4, .int lc), (5, .int (nI c)), (6, .int ((nI j) + 1))] [] rfl ?_
            rw [show (nI j) + 1 = nI (j + 1) from kn_ad rfl rfl]
            refine ih (j + 1) c A2 (by omega) (cnt_n hc e47) hA2 ?_
            obtain ⟨U2, hF2, hU22, hw3, hw4⟩ := hw2
            have key : ∀ q w, vHit mt kn tn (j + 1) q w ↔ vHit mt kn tn j q w := by
              intro q w
              unfold vHit
              constructor
              · rintro ⟨z1, z2, z3, z4⟩
                refine ⟨z1, ?_, z3, z4⟩
                by_cases z : q = 24 * kn + j
                · rw [show q - 24 * kn = j by omega, e47] at z3; cases z3
                · omega
              · rintro ⟨z1, z2, z3, z4⟩
                exact ⟨z1, by omega, z3, z4⟩
            exact ⟨U2, hF2, hU22, fun q w hw => by rw [key]; exact hw3 q w hw, fun q w c hw hc => by rw [key]; exact hw4 q w c hw hc⟩
    exact loop rw 0 0 _ (by omega) rfl (fun k _ _ => rfl) ⟨U, hF, hU2, fun q w hw => ⟨fun z => absurd z.2.1 (by have := z.1; omega), fun _ => hU q w hw⟩, fun q w c hw hc => ⟨fun z => absurd z.2.1 (by have := z.1; omega), fun _ => rfl⟩⟩
  · skip
    replace e6 : ¬ b01 bl = 0 := e6
    replace e6 : bl = true := b01_t e6
    refine kx_rn dM_writeAll 3 13 [(0, .ref m), (1, .int (nI tn)), (2, .int (nI kn)), (3, .int (b01 g)), (4, .int lc)] [.int lc, .int (nI tn), .ref m] rfl ?_
    refine cM_185 (as := [.int (nI tn), .int lc]) (st := []) (mc := 0) (ms := 0) (kc := 0) (ks := 0) rfl (kx_tk_dec rfl dM_writeAll) (mh_o hm) rfl rfl (Nat.le_of_ble_eq_true rfl) (cM_broken hst hm ht1 ht2 hV hV2) (fun o h' hq => ?_)
    obtain ⟨rfl, rfl⟩ := hq
    show kx_w _ _ _ _ _ _ _ _ _ _ _
    refine kx_ret (ty := .int) (kx_tk_dec rfl dM_writeAll) rfl rfl ?_
    exact Or.inl ⟨hbl2.mp e6, rfl, rfl⟩
end KM10
