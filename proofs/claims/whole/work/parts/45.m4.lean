/-! ===== the reference: writes, answers ===== -/
section KM4
variable {G : kx_G} {l : Launch} {d : Nat} {h0 : kx_H} {m : Nat} {S : Nat → Int32} {A : Nat → Nat → Int32}
theorem cM_tooLate {tn kn rw : Nat} (hst : l.stackTraces = false) (hm : mOk G h0 m) (ht1 : 1 ≤ tn) (ht2 : tn ≤ 40) (hk : kn < 3) (hrw : A 2 kn = nI rw) (hrw2 : rw ≤ 24) {V : Nat → Nat} (hV : ∀ v, A 4 v = nI (V v)) (hV2 : ∀ v, V v < 256) {W : Nat → Nat} (hW : ∀ r, r < rw → A 16 r = heldR (40 * (24 * kn + r)) (W (24 * kn + r))) (hW2 : ∀ q, W q ≤ 40) (hWm : ∀ r, r < rw → ¬ A 18 r = 0 → ¬ W (24 * kn + r) = 0) :
    kx_c G l mM_tooLate d 0 0 [.ref m, .int (nI tn), .int (nI kn)] (mH h0 m S A) (fun o h' => ∃ b : Bool, o = .returned (some (.int (b01 b))) ∧ h' = mH h0 m S A ∧ (b = true ↔ ∃ r, r < rw ∧ (¬ A 18 r = 0 ∧ tn < V (40 * (24 * kn + r) + (W (24 * kn + r) - 1)) / 4))) := by
  refine kx_in (by decide +kernel) (Nat.le_of_ble_eq_true rfl) hst ?_
  have loop : ∀ n (j : Nat), j + n = rw → (∀ r, r < j → ¬ (¬ A 18 r = 0 ∧ tn < V (40 * (24 * kn + r) + (W (24 * kn + r) - 1)) / 4)) → kx_w G l mM_tooLate d (fun o h' => ∃ b : Bool, o = .returned (some (.int (b01 b))) ∧ h' = mH h0 m S A ∧ (b = true ↔ ∃ r, r < rw ∧ (¬ A 18 r = 0 ∧ tn < V (40 * (24 * kn + r) + (W (24 * kn + r) - 1)) / 4))) 0 0 2 [(0, .ref m), (1, .int (nI tn)), (2, .int (nI kn)), (3, .int (nI j))] [] (mH h0 m S A) := by
    intro n
    induction n with
    | zero =>
      intro j hj hl
      refine kx_rn dM_tooLate 2 4 [(0, .ref m), (1, .int (nI tn)), (2, .int (nI kn)), (3, .int (nI j))] [.ref m, .int (nI j)] rfl ?_
      refine pM_13 (v := .ref (m + 2)) rfl (kx_tk_dec rfl dM_tooLate) (mh_o hm) rfl ?_
      refine kx_rn dM_tooLate 1 8 [(0, .ref m), (1, .int (nI tn)), (2, .int (nI kn)), (3, .int (nI j))] [.int (nI kn), .ref (m + 2), .int (nI j)] rfl ?_
      refine mh_ld (k := 2) (x := A 2 kn) (i := kn) rfl rfl (kx_tk_dec rfl dM_tooLate) hm (by show kn < 3; omega) ?_
      rw [hrw]
      refine kx_ic (tgt := 46) (kx_tk_dec rfl dM_tooLate) rfl (fun e9 => ?_) (fun e9 => ?_)
      · skip
        replace e9 : nI rw ≤ nI j := e9
        replace e9 : rw ≤ j := (nI_leI (a := rw) (b := j) (by omega) (by omega)).mp e9
        refine kx_rn dM_tooLate 1 47 [(0, .ref m), (1, .int (nI tn)), (2, .int (nI kn)), (3, .int (nI j))] [.int 0] rfl ?_
        refine kx_ret (ty := .boolean) (kx_tk_dec rfl dM_tooLate) rfl rfl ?_
        exact ⟨false, rfl, rfl, fun z => (by cases z), fun ⟨r, z1, z2⟩ => absurd z2 (hl r (by omega))⟩
      · skip
        replace e9 : ¬ nI rw ≤ nI j := e9
        replace e9 : ¬ rw ≤ j := fun z => e9 ((nI_leI (a := rw) (b := j) (by omega) (by omega)).mpr z)
        exfalso; omega
    | succ n ih =>
      intro j hj hl
      refine kx_rn dM_tooLate 2 4 [(0, .ref m), (1, .int (nI tn)), (2, .int (nI kn)), (3, .int (nI j))] [.ref m, .int (nI j)] rfl ?_
      refine pM_13 (v := .ref (m + 2)) rfl (kx_tk_dec rfl dM_tooLate) (mh_o hm) rfl ?_
      refine kx_rn dM_tooLate 1 8 [(0, .ref m), (1, .int (nI tn)), (2, .int (nI kn)), (3, .int (nI j))] [.int (nI kn), .ref (m + 2), .int (nI j)] rfl ?_
      refine mh_ld (k := 2) (x := A 2 kn) (i := kn) rfl rfl (kx_tk_dec rfl dM_tooLate) hm (by show kn < 3; omega) ?_
      rw [hrw]
      refine kx_ic (tgt := 46) (kx_tk_dec rfl dM_tooLate) rfl (fun e9 => ?_) (fun e9 => ?_)
      · skip
        replace e9 : nI rw ≤ nI j := e9
        replace e9 : rw ≤ j := (nI_leI (a := rw) (b := j) (by omega) (by omega)).mp e9
        exfalso; omega
      · skip
        replace e9 : ¬ nI rw ≤ nI j := e9
        replace e9 : ¬ rw ≤ j := fun z => e9 ((nI_leI (a := rw) (b := j) (by omega) (by omega)).mpr z)
        refine kx_rn dM_tooLate 1 13 [(0, .ref m), (1, .int (nI tn)), (2, .int (nI kn)), (3, .int (nI j))] [.ref m] rfl ?_
        refine pM_66 (v := .ref (m + 18)) rfl (kx_tk_dec rfl dM_tooLate) (mh_o hm) rfl ?_
        refine kx_rn dM_tooLate 1 17 [(0, .ref m), (1, .int (nI tn)), (2, .int (nI kn)), (3, .int (nI j))] [.int (nI j), .ref (m + 18)] rfl ?_
        refine mh_zl (k := 18) (x := A 18 j) (i := j) rfl rfl (kx_tk_dec rfl dM_tooLate) hm (by show j < 24; omega) ?_
        refine kx_if (tgt := 40) (kx_tk_dec rfl dM_tooLate) rfl (fun e18 => ?_) (fun e18 => ?_)
        · skip
          replace e18 : A 18 j = 0 := e18
          refine kx_rn dM_tooLate 2 2 [(0, .ref m), (1, .int (nI tn)), (2, .int (nI kn)), (3, .int ((nI j) + 1))] [] rfl ?_
          rw [show (nI j) + 1 = nI (j + 1) from kn_ad rfl rfl]
          refine ih (j + 1) (by omega) (fun r hr => ?_)
          by_cases z : r = j
          · subst z; exact fun y => y.1 e18
          · exact hl r (by omega)
        · skip
          replace e18 : ¬ A 18 j = 0 := e18
          refine kx_rn dM_tooLate 1 22 [(0, .ref m), (1, .int (nI tn)), (2, .int (nI kn)), (3, .int (nI j))] [.ref m] rfl ?_
          refine pM_19 (v := .ref (m + 4)) rfl (kx_tk_dec rfl dM_tooLate) (mh_o hm) rfl ?_
          refine kx_rn dM_tooLate 1 26 [(0, .ref m), (1, .int (nI tn)), (2, .int (nI kn)), (3, .int (nI j))] [.ref m, .ref (m + 4)] rfl ?_
          refine pM_60 (v := .ref (m + 16)) rfl (kx_tk_dec rfl dM_tooLate) (mh_o hm) rfl ?_
          refine kx_rn dM_tooLate 1 30 [(0, .ref m), (1, .int (nI tn)), (2, .int (nI kn)), (3, .int (nI j))] [.int (nI j), .ref (m + 16), .ref (m + 4)] rfl ?_
          refine mh_ld (k := 16) (x := A 16 j) (i := j) rfl rfl (kx_tk_dec rfl dM_tooLate) hm (by show j < 24; omega) ?_
          rw [hW j (by omega)]
          have hW2j := hW2 (24 * kn + j)
          cases hWj : W (24 * kn + j) with
          | zero => exact absurd hWj (hWm j (by omega) e18)
          | succ w1 =>
            refine mh_ld (k := 4) (x := A 4 (40 * (24 * kn + j) + w1)) (i := 40 * (24 * kn + j) + w1) rfl rfl (kx_tk_dec rfl dM_tooLate) hm (by show 40 * (24 * kn + j) + w1 < 2880; omega) ?_
            rw [hV (40 * (24 * kn + j) + w1)]
            have := hV2 (40 * (24 * kn + j) + w1)
            refine kx_rn dM_tooLate 2 34 [(0, .ref m), (1, .int (nI tn)), (2, .int (nI kn)), (3, .int (nI j))] [.int ((nI (V (40 * (24 * kn + j) + w1))) >>> ((2 : Int32) &&& 31))] rfl ?_
            rw [kw_shr (hV2 _)]
            refine kx_rn dM_tooLate 1 35 [(0, .ref m), (1, .int (nI tn)), (2, .int (nI kn)), (3, .int (nI j))] [.int (nI tn), .int (nI (V (40 * (24 * kn + j) + w1) / 4))] rfl ?_
            refine kx_ic (tgt := 40) (kx_tk_dec rfl dM_tooLate) rfl (fun e35 => ?_) (fun e35 => ?_)
            · skip
              replace e35 : nI (V (40 * (24 * kn + j) + w1) / 4) ≤ nI tn := e35
              replace e35 : V (40 * (24 * kn + j) + w1) / 4 ≤ tn := (nI_leI (a := V (40 * (24 * kn + j) + w1) / 4) (b := tn) (by omega) (by omega)).mp e35
              refine kx_rn dM_tooLate 2 2 [(0, .ref m), (1, .int (nI tn)), (2, .int (nI kn)), (3, .int ((nI j) + 1))] [] rfl ?_
              rw [show (nI j) + 1 = nI (j + 1) from kn_ad rfl rfl]
              refine ih (j + 1) (by omega) (fun r hr => ?_)
              by_cases z : r = j
              · subst z; rintro ⟨-, y⟩; rw [hWj] at y; exact absurd y (by show ¬ _ < V (_ + (w1 + 1 - 1)) / 4; rw [Nat.add_sub_cancel]; omega)
              · exact hl r (by omega)
            · skip
              replace e35 : ¬ nI (V (40 * (24 * kn + j) + w1) / 4) ≤ nI tn := e35
              replace e35 : ¬ V (40 * (24 * kn + j) + w1) / 4 ≤ tn := fun z => e35 ((nI_leI (a := V (40 * (24 * kn + j) + w1) / 4) (b := tn) (by omega) (by omega)).mpr z)
              refine kx_rn dM_tooLate 1 39 [(0, .ref m), (1, .int (nI tn)), (2, .int (nI kn)), (3, .int (nI j))] [.int 1] rfl ?_
              refine kx_ret (ty := .boolean) (kx_tk_dec rfl dM_tooLate) rfl rfl ?_
              exact ⟨true, rfl, rfl, fun _ => ⟨j, by omega, e18, by rw [hWj]; show _ < V (_ + (w1 + 1 - 1)) / 4; rw [Nat.add_sub_cancel]; omega⟩, fun _ => rfl⟩
  refine kx_rn dM_tooLate 2 2 [(0, .ref m), (1, .int (nI tn)), (2, .int (nI kn)), (3, .int 0)] [] rfl ?_
  exact loop rw 0 (by omega) (fun r hr => absurd hr (by omega))
/-- the word of a version that is written -/
def vWr (x tn : Nat) (g : Bool) : Nat := 1 + (if g then 2 else 0) + 4 * (if x = 0 then tn else x / 4)
/-- the values of a version that is written -/
def vVal (f news : Nat → Int32) (v rn : Nat) (g : Bool) (j i : Nat) : Int32 := if 4 * v ≤ i ∧ i < 4 * v + j then (if g then 0 else news (4 * rn + (i - 4 * v))) else f i
theorem cM_write {tn kn rn : Nat} {g : Bool} (hst : l.stackTraces = false) (hm : mOk G h0 m) (ht1 : 1 ≤ tn) (ht2 : tn ≤ 40) (hk : kn < 3) (hr : rn < 24) {V : Nat → Nat} (hV : ∀ v, A 4 v = nI (V v)) (hV2 : ∀ v, V v < 256) :
    kx_c G l mM_write d 0 0 [.ref m, .int (nI tn), .int (nI kn), .int (nI rn), .int (b01 g)] (mH h0 m S A) (fun o h' => o = .returned none ∧ h' = mH h0 m S (va_up (va_up A 4 (va_up (A 4) (40 * (24 * kn + rn) + tn - 1) (nI (vWr (V (40 * (24 * kn + rn) + tn - 1)) tn g)))) 5 (vVal (A 5) (A 17) (40 * (24 * kn + rn) + tn - 1) rn g 4))) := by
  refine kx_in (by decide +kernel) (Nat.le_of_ble_eq_true rfl) hst ?_
  have loop : ∀ n (j : Nat) (F : Nat → Int32), j + n = 4 → (∀ i, F i = vVal (A 5) (A 17) (40 * (24 * kn + rn) + tn - 1) rn g j i) → kx_w G l mM_write d (fun o h' => o = .returned none ∧ h' = mH h0 m S (va_up (va_up A 4 (va_up (A 4) (40 * (24 * kn + rn) + tn - 1) (nI (vWr (V (40 * (24 * kn + rn) + tn - 1)) tn g)))) 5 (vVal (A 5) (A 17) (40 * (24 * kn + rn) + tn - 1) rn g 4))) 0 0 67 [(0, .ref m), (1, .int (nI tn)), (2, .int (nI kn)), (3, .int (nI rn)), (4, .int (b01 g)), (5, .int (nI (40 * (24 * kn + rn) + tn - 1))), (7, .int (nI j))] [] (mH h0 m S (va_up (va_up A 4 (va_up (A 4) (40 * (24 * kn + rn) + tn - 1) (nI (vWr (V (40 * (24 * kn + rn) + tn - 1)) tn g)))) 5 F)) := by
    intro n
    induction n with
    | zero =>
      intro j F hj hF
      refine kx_rn dM_write 2 70 [(0, .ref m), (1, .int (nI tn)), (2, .int (nI kn)), (3, .int (nI rn)), (4, .int (b01 g)), (5, .int (nI (40 * (24 * kn + rn) + tn - 1))), (7, .int (nI j))] [.int 4, .int (nI j)] rfl ?_
      refine kx_ic (tgt := 111) (kx_tk_dec rfl dM_write) rfl (fun e70 => ?_) (fun e70 => ?_)
      · skip
        replace e70 : 4 ≤ nI j := e70
        replace e70 : 4 ≤ j := (nI_leI (a := 4) (b := j) (by omega) (by omega)).mp e70
        refine kx_retv (kx_tk_dec rfl dM_write) rfl ?_
        refine ⟨rfl, ?_⟩
        rw [show F = vVal (A 5) (A 17) (40 * (24 * kn + rn) + tn - 1) rn g 4 from funext fun i => by rw [hF i, show j = 4 by omega]]
      · skip
        replace e70 : ¬ 4 ≤ nI j := e70
        replace e70 : ¬ 4 ≤ j := fun z => e70 ((nI_leI (a := 4) (b := j) (by omega) (by omega)).mpr z)
        exfalso; omega
    | succ n ih =>
      intro j F hj hF
      refine kx_rn dM_write 2 70 [(0, .ref m), (1, .int (nI tn)), (2, .int (nI kn)), (3, .int (nI rn)), (4, .int (b01 g)), (5, .int (nI (40 * (24 * kn + rn) + tn - 1))), (7, .int (nI j))] [.int 4, .int (nI j)] rfl ?_
      refine kx_ic (tgt := 111) (kx_tk_dec rfl dM_write) rfl (fun e70 => ?_) (fun e70 => ?_)
      · skip
        replace e70 : 4 ≤ nI j := e70
        replace e70 : 4 ≤ j := (nI_leI (a := 4) (b := j) (by omega) (by omega)).mp e70
        exfalso; omega
      · skip
        replace e70 : ¬ 4 ≤ nI j := e70
        replace e70 : ¬ 4 ≤ j := fun z => e70 ((nI_leI (a := 4) (b := j) (by omega) (by omega)).mpr z)
        refine kx_rn dM_write 1 74 [(0, .ref m), (1, .int (nI tn)), (2, .int (nI kn)), (3, .int (nI rn)), (4, .int (b01 g)), (5, .int (nI (40 * (24 * kn + rn) + tn - 1))), (7, .int (nI j))] [.ref m] rfl ?_
        refine pM_22 (v := .ref (m + 5)) rfl (kx_tk_dec rfl dM_write) (mh_o hm) rfl ?_
        refine kx_rn dM_write 6 86 [(0, .ref m), (1, .int (nI tn)), (2, .int (nI kn)), (3, .int (nI rn)), (4, .int (b01 g)), (5, .int (nI (40 * (24 * kn + rn) + tn - 1))), (7, .int (nI j))] [.int (b01 g), .int ((4 * (nI (40 * (24 * kn + rn) + tn - 1))) + (nI j)), .ref (m + 5)] rfl ?_
        rw [show (4 * (nI (40 * (24 * kn + rn) + tn - 1))) + (nI j) = nI ((4 * (40 * (24 * kn + rn) + tn - 1)) + j) from kn_ad (kn_mu rfl rfl) rfl]
        refine kx_if (tgt := 93) (kx_tk_dec rfl dM_write) rfl (fun e86 => ?_) (fun e86 => ?_)
        · skip
          replace e86 : b01 g = 0 := e86
          replace e86 : g = false := b01_f e86
          refine kx_rn dM_write 1 94 [(0, .ref m), (1, .int (nI tn)), (2, .int (nI kn)), (3, .int (nI rn)), (4, .int (b01 g)), (5, .int (nI (40 * (24 * kn + rn) + tn - 1))), (7, .int (nI j))] [.ref m, .int (nI ((4 * (40 * (24 * kn + rn) + tn - 1)) + j)), .ref (m + 5)] rfl ?_
          refine pM_63 (v := .ref (m + 17)) rfl (kx_tk_dec rfl dM_write) (mh_o hm) rfl ?_
          refine kx_rn dM_write 5 103 [(0, .ref m), (1, .int (nI tn)), (2, .int (nI kn)), (3, .int (nI rn)), (4, .int (b01 g)), (5, .int (nI (40 * (24 * kn + rn) + tn - 1))), (7, .int (nI j))] [.int ((4 * (nI rn)) + (nI j)), .ref (m + 17), .int (nI ((4 * (40 * (24 * kn + rn) + tn - 1)) + j)), .ref (m + 5)] rfl ?_
          rw [show (4 * (nI rn)) + (nI j) = nI ((4 * rn) + j) from kn_ad (kn_mu rfl rfl) rfl]
          refine mh_ld (k := 17) (x := A 17 ((4 * rn) + j)) (i := (4 * rn) + j) rfl rfl (kx_tk_dec rfl dM_write) hm (by show (4 * rn) + j < 96; omega) ?_
          refine mh_st (k := 5) (i := (4 * (40 * (24 * kn + rn) + tn - 1)) + j) (A' := va_up (va_up A 4 (va_up (A 4) (40 * (24 * kn + rn) + tn - 1) (nI (vWr (V (40 * (24 * kn + rn) + tn - 1)) tn g)))) 5 (va_up F ((4 * (40 * (24 * kn + rn) + tn - 1)) + j) (A 17 ((4 * rn) + j)))) rfl (kx_tk_dec rfl dM_write) hm (by show (4 * (40 * (24 * kn + rn) + tn - 1)) + j < 11520; omega) (va_upup _ _ _ _) ?_
          refine kx_rn dM_write 2 67 [(0, .ref m), (1, .int (nI tn)), (2, .int (nI kn)), (3, .int (nI rn)), (4, .int (b01 g)), (5, .int (nI (40 * (24 * kn + rn) + tn - 1))), (7, .int ((nI j) + 1))] [] rfl ?_
          rw [show (nI j) + 1 = nI (j + 1) from kn_ad rfl rfl]
          refine ih (j + 1) _ (by omega) (fun i => ?_)
          simp only [va_up, vVal]
          by_cases z : i = 4 * (40 * (24 * kn + rn) + tn - 1) + j
          · rw [if_pos z, if_pos (by omega), e86]
            rw [if_neg (by decide), show 4 * rn + (i - 4 * (40 * (24 * kn + rn) + tn - 1)) = 4 * rn + j by omega]
          · rw [if_neg z, hF i]
            unfold vVal
            by_cases z2 : 4 * (40 * (24 * kn + rn) + tn - 1) ≤ i ∧ i < 4 * (40 * (24 * kn + rn) + tn - 1) + j
            · rw [if_pos z2, if_pos (show 4 * (40 * (24 * kn + rn) + tn - 1) ≤ i ∧ i < 4 * (40 * (24 * kn + rn) + tn - 1) + (j + 1) by omega)]
            · rw [if_neg z2, if_neg (show ¬ (4 * (40 * (24 * kn + rn) + tn - 1) ≤ i ∧ i < 4 * (40 * (24 * kn + rn) + tn - 1) + (j + 1)) by omega)]
        · skip
          replace e86 : ¬ b01 g = 0 := e86
          replace e86 : g = true := b01_t e86
          refine kx_rn dM_write 2 104 [(0, .ref m), (1, .int (nI tn)), (2, .int (nI kn)), (3, .int (nI rn)), (4, .int (b01 g)), (5, .int (nI (40 * (24 * kn + rn) + tn - 1))), (7, .int (nI j))] [.int 0, .int (nI ((4 * (40 * (24 * kn + rn) + tn - 1)) + j)), .ref (m + 5)] rfl ?_
          refine mh_st (k := 5) (i := (4 * (40 * (24 * kn + rn) + tn - 1)) + j) (A' := va_up (va_up A 4 (va_up (A 4) (40 * (24 * kn + rn) + tn - 1) (nI (vWr (V (40 * (24 * kn + rn) + tn - 1)) tn g)))) 5 (va_up F ((4 * (40 * (24 * kn + rn) + tn - 1)) + j) 0)) rfl (kx_tk_dec rfl dM_write) hm (by show (4 * (40 * (24 * kn + rn) + tn - 1)) + j < 11520; omega) (va_upup _ _ _ _) ?_
          refine kx_rn dM_write 2 67 [(0, .ref m), (1, .int (nI tn)), (2, .int (nI kn)), (3, .int (nI rn)), (4, .int (b01 g)), (5, .int (nI (40 * (24 * kn + rn) + tn - 1))), (7, .int ((nI j) + 1))] [] rfl ?_
          rw [show (nI j) + 1 = nI (j + 1) from kn_ad rfl rfl]
          refine ih (j + 1) _ (by omega) (fun i => ?_)
          simp only [va_up, vVal]
          by_cases z : i = 4 * (40 * (24 * kn + rn) + tn - 1) + j
          · rw [if_pos z, if_pos (by omega), e86, if_pos rfl]
          · rw [if_neg z, hF i]
            unfold vVal
            by_cases z2 : 4 * (40 * (24 * kn + rn) + tn - 1) ≤ i ∧ i < 4 * (40 * (24 * kn + rn) + tn - 1) + j
            · rw [if_pos z2, if_pos (show 4 * (40 * (24 * kn + rn) + tn - 1) ≤ i ∧ i < 4 * (40 * (24 * kn + rn) + tn - 1) + (j + 1) by omega)]
            · rw [if_neg z2, if_neg (show ¬ (4 * (40 * (24 * kn + rn) + tn - 1) ≤ i ∧ i < 4 * (40 * (24 * kn + rn) + tn - 1) + (j + 1)) by omega)]
  refine kx_rn dM_write 13 16 [(0, .ref m), (1, .int (nI tn)), (2, .int (nI kn)), (3, .int (nI rn)), (4, .int (b01 g)), (5, .int (((40 * ((24 * (nI kn)) + (nI rn))) + (nI tn)) - 1))] [.ref m] rfl ?_
  rw [show ((40 * ((24 * (nI kn)) + (nI rn))) + (nI tn)) - 1 = nI (((40 * ((24 * kn) + rn)) + tn) - 1) from kn_su (kn_ad (kn_mu rfl (kn_ad (kn_mu rfl rfl) rfl)) rfl) rfl (by omega)]
  refine pM_19 (v := .ref (m + 4)) rfl (kx_tk_dec rfl dM_write) (mh_o hm) rfl ?_
  refine kx_rn dM_write 1 21 [(0, .ref m), (1, .int (nI tn)), (2, .int (nI kn)), (3, .int (nI rn)), (4, .int (b01 g)), (5, .int (nI (((40 * ((24 * kn) + rn)) + tn) - 1)))] [.int (nI (((40 * ((24 * kn) + rn)) + tn) - 1)), .ref (m + 4)] rfl ?_
  refine mh_ld (k := 4) (x := A 4 (((40 * ((24 * kn) + rn)) + tn) - 1)) (i := ((40 * ((24 * kn) + rn)) + tn) - 1) rfl rfl (kx_tk_dec rfl dM_write) hm (by show ((40 * ((24 * kn) + rn)) + tn) - 1 < 2880; omega) ?_
  rw [hV (((40 * ((24 * kn) + rn)) + tn) - 1)]
  have := hV2 (((40 * ((24 * kn) + rn)) + tn) - 1)
  refine kx_if (tgt := 37) (kx_tk_dec rfl dM_write) rfl (fun e22 => ?_) (fun e22 => ?_)
  · skip
    replace e22 : nI (V (((40 * ((24 * kn) + rn)) + tn) - 1)) = 0 := e22
    replace e22 : V (((40 * ((24 * kn) + rn)) + tn) - 1) = 0 := (nI_eq (a := V (((40 * ((24 * kn) + rn)) + tn) - 1)) (b := 0) (by omega) (by omega)).mp e22
    refine kx_rn dM_write 3 41 [(0, .ref m), (1, .int (nI tn)), (2, .int (nI kn)), (3, .int (nI rn)), (4, .int (b01 g)), (5, .int (nI (((40 * ((24 * kn) + rn)) + tn) - 1))), (6, .int (nI tn))] [.ref m] rfl ?_
    refine pM_19 (v := .ref (m + 4)) rfl (kx_tk_dec rfl dM_write) (mh_o hm) rfl ?_
    refine kx_rn dM_write 3 49 [(0, .ref m), (1, .int (nI tn)), (2, .int (nI kn)), (3, .int (nI rn)), (4, .int (b01 g)), (5, .int (nI (((40 * ((24 * kn) + rn)) + tn) - 1))), (6, .int (nI tn))] [.int (b01 g), .int 1, .int (nI (((40 * ((24 * kn) + rn)) + tn) - 1)), .ref (m + 4)] rfl ?_
    refine kx_if (tgt := 56) (kx_tk_dec rfl dM_write) rfl (fun e49 => ?_) (fun e49 => ?_)
    · skip
      replace e49 : b01 g = 0 := e49
      replace e49 : g = false := b01_f e49
      refine kx_rn dM_write 6 63 [(0, .ref m), (1, .int (nI tn)), (2, .int (nI kn)), (3, .int (nI rn)), (4, .int (b01 g)), (5, .int (nI (((40 * ((24 * kn) + rn)) + tn) - 1))), (6, .int (nI tn))] [.int (1 + (4 * (nI tn))), .int (nI (((40 * ((24 * kn) + rn)) + tn) - 1)), .ref (m + 4)] rfl ?_
      rw [show 1 + (4 * (nI tn)) = nI (1 + (4 * tn)) from kn_ad rfl (kn_mu rfl rfl)]
      refine mh_st (k := 4) (i := ((40 * ((24 * kn) + rn)) + tn) - 1) (A' := va_up A 4 (va_up (A 4) (((40 * ((24 * kn) + rn)) + tn) - 1) (nI (1 + (4 * tn))))) rfl (kx_tk_dec rfl dM_write) hm (by show ((40 * ((24 * kn) + rn)) + tn) - 1 < 2880; omega) rfl ?_
      refine kx_rn dM_write 2 67 [(0, .ref m), (1, .int (nI tn)), (2, .int (nI kn)), (3, .int (nI rn)), (4, .int (b01 g)), (5, .int (nI (((40 * ((24 * kn) + rn)) + tn) - 1))), (6, .int (nI tn)), (7, .int 0)] [] rfl ?_
      refine kx_heq (congrArg (fun z => mH h0 m S (va_up A 4 (va_up (A 4) (40 * (24 * kn + rn) + tn - 1) (nI z)))) (show 1 + (4 * tn) = vWr (V (40 * (24 * kn + rn) + tn - 1)) tn g by unfold vWr; simp only [e22, e49]; simp)) ?_
      refine kx_lsub (lv' := [(0, .ref m), (1, .int (nI tn)), (2, .int (nI kn)), (3, .int (nI rn)), (4, .int (b01 g)), (5, .int (nI (((40 * ((24 * kn) + rn)) + tn) - 1))), (7, .int 0)]) (.cons₂ _ (.cons₂ _ (.cons₂ _ (.cons₂ _ (.cons₂ _ (.cons₂ _ (.cons _ (.cons₂ _ .slnil)))))))) ?_
      refine kx_heq (congrArg (mH h0 m S) (va_upsame (va_up A 4 (va_up (A 4) (40 * (24 * kn + rn) + tn - 1) (nI (vWr (V (40 * (24 * kn + rn) + tn - 1)) tn g)))) 5).symm) ?_
      exact loop 4 0 _ rfl (fun i => by unfold vVal; rw [if_neg (by omega)]; rfl)
    · skip
      replace e49 : ¬ b01 g = 0 := e49
      replace e49 : g = true := b01_t e49
      refine kx_rn dM_write 7 63 [(0, .ref m), (1, .int (nI tn)), (2, .int (nI kn)), (3, .int (nI rn)), (4, .int (b01 g)), (5, .int (nI (((40 * ((24 * kn) + rn)) + tn) - 1))), (6, .int (nI tn))] [.int (3 + (4 * (nI tn))), .int (nI (((40 * ((24 * kn) + rn)) + tn) - 1)), .ref (m + 4)] rfl ?_
      rw [show 3 + (4 * (nI tn)) = nI (3 + (4 * tn)) from kn_ad rfl (kn_mu rfl rfl)]
      refine mh_st (k := 4) (i := ((40 * ((24 * kn) + rn)) + tn) - 1) (A' := va_up A 4 (va_up (A 4) (((40 * ((24 * kn) + rn)) + tn) - 1) (nI (3 + (4 * tn))))) rfl (kx_tk_dec rfl dM_write) hm (by show ((40 * ((24 * kn) + rn)) + tn) - 1 < 2880; omega) rfl ?_
      refine kx_rn dM_write 2 67 [(0, .ref m), (1, .int (nI tn)), (2, .int (nI kn)), (3, .int (nI rn)), (4, .int (b01 g)), (5, .int (nI (((40 * ((24 * kn) + rn)) + tn) - 1))), (6, .int (nI tn)), (7, .int 0)] [] rfl ?_
      refine kx_heq (congrArg (fun z => mH h0 m S (va_up A 4 (va_up (A 4) (40 * (24 * kn + rn) + tn - 1) (nI z)))) (show 3 + (4 * tn) = vWr (V (40 * (24 * kn + rn) + tn - 1)) tn g by unfold vWr; simp only [e22, e49]; simp)) ?_
      refine kx_lsub (lv' := [(0, .ref m), (1, .int (nI tn)), (2, .int (nI kn)), (3, .int (nI rn)), (4, .int (b01 g)), (5, .int (nI (((40 * ((24 * kn) + rn)) + tn) - 1))), (7, .int 0)]) (.cons₂ _ (.cons₂ _ (.cons₂ _ (.cons₂ _ (.cons₂ _ (.cons₂ _ (.cons _ (.cons₂ _ .slnil)))))))) ?_
      refine kx_heq (congrArg (mH h0 m S) (va_upsame (va_up A 4 (va_up (A 4) (40 * (24 * kn + rn) + tn - 1) (nI (vWr (V (40 * (24 * kn + rn) + tn - 1)) tn g)))) 5).symm) ?_
      exact loop 4 0 _ rfl (fun i => by unfold vVal; rw [if_neg (by omega)]; rfl)
  · skip
    replace e22 : ¬ nI (V (((40 * ((24 * kn) + rn)) + tn) - 1)) = 0 := e22
    replace e22 : ¬ V (((40 * ((24 * kn) + rn)) + tn) - 1) = 0 := fun z => e22 ((nI_eq (a := V (((40 * ((24 * kn) + rn)) + tn) - 1)) (b := 0) (by omega) (by omega)).mpr z)
    refine kx_rn dM_write 1 26 [(0, .ref m), (1, .int (nI tn)), (2, .int (nI kn)), (3, .int (nI rn)), (4, .int (b01 g)), (5, .int (nI (((40 * ((24 * kn) + rn)) + tn) - 1)))] [.ref m] rfl ?_
    refine pM_19 (v := .ref (m + 4)) rfl (kx_tk_dec rfl dM_write) (mh_o hm) rfl ?_
    refine kx_rn dM_write 1 31 [(0, .ref m), (1, .int (nI tn)), (2, .int (nI kn)), (3, .int (nI rn)), (4, .int (b01 g)), (5, .int (nI (((40 * ((24 * kn) + rn)) + tn) - 1)))] [.int (nI (((40 * ((24 * kn) + rn)) + tn) - 1)), .ref (m + 4)] rfl ?_
    refine mh_ld (k := 4) (x := A 4 (((40 * ((24 * kn) + rn)) + tn) - 1)) (i := ((40 * ((24 * kn) + rn)) + tn) - 1) rfl rfl (kx_tk_dec rfl dM_write) hm (by show ((40 * ((24 * kn) + rn)) + tn) - 1 < 2880; omega) ?_
    rw [hV (((40 * ((24 * kn) + rn)) + tn) - 1)]
    have := hV2 (((40 * ((24 * kn) + rn)) + tn) - 1)
    refine kx_rn dM_write 2 34 [(0, .ref m), (1, .int (nI tn)), (2, .int (nI kn)), (3, .int (nI rn)), (4, .int (b01 g)), (5, .int (nI (((40 * ((24 * kn) + rn)) + tn) - 1)))] [.int ((nI (V (((40 * ((24 * kn) + rn)) + tn) - 1))) >>> ((2 : Int32) &&& 31))] rfl ?_
    rw [kw_shr (hV2 _)]
    refine kx_rn dM_write 3 41 [(0, .ref m), (1, .int (nI tn)), (2, .int (nI kn)), (3, .int (nI rn)), (4, .int (b01 g)), (5, .int (nI (((40 * ((24 * kn) + rn)) + tn) - 1))), (6, .int (nI (V (40 * (24 * kn + rn) + tn - 1) / 4)))] [.ref m] rfl ?_
    refine pM_19 (v := .ref (m + 4)) rfl (kx_tk_dec rfl dM_write) (mh_o hm) rfl ?_
    refine kx_rn dM_write 3 49 [(0, .ref m), (1, .int (nI tn)), (2, .int (nI kn)), (3, .int (nI rn)), (4, .int (b01 g)), (5, .int (nI (((40 * ((24 * kn) + rn)) + tn) - 1))), (6, .int (nI (V (40 * (24 * kn + rn) + tn - 1) / 4)))] [.int (b01 g), .int 1, .int (nI (((40 * ((24 * kn) + rn)) + tn) - 1)), .ref (m + 4)] rfl ?_
    refine kx_if (tgt := 56) (kx_tk_dec rfl dM_write) rfl (fun e49 => ?_) (fun e49 => ?_)
    · skip
      replace e49 : b01 g = 0 := e49
      replace e49 : g = false := b01_f e49
      refine kx_rn dM_write 6 63 [(0, .ref m), (1, .int (nI tn)), (2, .int (nI kn)), (3, .int (nI rn)), (4, .int (b01 g)), (5, .int (nI (((40 * ((24 * kn) + rn)) + tn) - 1))), (6, .int (nI (V (40 * (24 * kn + rn) + tn - 1) / 4)))] [.int (1 + (4 * (nI (V (40 * (24 * kn + rn) + tn - 1) / 4)))), .int (nI (((40 * ((24 * kn) + rn)) + tn) - 1)), .ref (m + 4)] rfl ?_
      rw [show 1 + (4 * (nI (V (40 * (24 * kn + rn) + tn - 1) / 4))) = nI (1 + (4 * (V (40 * (24 * kn + rn) + tn - 1) / 4))) from kn_ad rfl (kn_mu rfl rfl)]
      refine mh_st (k := 4) (i := ((40 * ((24 * kn) + rn)) + tn) - 1) (A' := va_up A 4 (va_up (A 4) (((40 * ((24 * kn) + rn)) + tn) - 1) (nI (1 + (4 * (V (40 * (24 * kn + rn) + tn - 1) / 4)))))) rfl (kx_tk_dec rfl dM_write) hm (by show ((40 * ((24 * kn) + rn)) + tn) - 1 < 2880; omega) rfl ?_
      refine kx_rn dM_write 2 67 [(0, .ref m), (1, .int (nI tn)), (2, .int (nI kn)), (3, .int (nI rn)), (4, .int (b01 g)), (5, .int (nI (((40 * ((24 * kn) + rn)) + tn) - 1))), (6, .int (nI (V (40 * (24 * kn + rn) + tn - 1) / 4))), (7, .int 0)] [] rfl ?_
      refine kx_heq (congrArg (fun z => mH h0 m S (va_up A 4 (va_up (A 4) (40 * (24 * kn + rn) + tn - 1) (nI z)))) (show 1 + (4 * (V (40 * (24 * kn + rn) + tn - 1) / 4)) = vWr (V (40 * (24 * kn + rn) + tn - 1)) tn g by unfold vWr; simp only [e22, e49]; simp)) ?_
      refine kx_lsub (lv' := [(0, .ref m), (1, .int (nI tn)), (2, .int (nI kn)), (3, .int (nI rn)), (4, .int (b01 g)), (5, .int (nI (((40 * ((24 * kn) + rn)) + tn) - 1))), (7, .int 0)]) (.cons₂ _ (.cons₂ _ (.cons₂ _ (.cons₂ _ (.cons₂ _ (.cons₂ _ (.cons _ (.cons₂ _ .slnil)))))))) ?_
      refine kx_heq (congrArg (mH h0 m S) (va_upsame (va_up A 4 (va_up (A 4) (40 * (24 * kn + rn) + tn - 1) (nI (vWr (V (40 * (24 * kn + rn) + tn - 1)) tn g)))) 5).symm) ?_
      exact loop 4 0 _ rfl (fun i => by unfold vVal; rw [if_neg (by omega)]; rfl)
    · skip
      replace e49 : ¬ b01 g = 0 := e49
      replace e49 : g = true := b01_t e49
      refine kx_rn dM_write 7 63 [(0, .ref m), (1, .int (nI tn)), (2, .int (nI kn)), (3, .int (nI rn)), (4, .int (b01 g)), (5, .int (nI (((40 * ((24 * kn) + rn)) + tn) - 1))), (6, .int (nI (V (40 * (24 * kn + rn) + tn - 1) / 4)))] [.int (3 + (4 * (nI (V (40 * (24 * kn + rn) + tn - 1) / 4)))), .int (nI (((40 * ((24 * kn) + rn)) + tn) - 1)), .ref (m + 4)] rfl ?_
      rw [show 3 + (4 * (nI (V (40 * (24 * kn + rn) + tn - 1) / 4))) = nI (3 + (4 * (V (40 * (24 * kn + rn) + tn - 1) / 4))) from kn_ad rfl (kn_mu rfl rfl)]
      refine mh_st (k := 4) (i := ((40 * ((24 * kn) + rn)) + tn) - 1) (A' := va_up A 4 (va_up (A 4) (((40 * ((24 * kn) + rn)) + tn) - 1) (nI (3 + (4 * (V (40 * (24 * kn + rn) + tn - 1) / 4)))))) rfl (kx_tk_dec rfl dM_write) hm (by show ((40 * ((24 * kn) + rn)) + tn) - 1 < 2880; omega) rfl ?_
      refine kx_rn dM_write 2 67 [(0, .ref m), (1, .int (nI tn)), (2, .int (nI kn)), (3, .int (nI rn)), (4, .int (b01 g)), (5, .int (nI (((40 * ((24 * kn) + rn)) + tn) - 1))), (6, .int (nI (V (40 * (24 * kn + rn) + tn - 1) / 4))), (7, .int 0)] [] rfl ?_
      refine kx_heq (congrArg (fun z => mH h0 m S (va_up A 4 (va_up (A 4) (40 * (24 * kn + rn) + tn - 1) (nI z)))) (show 3 + (4 * (V (40 * (24 * kn + rn) + tn - 1) / 4)) = vWr (V (40 * (24 * kn + rn) + tn - 1)) tn g by unfold vWr; simp only [e22, e49]; simp)) ?_
      refine kx_lsub (lv' := [(0, .ref m), (1, .int (nI tn)), (2, .int (nI kn)), (3, .int (nI rn)), (4, .int (b01 g)), (5, .int (nI (((40 * ((24 * kn) + rn)) + tn) - 1))), (7, .int 0)]) (.cons₂ _ (.cons₂ _ (.cons₂ _ (.cons₂ _ (.cons₂ _ (.cons₂ _ (.cons _ (.cons₂ _ .slnil)))))))) ?_
      refine kx_heq (congrArg (mH h0 m S) (va_upsame (va_up A 4 (va_up (A 4) (40 * (24 * kn + rn) + tn - 1) (nI (vWr (V (40 * (24 * kn + rn) + tn - 1)) tn g)))) 5).symm) ?_
      exact loop 4 0 _ rfl (fun i => by unfold vVal; rw [if_neg (by omega)]; rfl)
theorem cM_versions {k r : Int32} (hst : l.stackTraces = false) (hm : mOk G h0 m) {RW : Nat → Nat} (hR : ∀ k, A 2 k = nI (RW k)) (hR2 : ∀ k, RW k ≤ 24) {V : Nat → Nat} (hV : ∀ v, A 4 v = nI (V v)) (hV2 : ∀ v, V v < 256) :
    kx_c G l mM_versions (d + 2) 0 0 [.ref m, .int k, .int r] (mH h0 m S A) (fun o h' => (¬ (∃ kn rn, kn < 3 ∧ k = nI kn ∧ ¬ A 1 kn = 0 ∧ rn < RW kn ∧ r = nI rn) ∧ o = .returned (some (.int 0)) ∧ h' = mH h0 m (va_up S 0 1) A) ∨ ∃ kn rn, kn < 3 ∧ k = nI kn ∧ ¬ A 1 kn = 0 ∧ rn < RW kn ∧ r = nI rn ∧ o = .returned (some (.int (nI (cnt (fun j => decide (¬ V (40 * (24 * kn + rn) + j) = 0)) 40)))) ∧ h' = mH h0 m (va_up S 0 0) A) := by
  refine kx_in (by decide +kernel) (Nat.le_of_ble_eq_true rfl) hst ?_
  refine kx_rn dM_versions 2 2 [(0, .ref m), (1, .int k), (2, .int r)] [.int 0, .ref m] rfl ?_
  refine qM_69 rfl (kx_tk_dec rfl dM_versions) (mh_o hm) rfl rfl (Nat.le_of_ble_eq_true rfl) ?_
  rw [mh_p0]
  refine kx_rn dM_versions 2 7 [(0, .ref m), (1, .int k), (2, .int r)] [.int k, .ref m] rfl ?_
  refine cM_166 (as := [.int k]) (st := []) (mc := 0) (ms := 0) (kc := 0) (ks := 0) rfl (kx_tk_dec rfl dM_versions) (mh_o hm) rfl rfl (Nat.le_of_ble_eq_true rfl) (cM_noTable hst hm) (fun o h' hq => ?_)
  obtain ⟨bt, rfl, rfl, hbt⟩ := hq
  show kx_w _ _ _ _ _ _ _ _ _ _ _
  refine kx_if (tgt := 26) (kx_tk_dec rfl dM_versions) rfl (fun e10 => ?_) (fun e10 => ?_)
  · skip
    replace e10 : ¬ b01 bt = 0 := e10
    replace e10 : bt = true := b01_t e10
    refine kx_rn dM_versions 2 28 [(0, .ref m), (1, .int k), (2, .int r)] [.int 1, .ref m] rfl ?_
    refine cM_79 (as := [.int 1]) (st := []) (mc := 0) (ms := 0) (kc := 0) (ks := 0) rfl (kx_tk_dec rfl dM_versions) (mh_o hm) rfl rfl (Nat.le_of_ble_eq_true rfl) (cM_fail hst hm) (fun o h' hq => ?_)
    obtain ⟨rfl, rfl⟩ := hq
    show kx_w _ _ _ _ _ _ _ _ _ _ _
    rw [va_upup]
    refine kx_rn dM_versions 1 44 [(0, .ref m), (1, .int k), (2, .int r)] [.int 0] rfl ?_
    refine kx_ret (ty := .int) (kx_tk_dec rfl dM_versions) rfl rfl ?_
    exact Or.inl ⟨fun ⟨kn, rn, z1, z2, z3, z4, z5⟩ => (hbt.mp e10) ⟨kn, z1, z2, z3⟩, rfl, rfl⟩
  · skip
    replace e10 : b01 bt = 0 := e10
    replace e10 : bt = false := b01_f e10
    obtain ⟨kn, hk, rfl, hk3⟩ : mTb A k := Classical.byContradiction fun z => absurd (hbt.mpr z) (by rw [e10]; decide)
    have hRk := hR2 kn
    refine kx_rn dM_versions 2 15 [(0, .ref m), (1, .int (nI kn)), (2, .int r)] [.ref m, .int r] rfl ?_
    refine pM_13 (v := .ref (m + 2)) rfl (kx_tk_dec rfl dM_versions) (mh_o hm) rfl ?_
    refine kx_rn dM_versions 1 19 [(0, .ref m), (1, .int (nI kn)), (2, .int r)] [.int (nI kn), .ref (m + 2), .int r] rfl ?_
    refine mh_ld (k := 2) (x := A 2 kn) (i := kn) rfl rfl (kx_tk_dec rfl dM_versions) hm (by show kn < 3; omega) ?_
    rw [hR kn]
    refine cM_72 (as := [.int r, .int (nI (RW kn))]) (st := []) (mc := 0) (ms := 0) (kc := 0) (ks := 0) rfl (kx_tk_dec rfl dM_versions) rfl rfl (Nat.le_of_ble_eq_true rfl) (cM_out hst) (fun o h' hq => ?_)
    obtain ⟨bo, rfl, rfl, hbo⟩ := hq
    show kx_w _ _ _ _ _ _ _ _ _ _ _
    refine kx_if (tgt := 34) (kx_tk_dec rfl dM_versions) rfl (fun e23 => ?_) (fun e23 => ?_)
    · skip
      replace e23 : b01 bo = 0 := e23
      replace e23 : bo = false := b01_f e23
      have hb0 : ¬ (r < 0 ∨ nI (RW kn) ≤ r) := fun z => absurd (hbo.mpr z) (by rw [e23]; decide)
      obtain ⟨rn, hr1, rfl⟩ := mou_in (by omega) hb0
      refine kx_rn dM_versions 6 41 [(0, .ref m), (1, .int (nI kn)), (2, .int (nI rn))] [.int ((24 * (nI kn)) + (nI rn)), .ref m] rfl ?_
      rw [show (24 * (nI kn)) + (nI rn) = nI ((24 * kn) + rn) from kn_ad (kn_mu rfl rfl) rfl]
      refine cM_199 (as := [.int (nI ((24 * kn) + rn))]) (st := []) (mc := 0) (ms := 0) (kc := 0) (ks := 0) rfl (kx_tk_dec rfl dM_versions) (mh_o hm) rfl rfl (Nat.le_of_ble_eq_true rfl) (cM_versionsOf hst hm (by omega) hV hV2) (fun o h' hq => ?_)
      obtain ⟨rfl, rfl⟩ := hq
      show kx_w _ _ _ _ _ _ _ _ _ _ _
      refine kx_ret (ty := .int) (kx_tk_dec rfl dM_versions) rfl rfl ?_
      exact Or.inr ⟨kn, rn, hk, rfl, hk3, hr1, rfl, rfl, rfl⟩
    · skip
      replace e23 : ¬ b01 bo = 0 := e23
      replace e23 : bo = true := b01_t e23
      refine kx_rn dM_versions 2 28 [(0, .ref m), (1, .int (nI kn)), (2, .int r)] [.int 1, .ref m] rfl ?_
      refine cM_79 (as := [.int 1]) (st := []) (mc := 0) (ms := 0) (kc := 0) (ks := 0) rfl (kx_tk_dec rfl dM_versions) (mh_o hm) rfl rfl (Nat.le_of_ble_eq_true rfl) (cM_fail hst hm) (fun o h' hq => ?_)
      obtain ⟨rfl, rfl⟩ := hq
      show kx_w _ _ _ _ _ _ _ _ _ _ _
      rw [va_upup]
      refine kx_rn dM_versions 1 44 [(0, .ref m), (1, .int (nI kn)), (2, .int r)] [.int 0] rfl ?_
      refine kx_ret (ty := .int) (kx_tk_dec rfl dM_versions) rfl rfl ?_
      exact Or.inl ⟨fun ⟨k2, rn, z1, z2, z3, z4, z5⟩ => by
        have z6 := (nI_eq (a := kn) (b := k2) (by omega) (by omega)).mp z2
        subst z6
        exact mou_no (by omega) (hbo.mp e23) z4 z5, rfl, rfl⟩
theorem cM_result {i c : Int32} {rs : Nat} (hst : l.stackTraces = false) (hm : mOk G h0 m) (hs : S 25 = nI rs) (hs2 : rs ≤ 24) :
    kx_c G l mM_result (d + 1) 0 0 [.ref m, .int i, .int c] (mH h0 m S A) (fun o h' => ((i < 0 ∨ nI rs ≤ i) ∧ o = .returned (some (.int 0)) ∧ h' = mH h0 m (va_up S 0 1) A) ∨ ∃ n, n < rs ∧ i = nI n ∧ (((c < -1 ∨ 3 < c) ∧ o = .returned (some (.int 0)) ∧ h' = mH h0 m (va_up S 0 2) A) ∨ (c = -1 ∧ o = .returned (some (.int (A 14 n))) ∧ h' = mH h0 m (va_up S 0 0) A) ∨ ∃ cn, cn < 4 ∧ c = nI cn ∧ o = .returned (some (.int (A 15 (4 * n + cn)))) ∧ h' = mH h0 m (va_up S 0 0) A)) := by
  refine kx_in (by decide +kernel) (Nat.le_of_ble_eq_true rfl) hst ?_
  refine kx_rn dM_result 2 2 [(0, .ref m), (1, .int i), (2, .int c)] [.int 0, .ref m] rfl ?_
  refine qM_69 rfl (kx_tk_dec rfl dM_result) (mh_o hm) rfl rfl (Nat.le_of_ble_eq_true rfl) ?_
  rw [mh_p0]
  refine kx_rn dM_result 2 7 [(0, .ref m), (1, .int i), (2, .int c)] [.ref m, .int i] rfl ?_
  refine pM_176 (v := .int (S 25)) rfl (kx_tk_dec rfl dM_result) (mh_o hm) rfl ?_
  rw [hs]
  refine cM_72 (as := [.int i, .int (nI rs)]) (st := []) (mc := 0) (ms := 0) (kc := 0) (ks := 0) rfl (kx_tk_dec rfl dM_result) rfl rfl (Nat.le_of_ble_eq_true rfl) (cM_out hst) (fun o h' hq => ?_)
  obtain ⟨bo, rfl, rfl, hbo⟩ := hq
  show kx_w _ _ _ _ _ _ _ _ _ _ _
  refine kx_if (tgt := 22) (kx_tk_dec rfl dM_result) rfl (fun e13 => ?_) (fun e13 => ?_)
  · skip
    replace e13 : b01 bo = 0 := e13
    replace e13 : bo = false := b01_f e13
    have hb0 : ¬ (i < 0 ∨ nI rs ≤ i) := fun z => absurd (hbo.mpr z) (by rw [e13]; decide)
    obtain ⟨n, hn1, rfl⟩ := mou_in (by omega) hb0
    refine kx_rn dM_result 2 24 [(0, .ref m), (1, .int (nI n)), (2, .int c)] [.int ((-1)), .int c] rfl ?_
    refine kx_ic (tgt := 32) (kx_tk_dec rfl dM_result) rfl (fun e24 => ?_) (fun e24 => ?_)
    · skip
      replace e24 : c < (-1) := e24
      refine kx_rn dM_result 2 34 [(0, .ref m), (1, .int (nI n)), (2, .int c)] [.int 2, .ref m] rfl ?_
      refine cM_79 (as := [.int 2]) (st := []) (mc := 0) (ms := 0) (kc := 0) (ks := 0) rfl (kx_tk_dec rfl dM_result) (mh_o hm) rfl rfl (Nat.le_of_ble_eq_true rfl) (cM_fail hst hm) (fun o h' hq => ?_)
      obtain ⟨rfl, rfl⟩ := hq
      show kx_w _ _ _ _ _ _ _ _ _ _ _
      rw [va_upup]
      refine kx_ret (ty := .int) (kx_tk_dec rfl dM_result) rfl rfl ?_
      exact Or.inr ⟨n, hn1, rfl, Or.inl ⟨Or.inl e24, rfl, rfl⟩⟩
    · skip
      replace e24 : ¬ c < (-1) := e24
      refine kx_rn dM_result 2 29 [(0, .ref m), (1, .int (nI n)), (2, .int c)] [.int 3, .int c] rfl ?_
      refine kx_ic (tgt := 38) (kx_tk_dec rfl dM_result) rfl (fun e29 => ?_) (fun e29 => ?_)
      · skip
        replace e29 : c ≤ 3 := e29
        refine kx_rn dM_result 1 39 [(0, .ref m), (1, .int (nI n)), (2, .int c)] [.int c] rfl ?_
        refine kx_if (tgt := 51) (kx_tk_dec rfl dM_result) rfl (fun e39 => ?_) (fun e39 => ?_)
        · skip
          replace e39 : 0 ≤ c := e39
          obtain ⟨cn, hc1, rfl⟩ := mou_in (k := c) (n := 4) (by omega) (fun z => z.elim (fun z => by rw [kI_lt] at z; rw [kI_le] at e39; omega) (fun z => by rw [kI_le] at z e29; have y1 : (nI 4).toInt = 4 := rfl; have y2 : (3 : Int32).toInt = 3 := rfl; omega))
          refine kx_rn dM_result 1 52 [(0, .ref m), (1, .int (nI n)), (2, .int (nI cn))] [.ref m] rfl ?_
          refine pM_57 (v := .ref (m + 15)) rfl (kx_tk_dec rfl dM_result) (mh_o hm) rfl ?_
          refine kx_rn dM_result 5 60 [(0, .ref m), (1, .int (nI n)), (2, .int (nI cn))] [.int ((4 * (nI n)) + (nI cn)), .ref (m + 15)] rfl ?_
          rw [show (4 * (nI n)) + (nI cn) = nI ((4 * n) + cn) from kn_ad (kn_mu rfl rfl) rfl]
          refine mh_ld (k := 15) (x := A 15 ((4 * n) + cn)) (i := (4 * n) + cn) rfl rfl (kx_tk_dec rfl dM_result) hm (by show (4 * n) + cn < 96; omega) ?_
          refine kx_ret (ty := .int) (kx_tk_dec rfl dM_result) rfl rfl ?_
          exact Or.inr ⟨n, hn1, rfl, Or.inr (Or.inr ⟨cn, hc1, rfl, rfl, rfl⟩)⟩
        · skip
          replace e39 : ¬ 0 ≤ c := e39
          have hc1 : c = -1 := Int32.toInt_inj.mp (by rw [kI_lt] at e24; rw [kI_le] at e39; have y1 : (-1 : Int32).toInt = -1 := rfl; have y2 : (0 : Int32).toInt = 0 := rfl; omega)
          refine kx_rn dM_result 1 43 [(0, .ref m), (1, .int (nI n)), (2, .int c)] [.ref m] rfl ?_
          refine pM_54 (v := .ref (m + 14)) rfl (kx_tk_dec rfl dM_result) (mh_o hm) rfl ?_
          refine kx_rn dM_result 1 47 [(0, .ref m), (1, .int (nI n)), (2, .int c)] [.int (nI n), .ref (m + 14)] rfl ?_
          refine mh_ld (k := 14) (x := A 14 n) (i := n) rfl rfl (kx_tk_dec rfl dM_result) hm (by show n < 24; omega) ?_
          refine kx_rn dM_result 1 61 [(0, .ref m), (1, .int (nI n)), (2, .int c)] [.int (A 14 n)] rfl ?_
          refine kx_ret (ty := .int) (kx_tk_dec rfl dM_result) rfl rfl ?_
          exact Or.inr ⟨n, hn1, rfl, Or.inr (Or.inl ⟨hc1, rfl, rfl⟩)⟩
      · skip
        replace e29 : ¬ c ≤ 3 := e29
        refine kx_rn dM_result 2 34 [(0, .ref m), (1, .int (nI n)), (2, .int c)] [.int 2, .ref m] rfl ?_
        refine cM_79 (as := [.int 2]) (st := []) (mc := 0) (ms := 0) (kc := 0) (ks := 0) rfl (kx_tk_dec rfl dM_result) (mh_o hm) rfl rfl (Nat.le_of_ble_eq_true rfl) (cM_fail hst hm) (fun o h' hq => ?_)
        obtain ⟨rfl, rfl⟩ := hq
        show kx_w _ _ _ _ _ _ _ _ _ _ _
        rw [va_upup]
        refine kx_ret (ty := .int) (kx_tk_dec rfl dM_result) rfl rfl ?_
        exact Or.inr ⟨n, hn1, rfl, Or.inl ⟨Or.inr (by rw [kI_le] at e29; rw [kI_lt]; omega), rfl, rfl⟩⟩
  · skip
    replace e13 : ¬ b01 bo = 0 := e13
    replace e13 : bo = true := b01_t e13
    refine kx_rn dM_result 2 18 [(0, .ref m), (1, .int i), (2, .int c)] [.int 1, .ref m] rfl ?_
    refine cM_79 (as := [.int 1]) (st := []) (mc := 0) (ms := 0) (kc := 0) (ks := 0) rfl (kx_tk_dec rfl dM_result) (mh_o hm) rfl rfl (Nat.le_of_ble_eq_true rfl) (cM_fail hst hm) (fun o h' hq => ?_)
    obtain ⟨rfl, rfl⟩ := hq
    show kx_w _ _ _ _ _ _ _ _ _ _ _
    rw [va_upup]
    refine kx_ret (ty := .int) (kx_tk_dec rfl dM_result) rfl rfl ?_
    exact Or.inl ⟨hbo.mp e13, rfl, rfl⟩
end KM4
