/-! ===== the reference: workSettings, delete, update ===== -/
section KM11
variable {G : kx_G} {l : Launch} {d : Nat} {h0 : kx_H} {m : Nat} {S : Nat → Int32} {A : Nat → Nat → Int32}
/-- the values that row r of table kn shows to tn -/
def mVals (V : Nat → Nat) (A5 : Nat → Int32) (tn kn r c : Nat) : Int32 := A5 (4 * (40 * (24 * kn + r) + (hwq V tn (24 * kn + r) - 1)) + c)
/-- setting c can be worked out there -/
def mFine (V : Nat → Nat) (A5 A10 : Nat → Int32) (PP : Nat → Nat → Int32) (SZ : Nat → Nat) (tn kn r c : Nat) : Prop := ¬ A10 c = 0 → (evC (PP (1 + c)) (SZ (1 + c)) (mVals V A5 tn kn r)).2 = false
def mNew (V : Nat → Nat) (A5 A10 : Nat → Int32) (PP : Nat → Nat → Int32) (SZ : Nat → Nat) (tn kn r c : Nat) : Int32 := if A10 c = 0 then mVals V A5 tn kn r c else (evC (PP (1 + c)) (SZ (1 + c)) (mVals V A5 tn kn r)).1
set_option maxRecDepth 100000 in
theorem cM_workSettings {tn kn rw : Nat} (hst : l.stackTraces = false) (hm : mOk G h0 m) (ht1 : 1 ≤ tn) (ht2 : tn ≤ 40) (hk : kn < 3) (hrw : A 2 kn = nI rw) (hrw2 : rw ≤ 24) {V : Nat → Nat} {mt : Nat → Bool} (hmt : ∀ r, r < rw → A 18 r = b01 (mt r)) (hW : ∀ r, r < rw → A 16 r = heldR (40 * (24 * kn + r)) (hwq V tn (24 * kn + r))) (hmw : ∀ r, mt r = true → ¬ hwq V tn (24 * kn + r) = 0) {PP : Nat → Nat → Int32} {SZ : Nat → Nat} (hP : mProg A PP SZ) :
    kx_c G l mM_workSettings (d + 2) 0 0 [.ref m, .int (nI kn)] (mH h0 m S A) (fun o h' => ∃ (S1 : Nat → Int32) (A1 : Nat → Nat → Int32) (b : Bool), o = .returned (some (.int (b01 b))) ∧ h' = mH h0 m S1 A1 ∧ (∀ k, k ≠ 22 → S1 k = S k) ∧ (∀ k, k ≠ 12 → k ≠ 17 → A1 k = A k) ∧ (b = true ↔ ∀ r, r < rw → mt r = true → ∀ c, c < 4 → mFine V (A 5) (A 10) PP SZ tn kn r c) ∧ ∀ r, r < rw → mt r = true → ∀ c, c < 4 → A1 17 (4 * r + c) = mNew V (A 5) (A 10) PP SZ tn kn r c) := by
  refine kx_in (by decide +kernel) (Nat.le_of_ble_eq_true rfl) hst ?_
  have loop : ∀ n (j : Nat) (S2 : Nat → Int32) (A2 : Nat → Nat → Int32) (dv : Bool), j + n = rw → (∀ k, k ≠ 22 → S2 k = S k) → S2 22 = b01 dv → (dv = false ↔ ∀ r, r < j → mt r = true → ∀ c, c < 4 → mFine V (A 5) (A 10) PP SZ tn kn r c) → (∀ k, k ≠ 12 → k ≠ 17 → A2 k = A k) → (∀ r, r < j → mt r = true → ∀ c, c < 4 → A2 17 (4 * r + c) = mNew V (A 5) (A 10) PP SZ tn kn r c) → kx_w G l mM_workSettings (d + 2) (fun o h' => ∃ (S1 : Nat → Int32) (A1 : Nat → Nat → Int32) (b : Bool), o = .returned (some (.int (b01 b))) ∧ h' = mH h0 m S1 A1 ∧ (∀ k, k ≠ 22 → S1 k = S k) ∧ (∀ k, k ≠ 12 → k ≠ 17 → A1 k = A k) ∧ (b = true ↔ ∀ r, r < rw → mt r = true → ∀ c, c < 4 → mFine V (A 5) (A 10) PP SZ tn kn r c) ∧ ∀ r, r < rw → mt r = true → ∀ c, c < 4 → A1 17 (4 * r + c) = mNew V (A 5) (A 10) PP SZ tn kn r c) 0 0 7 [(0, .ref m), (1, .int (nI kn)), (2, .int (nI j))] [] (mH h0 m S2 A2) := by
    intro n
    induction n with
    | zero =>
      intro j S2 A2 dv hj hS2 h22 hdv hA2 hsp
      have hR2' : A2 2 kn = nI rw := by rw [hA2 2 (by decide) (by decide)]; exact hrw
      refine kx_rn dM_workSettings 2 9 [(0, .ref m), (1, .int (nI kn)), (2, .int (nI j))] [.ref m, .int (nI j)] rfl ?_
      refine pM_13 (v := .ref (m + 2)) rfl (kx_tk_dec rfl dM_workSettings) (mh_o hm) rfl ?_
      refine kx_rn dM_workSettings 1 13 [(0, .ref m), (1, .int (nI kn)), (2, .int (nI j))] [.int (nI kn), .ref (m + 2), .int (nI j)] rfl ?_
      refine mh_ld (k := 2) (x := A2 2 kn) (i := kn) rfl rfl (kx_tk_dec rfl dM_workSettings) hm (by show kn < 3; omega) ?_
      rw [hR2']
      refine kx_ic (tgt := 100) (kx_tk_dec rfl dM_workSettings) rfl (fun e14 => ?_) (fun e14 => ?_)
      · skip
        replace e14 : nI rw ≤ nI j := e14
        replace e14 : rw ≤ j := (nI_leI (a := rw) (b := j) (by omega) (by omega)).mp e14
        refine kx_rn dM_workSettings 1 101 [(0, .ref m), (1, .int (nI kn)), (2, .int (nI j))] [.ref m] rfl ?_
        refine pM_148 (v := .int (S2 22)) rfl (kx_tk_dec rfl dM_workSettings) (mh_o hm) rfl ?_
        rw [h22]
        refine kx_if (tgt := 111) (kx_tk_dec rfl dM_workSettings) rfl (fun e104 => ?_) (fun e104 => ?_)
        · skip
          replace e104 : ¬ b01 dv = 0 := e104
          replace e104 : dv = true := b01_t e104
          refine kx_rn dM_workSettings 1 112 [(0, .ref m), (1, .int (nI kn)), (2, .int (nI j))] [.int 0] rfl ?_
          refine kx_ret (ty := .boolean) (kx_tk_dec rfl dM_workSettings) rfl rfl ?_
          refine ⟨S2, A2, false, rfl, rfl, hS2, hA2, ?_, fun r hr => hsp r (by omega)⟩
          rw [show j = rw by omega] at hdv
          exact ⟨fun z => (by cases z), fun z => absurd (hdv.mpr z) (by rw [e104]; decide)⟩
        · skip
          replace e104 : b01 dv = 0 := e104
          replace e104 : dv = false := b01_f e104
          refine kx_rn dM_workSettings 2 112 [(0, .ref m), (1, .int (nI kn)), (2, .int (nI j))] [.int 1] rfl ?_
          refine kx_ret (ty := .boolean) (kx_tk_dec rfl dM_workSettings) rfl rfl ?_
          refine ⟨S2, A2, true, rfl, rfl, hS2, hA2, ?_, fun r hr => hsp r (by omega)⟩
          rw [show j = rw by omega] at hdv
          exact ⟨fun _ => hdv.mp e104, fun _ => rfl⟩
      · skip
        replace e14 : ¬ nI rw ≤ nI j := e14
        replace e14 : ¬ rw ≤ j := fun z => e14 ((nI_leI (a := rw) (b := j) (by omega) (by omega)).mpr z)
        exfalso; omega
    | succ n ih =>
      intro j S2 A2 dv hj hS2 h22 hdv hA2 hsp
      have hR2' : A2 2 kn = nI rw := by rw [hA2 2 (by decide) (by decide)]; exact hrw
      refine kx_rn dM_workSettings 2 9 [(0, .ref m), (1, .int (nI kn)), (2, .int (nI j))] [.ref m, .int (nI j)] rfl ?_
      refine pM_13 (v := .ref (m + 2)) rfl (kx_tk_dec rfl dM_workSettings) (mh_o hm) rfl ?_
      refine kx_rn dM_workSettings 1 13 [(0, .ref m), (1, .int (nI kn)), (2, .int (nI j))] [.int (nI kn), .ref (m + 2), .int (nI j)] rfl ?_
      refine mh_ld (k := 2) (x := A2 2 kn) (i := kn) rfl rfl (kx_tk_dec rfl dM_workSettings) hm (by show kn < 3; omega) ?_
      rw [hR2']
      refine kx_ic (tgt := 100) (kx_tk_dec rfl dM_workSettings) rfl (fun e14 => ?_) (fun e14 => ?_)
      · skip
        replace e14 : nI rw ≤ nI j := e14
        replace e14 : rw ≤ j := (nI_leI (a := rw) (b := j) (by omega) (by omega)).mp e14
        exfalso; omega
      · skip
        replace e14 : ¬ nI rw ≤ nI j := e14
        replace e14 : ¬ rw ≤ j := fun z => e14 ((nI_leI (a := rw) (b := j) (by omega) (by omega)).mpr z)
        refine kx_rn dM_workSettings 1 18 [(0, .ref m), (1, .int (nI kn)), (2, .int (nI j))] [.ref m] rfl ?_
        refine pM_66 (v := .ref (m + 18)) rfl (kx_tk_dec rfl dM_workSettings) (mh_o hm) rfl ?_
        refine kx_rn dM_workSettings 1 22 [(0, .ref m), (1, .int (nI kn)), (2, .int (nI j))] [.int (nI j), .ref (m + 18)] rfl ?_
        refine mh_zl (k := 18) (x := A2 18 j) (i := j) rfl rfl (kx_tk_dec rfl dM_workSettings) hm (by show j < 24; omega) ?_
        rw [show A2 18 j = b01 (mt j) from by rw [hA2 18 (by decide) (by decide)]; exact hmt j (by omega)]
        refine kx_if (tgt := 29) (kx_tk_dec rfl dM_workSettings) rfl (fun e23 => ?_) (fun e23 => ?_)
        · skip
          replace e23 : ¬ b01 (mt j) = 0 := e23
          replace e23 : mt j = true := b01_t e23
          refine kx_rn dM_workSettings 2 31 [(0, .ref m), (1, .int (nI kn)), (2, .int (nI j)), (3, .int 0)] [] rfl ?_
          have hWj := hmw j e23
          have hWj2 : hwq V tn (24 * kn + j) ≤ tn := hw_le _ _
          obtain ⟨w1, hw1⟩ : ∃ w1, hwq V tn (24 * kn + j) = w1 + 1 := ⟨hwq V tn (24 * kn + j) - 1, by omega⟩
          have inner : ∀ n (c : Nat) (S3 : Nat → Int32) (A3 : Nat → Nat → Int32) (dv3 : Bool), c + n = 4 → (∀ k, k ≠ 22 → S3 k = S k) → S3 22 = b01 dv3 → (dv3 = false ↔ (∀ r, r < j → mt r = true → ∀ c, c < 4 → mFine V (A 5) (A 10) PP SZ tn kn r c) ∧ ∀ x, x < c → mFine V (A 5) (A 10) PP SZ tn kn j x) → (∀ k, k ≠ 12 → k ≠ 17 → A3 k = A k) → (∀ r, r < j + 1 → ∀ c2, (r < j ∧ c2 < 4 ∨ r = j ∧ c2 < c) → mt r = true → A3 17 (4 * r + c2) = mNew V (A 5) (A 10) PP SZ tn kn r c2) → kx_w G l mM_workSettings (d + 2) (fun o h' => ∃ (S1 : Nat → Int32) (A1 : Nat → Nat → Int32) (b : Bool), o = .returned (some (.int (b01 b))) ∧ h' = mH h0 m S1 A1 ∧ (∀ k, k ≠ 22 → S1 k = S k) ∧ (∀ k, k ≠ 12 → k ≠ 17 → A1 k = A k) ∧ (b = true ↔ ∀ r, r < rw → mt r = true → ∀ c, c < 4 → mFine V (A 5) (A 10) PP SZ tn kn r c) ∧ ∀ r, r < rw → mt r = true → ∀ c, c < 4 → A1 17 (4 * r + c) = mNew V (A 5) (A 10) PP SZ tn kn r c) 0 0 31 [(0, .ref m), (1, .int (nI kn)), (2, .int (nI j)), (3, .int (nI c))] [] (mH h0 m S3 A3) := by
            intro n
            induction n with
            | zero =>
              intro c S3 A3 dv3 hc hS3 h322 hdv3 hA3 h17
              refine kx_rn dM_workSettings 2 33 [(0, .ref m), (1, .int (nI kn)), (2, .int (nI j)), (3, .int (nI c))] [.int 4, .int (nI c)] rfl ?_
              refine kx_ic (tgt := 94) (kx_tk_dec rfl dM_workSettings) rfl (fun e33 => ?_) (fun e33 => ?_)
              · skip
                replace e33 : 4 ≤ nI c := e33
                replace e33 : 4 ≤ c := (nI_leI (a := 4) (b := c) (by omega) (by omega)).mp e33
                refine kx_rn dM_workSettings 2 7 [(0, .ref m), (1, .int (nI kn)), (2, .int ((nI j) + 1)), (3, .int (nI c))] [] rfl ?_
                rw [show (nI j) + 1 = nI (j + 1) from kn_ad rfl rfl]
                refine kx_lsub (lv' := [(0, .ref m), (1, .int (nI kn)), (2, .int (nI (j + 1)))]) (.cons₂ _ (.cons₂ _ (.cons₂ _ (.cons _ .slnil)))) ?_
                refine ih (j + 1) S3 A3 dv3 (by omega) hS3 h322 ?_ hA3 (fun r hr hm1 c2 hc2 => ?_)
                · rw [hdv3]
                  constructor
                  · intro z r hr hm1 x hx
                    by_cases z2 : r = j
                    · rw [z2]; exact z.2 x (by omega)
                    · exact z.1 r (by omega) hm1 x hx
                  · intro z
                    exact ⟨fun r hr => z r (by omega), fun x hx => z j (by omega) e23 x (by omega)⟩
                · exact h17 r (by omega) c2 (by omega) hm1
              · skip
                replace e33 : ¬ 4 ≤ nI c := e33
                replace e33 : ¬ 4 ≤ c := fun z => e33 ((nI_leI (a := 4) (b := c) (by omega) (by omega)).mpr z)
                exfalso; omega
            | succ n ihc =>
              intro c S3 A3 dv3 hc hS3 h322 hdv3 hA3 h17
              have hA310 : A3 10 = A 10 := hA3 10 (by decide) (by decide)
              have hA35 : A3 5 = A 5 := hA3 5 (by decide) (by decide)
              have hvl : (fun x => A3 5 (4 * (40 * (24 * kn + j) + w1) + x)) = mVals V (A 5) tn kn j := by
                funext x
                unfold mVals
                rw [hA35, hw1]
                rfl
              refine kx_rn dM_workSettings 2 33 [(0, .ref m), (1, .int (nI kn)), (2, .int (nI j)), (3, .int (nI c))] [.int 4, .int (nI c)] rfl ?_
              refine kx_ic (tgt := 94) (kx_tk_dec rfl dM_workSettings) rfl (fun e33 => ?_) (fun e33 => ?_)
              · skip
                replace e33 : 4 ≤ nI c := e33
                replace e33 : 4 ≤ c := (nI_leI (a := 4) (b := c) (by omega) (by omega)).mp e33
                exfalso; omega
              · skip
                replace e33 : ¬ 4 ≤ nI c := e33
                replace e33 : ¬ 4 ≤ c := fun z => e33 ((nI_leI (a := 4) (b := c) (by omega) (by omega)).mpr z)
                refine kx_rn dM_workSettings 1 37 [(0, .ref m), (1, .int (nI kn)), (2, .int (nI j)), (3, .int (nI c))] [.ref m] rfl ?_
                refine pM_63 (v := .ref (m + 17)) rfl (kx_tk_dec rfl dM_workSettings) (mh_o hm) rfl ?_
                refine kx_rn dM_workSettings 6 46 [(0, .ref m), (1, .int (nI kn)), (2, .int (nI j)), (3, .int (nI c))] [.ref m, .int ((4 * (nI j)) + (nI c)), .ref (m + 17)] rfl ?_
                rw [show (4 * (nI j)) + (nI c) = nI ((4 * j) + c) from kn_ad (kn_mu rfl rfl) rfl]
                refine pM_41 (v := .ref (m + 10)) rfl (kx_tk_dec rfl dM_workSettings) (mh_o hm) rfl ?_
                refine kx_rn dM_workSettings 1 50 [(0, .ref m), (1, .int (nI kn)), (2, .int (nI j)), (3, .int (nI c))] [.int (nI c), .ref (m + 10), .int (nI ((4 * j) + c)), .ref (m + 17)] rfl ?_
                refine mh_zl (k := 10) (x := A3 10 c) (i := c) rfl rfl (kx_tk_dec rfl dM_workSettings) hm (by show c < 4; omega) ?_
                rw [hA310]
                refine kx_if (tgt := 72) (kx_tk_dec rfl dM_workSettings) rfl (fun e51 => ?_) (fun e51 => ?_)
                · skip
                  replace e51 : A 10 c = 0 := e51
                  refine kx_rn dM_workSettings 1 73 [(0, .ref m), (1, .int (nI kn)), (2, .int (nI j)), (3, .int (nI c))] [.ref m, .int (nI ((4 * j) + c)), .ref (m + 17)] rfl ?_
                  refine pM_22 (v := .ref (m + 5)) rfl (kx_tk_dec rfl dM_workSettings) (mh_o hm) rfl ?_
                  refine kx_rn dM_workSettings 2 78 [(0, .ref m), (1, .int (nI kn)), (2, .int (nI j)), (3, .int (nI c))] [.ref m, .int 4, .ref (m + 5), .int (nI ((4 * j) + c)), .ref (m + 17)] rfl ?_
                  refine pM_60 (v := .ref (m + 16)) rfl (kx_tk_dec rfl dM_workSettings) (mh_o hm) rfl ?_
                  refine kx_rn dM_workSettings 1 82 [(0, .ref m), (1, .int (nI kn)), (2, .int (nI j)), (3, .int (nI c))] [.int (nI j), .ref (m + 16), .int 4, .ref (m + 5), .int (nI ((4 * j) + c)), .ref (m + 17)] rfl ?_
                  refine mh_ld (k := 16) (x := A3 16 j) (i := j) rfl rfl (kx_tk_dec rfl dM_workSettings) hm (by show j < 24; omega) ?_
                  rw [show A3 16 j = nI (40 * (24 * kn + j) + w1) from by rw [hA3 16 (by decide) (by decide), hW j (by omega), hw1]; rfl]
                  refine kx_rn dM_workSettings 3 86 [(0, .ref m), (1, .int (nI kn)), (2, .int (nI j)), (3, .int (nI c))] [.int ((4 * (nI (40 * (24 * kn + j) + w1))) + (nI c)), .ref (m + 5), .int (nI ((4 * j) + c)), .ref (m + 17)] rfl ?_
                  rw [show (4 * (nI (40 * (24 * kn + j) + w1))) + (nI c) = nI ((4 * (40 * (24 * kn + j) + w1)) + c) from kn_ad (kn_mu rfl rfl) rfl]
                  refine mh_ld (k := 5) (x := A3 5 ((4 * (40 * (24 * kn + j) + w1)) + c)) (i := (4 * (40 * (24 * kn + j) + w1)) + c) rfl rfl (kx_tk_dec rfl dM_workSettings) hm (by show (4 * (40 * (24 * kn + j) + w1)) + c < 11520; omega) ?_
                  refine mh_st (k := 17) (i := (4 * j) + c) (A' := va_up A3 17 (va_up (A3 17) ((4 * j) + c) (A3 5 ((4 * (40 * (24 * kn + j) + w1)) + c)))) rfl (kx_tk_dec rfl dM_workSettings) hm (by show (4 * j) + c < 96; omega) rfl ?_
                  refine kx_rn dM_workSettings 2 31 [(0, .ref m), (1, .int (nI kn)), (2, .int (nI j)), (3, .int ((nI c) + 1))] [] rfl ?_
                  rw [show (nI c) + 1 = nI (c + 1) from kn_ad rfl rfl]
                  refine ihc (c + 1) S3 _ dv3 (by omega) hS3 h322 ?_ (fun k z12 z17 => by simp only [va_up]; simp only [if_neg z17]; exact hA3 k z12 z17) (fun r hr c2 hc2 hm1 => ?_)
                  · have key : mFine V (A 5) (A 10) PP SZ tn kn j c ↔ True := by
                      unfold mFine
                      simp [e51]
                    skip
                    constructor
                    · intro z
                      obtain ⟨y1, y2⟩ : (∀ r, r < j → mt r = true → ∀ c, c < 4 → mFine V (A 5) (A 10) PP SZ tn kn r c) ∧ (∀ x, x < c → mFine V (A 5) (A 10) PP SZ tn kn j x) := hdv3.mp z
                      refine ⟨y1, fun x hx => ?_⟩
                      by_cases z2 : x = c
                      · rw [z2]; exact key.mpr trivial
                      · exact y2 x (by omega)
                    · intro z
                      have y1 := hdv3.mpr ⟨z.1, fun x hx => z.2 x (by omega)⟩
                      have y2 := key.mp (z.2 c (by omega))
                      exact y1
                  · show va_up (A3 17) _ _ (4 * r + c2) = _
                    by_cases z : r = j ∧ c2 = c
                    · obtain ⟨rfl, rfl⟩ := z
                      rw [va_up_self]
                      unfold mNew
                      rw [if_pos e51, ← hvl]
                    · rw [va_up_ne _ _ (by omega)]
                      exact h17 r hr c2 (by omega) hm1
                · skip
                  replace e51 : ¬ A 10 c = 0 := e51
                  refine kx_rn dM_workSettings 6 60 [(0, .ref m), (1, .int (nI kn)), (2, .int (nI j)), (3, .int (nI c))] [.ref m, .int 4, .int (1 + (nI c)), .ref m, .int (nI ((4 * j) + c)), .ref (m + 17)] rfl ?_
                  rw [show 1 + (nI c) = nI (1 + c) from kn_ad rfl rfl]
                  refine pM_60 (v := .ref (m + 16)) rfl (kx_tk_dec rfl dM_workSettings) (mh_o hm) rfl ?_
                  refine kx_rn dM_workSettings 1 64 [(0, .ref m), (1, .int (nI kn)), (2, .int (nI j)), (3, .int (nI c))] [.int (nI j), .ref (m + 16), .int 4, .int (nI (1 + c)), .ref m, .int (nI ((4 * j) + c)), .ref (m + 17)] rfl ?_
                  refine mh_ld (k := 16) (x := A3 16 j) (i := j) rfl rfl (kx_tk_dec rfl dM_workSettings) hm (by show j < 24; omega) ?_
                  rw [show A3 16 j = nI (40 * (24 * kn + j) + w1) from by rw [hA3 16 (by decide) (by decide), hW j (by omega), hw1]; rfl]
                  refine kx_rn dM_workSettings 1 66 [(0, .ref m), (1, .int (nI kn)), (2, .int (nI j)), (3, .int (nI c))] [.int (4 * (nI (40 * (24 * kn + j) + w1))), .int (nI (1 + c)), .ref m, .int (nI ((4 * j) + c)), .ref (m + 17)] rfl ?_
                  rw [show 4 * (nI (40 * (24 * kn + j) + w1)) = nI (4 * (40 * (24 * kn + j) + w1)) from kn_mu rfl rfl]
                  have hp := hP (1 + c) (by omega)
                  have hwk := cM_work (d := d) (row := 1 + c) (S := S3) (A := A3) (fr := 4 * (40 * (24 * kn + j) + w1)) (dv := dv3) hst hm h322 (by omega) (by omega) (by rw [hA3 9 (by decide) (by decide)]; exact hp.1) hp.2.1 (fun k hk => by rw [hA3 8 (by decide) (by decide)]; exact hp.2.2 k hk)
                  rw [hvl] at hwk
                  refine cM_162 (as := [.int (nI (1 + c)), .int (nI (4 * (40 * (24 * kn + j) + w1)))]) (st := [.int (nI ((4 * j) + c)), .ref (m + 17)]) (mc := 0) (ms := 0) (kc := 0) (ks := 0) rfl (kx_tk_dec rfl dM_workSettings) (mh_o hm) rfl rfl (Nat.le_of_ble_eq_true rfl) (hwk) (fun o h' hq => ?_)
                  obtain ⟨rfl, Fs, rfl⟩ := hq
                  show kx_w _ _ _ _ _ _ _ _ _ _ _
                  refine kx_rn dM_workSettings 1 87 [(0, .ref m), (1, .int (nI kn)), (2, .int (nI j)), (3, .int (nI c))] [.int ((evC (PP (1 + c)) (SZ (1 + c)) (mVals V (A 5) tn kn j)).1), .int (nI ((4 * j) + c)), .ref (m + 17)] rfl ?_
                  refine mh_st (k := 17) (i := (4 * j) + c) (A' := va_up (va_up A3 12 Fs) 17 (va_up (A3 17) ((4 * j) + c) ((evC (PP (1 + c)) (SZ (1 + c)) (mVals V (A 5) tn kn j)).1))) rfl (kx_tk_dec rfl dM_workSettings) hm (by show (4 * j) + c < 96; omega) rfl ?_
                  refine kx_rn dM_workSettings 2 31 [(0, .ref m), (1, .int (nI kn)), (2, .int (nI j)), (3, .int ((nI c) + 1))] [] rfl ?_
                  rw [show (nI c) + 1 = nI (c + 1) from kn_ad rfl rfl]
                  refine ihc (c + 1) _ _ (dv3 || (evC (PP (1 + c)) (SZ (1 + c)) (mVals V (A 5) tn kn j)).2) (by omega) (fun k z22 => by rw [va_up_ne _ _ z22]; exact hS3 k z22) rfl ?_ (fun k z12 z17 => by simp only [va_up]; simp only [if_neg z12, if_neg z17]; exact hA3 k z12 z17) (fun r hr c2 hc2 hm1 => ?_)
                  · have key : mFine V (A 5) (A 10) PP SZ tn kn j c ↔ (evC (PP (1 + c)) (SZ (1 + c)) (mVals V (A 5) tn kn j)).2 = false := by
                      unfold mFine
                      simp [e51]
                    skip
                    constructor
                    · intro z
                      obtain ⟨y1, y2⟩ : (∀ r, r < j → mt r = true → ∀ c, c < 4 → mFine V (A 5) (A 10) PP SZ tn kn r c) ∧ (∀ x, x < c → mFine V (A 5) (A 10) PP SZ tn kn j x) := hdv3.mp (by cases h : dv3 with | false => rfl | true => rw [h] at z; cases z)
                      refine ⟨y1, fun x hx => ?_⟩
                      by_cases z2 : x = c
                      · rw [z2]; exact key.mpr (by cases h : (evC (PP (1 + c)) (SZ (1 + c)) (mVals V (A 5) tn kn j)).2 with | false => rfl | true => rw [h, Bool.or_true] at z; cases z)
                      · exact y2 x (by omega)
                    · intro z
                      have y1 := hdv3.mpr ⟨z.1, fun x hx => z.2 x (by omega)⟩
                      have y2 := key.mp (z.2 c (by omega))
                      rw [y1, y2]; rfl
                  · show va_up (A3 17) _ _ (4 * r + c2) = _
                    by_cases z : r = j ∧ c2 = c
                    · obtain ⟨rfl, rfl⟩ := z
                      rw [va_up_self]
                      unfold mNew
                      rw [if_neg e51]
                    · rw [va_up_ne _ _ (by omega)]
                      exact h17 r hr c2 (by omega) hm1
          exact inner 4 0 S2 A2 dv rfl hS2 h22 (by rw [hdv]; exact ⟨fun z => ⟨z, fun x hx => absurd hx (by omega)⟩, fun z => z.1⟩) hA2 (fun r hr c2 hc2 hm1 => hsp r (by omega) hm1 c2 (by omega))
        · skip
          replace e23 : b01 (mt j) = 0 := e23
          replace e23 : mt j = false := b01_f e23
          refine kx_rn dM_workSettings 3 7 [(0, .ref m), (1, .int (nI kn)), (2, .int ((nI j) + 1))] [] rfl ?_
          rw [show (nI j) + 1 = nI (j + 1) from kn_ad rfl rfl]
          refine ih (j + 1) S2 A2 dv (by omega) hS2 h22 ?_ hA2 (fun r hr hm1 => ?_)
          · rw [hdv]
            constructor
            · intro z r hr hm1
              by_cases z2 : r = j
              · rw [z2, e23] at hm1; cases hm1
              · exact z r (by omega) hm1
            · intro z r hr hm1
              exact z r (by omega) hm1
          · by_cases z : r = j
            · rw [z, e23] at hm1; cases hm1
            · exact hsp r (by omega) hm1
  refine kx_rn dM_workSettings 2 2 [(0, .ref m), (1, .int (nI kn))] [.int 0, .ref m] rfl ?_
  refine qM_148 rfl (kx_tk_dec rfl dM_workSettings) (mh_o hm) rfl rfl (Nat.le_of_ble_eq_true rfl) ?_
  rw [mh_p22]
  refine kx_rn dM_workSettings 2 7 [(0, .ref m), (1, .int (nI kn)), (2, .int 0)] [] rfl ?_
  exact loop rw 0 _ A false (by omega) (fun k z => va_up_ne _ _ z) rfl ⟨fun _ r hr => absurd hr (by omega), fun _ => rfl⟩ (fun _ _ _ => rfl) (fun r hr => absurd hr (by omega))
end KM11
