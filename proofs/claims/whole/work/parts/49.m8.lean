/-! ===== the reference: look ===== -/
section KM8
variable {G : kx_G} {l : Launch} {d : Nat} {h0 : kx_H} {m : Nat} {S : Nat → Int32} {A : Nat → Nat → Int32}
theorem eR_ind {vals P f g : Nat → Int32} {b : Bool} {sz : Nat} (hwf : ∀ k, k < sz → itK (P k) (dpt P k)) (h0 : f 0 = g 0) : ∀ k, k ≤ sz → (eR vals P (0, f, b) k).2.2 = (eR vals P (0, g, b) k).2.2 ∧ ∀ j, j < max (dpt P k) 1 → (eR vals P (0, f, b) k).2.1 j = (eR vals P (0, g, b) k).2.1 j
  | 0, _ => ⟨rfl, fun j hj => by
      have : j = 0 := by simp only [dpt] at hj; omega
      subst this; exact h0⟩
  | k + 1, hk => by
    obtain ⟨h1, h2⟩ := eR_ind hwf h0 k (by omega)
    have hf := eR_dpt vals P f b k
    have hg := eR_dpt vals P g b k
    have hit := hwf k (by omega)
    simp only [eR]
    generalize eR vals P (0, f, b) k = qf at *
    generalize eR vals P (0, g, b) k = qg at *
    obtain ⟨nf, ff, bf⟩ := qf
    obtain ⟨ng, gg, bg⟩ := qg
    simp only at hf hg h1 h2
    subst h1
    unfold eS
    simp only [dpt, hf, hg]
    by_cases e1 : P k < -4
    · rw [if_pos e1, if_pos e1, if_pos e1]
      by_cases e2 : P k = -133
      · rw [if_pos e2, if_pos e2, if_pos e2]
        refine ⟨rfl, fun j hj => ?_⟩
        simp only [va_up]
        by_cases z : j = dpt P k - 1
        · rw [if_pos z, if_pos z, h2 _ (by omega)]
        · rw [if_neg z, if_neg z, h2 _ hj]
      · rw [if_neg e2, if_neg e2, if_neg e2]
        have hlo : 2 ≤ dpt P k := by
          rcases hit with ⟨v, hv, h⟩ | h | ⟨h, -⟩ | ⟨-, h⟩
          · rw [h] at e1; exact absurd e1 (nI_n4 hv)
          · rcases h with h | h | h | h <;> (rw [h] at e1; exact absurd e1 (by decide))
          · exact absurd h e2
          · exact h
        refine ⟨by simp only [h2 (dpt P k - 1) (by omega)], fun j hj => ?_⟩
        simp only [va_up]
        by_cases z : j = dpt P k - 1 - 1
        · rw [if_pos z, if_pos z, h2 _ (by omega), h2 _ (by omega)]
        · rw [if_neg z, if_neg z, h2 _ (by omega)]
    · rw [if_neg e1, if_neg e1, if_neg e1]
      refine ⟨rfl, fun j hj => ?_⟩
      simp only [va_up]
      by_cases z : j = dpt P k
      · rw [if_pos z, if_pos z]
      · rw [if_neg z, if_neg z, h2 _ (by omega)]
theorem eR_dv {vals P f : Nat → Int32} {b : Bool} : ∀ k, (eR vals P (0, f, b) k).1 = (eR vals P (0, f, false) k).1 ∧ (eR vals P (0, f, b) k).2.1 = (eR vals P (0, f, false) k).2.1 ∧ (eR vals P (0, f, b) k).2.2 = (b || (eR vals P (0, f, false) k).2.2)
  | 0 => ⟨rfl, rfl, by simp [eR]⟩
  | k + 1 => by
    obtain ⟨h1, h2, h3⟩ := eR_dv (vals := vals) (P := P) (f := f) (b := b) k
    simp only [eR]
    generalize eR vals P (0, f, b) k = qf at *
    generalize eR vals P (0, f, false) k = qg at *
    obtain ⟨nf, ff, bf⟩ := qf
    obtain ⟨ng, gg, bg⟩ := qg
    simp only at h1 h2 h3
    subst h1 h2 h3
    unfold eS
    by_cases e1 : P k < -4
    · rw [if_pos e1, if_pos e1]
      by_cases e2 : P k = -133
      · rw [if_pos e2, if_pos e2]; exact ⟨rfl, rfl, rfl⟩
      · rw [if_neg e2, if_neg e2]; exact ⟨rfl, rfl, by simp [Bool.or_assoc]⟩
    · rw [if_neg e1, if_neg e1]; exact ⟨rfl, rfl, rfl⟩
/-- a program's answer, and whether it divides by 0 -/
def evC (P : Nat → Int32) (sz : Nat) (vals : Nat → Int32) : Int32 × Bool := ((eR vals P (0, va_up (fun _ => 0) 0 1, false) sz).2.1 0, (eR vals P (0, va_up (fun _ => 0) 0 1, false) sz).2.2)
theorem evC_of {vals P f : Nat → Int32} {b : Bool} {sz : Nat} (hwf : wfP P sz) (h0 : f 0 = 1) : (eR vals P (0, f, b) sz).2.1 0 = (evC P sz vals).1 ∧ (eR vals P (0, f, b) sz).2.2 = (b || (evC P sz vals).2) := by
  obtain ⟨h1, h2, h3⟩ := eR_dv (vals := vals) (P := P) (f := f) (b := b) sz
  obtain ⟨h4, h5⟩ := eR_ind (vals := vals) (f := f) (g := va_up (fun _ => 0) 0 1) (b := false) hwf.2 (by rw [h0]; rfl) sz (Nat.le_refl _)
  refine ⟨?_, ?_⟩
  · rw [h2, h5 0 (by omega)]; rfl
  · rw [h3, h4]; rfl
theorem cM_work {row fr sz : Nat} {dv : Bool} {P : Nat → Int32} (hst : l.stackTraces = false) (hm : mOk G h0 m) (hdv : S 22 = b01 dv) (hrow : row < 5) (hfr : fr ≤ 11516) (hsz : A 9 row = nI sz) (hwf : wfP P sz) (hP : ∀ k, k < sz → A 8 (44 * row + k) = P k) :
    kx_c G l mM_worked (d + 1) 0 0 [.ref m, .int (nI row), .int (nI fr)] (mH h0 m S A) (fun o h' => o = .returned (some (.int (evC P sz (fun c => A 5 (fr + c))).1)) ∧ ∃ F, h' = mH h0 m (va_up S 22 (b01 (dv || (evC P sz (fun c => A 5 (fr + c))).2))) (va_up A 12 F)) := by
  refine kx_cc (fun o h' hq => ?_) (cM_worked hst hm hdv hrow hfr hsz hwf hP)
  obtain ⟨h1, h2⟩ := evC_of (vals := fun c => A 5 (fr + c)) (f := va_up (A 12) 0 1) (b := dv) hwf rfl
  rw [h1, h2] at hq
  exact ⟨hq.1, _, hq.2⟩
def hwq (V : Nat → Nat) (tn q : Nat) : Nat := hw (fun w => decide (¬ V (40 * q + w - 1) = 0)) tn
/-- what look finds of row q: 0 no match, 1 a match, 2 must wait, 3 a division by 0 -/
def vdct (V : Nat → Nat) (A6 A5 P : Nat → Int32) (sz tn q : Nat) : Nat := if hwq V tn q = 0 then 0 else if ¬ hwq V tn q = tn ∧ A6 (hwq V tn q) = 1 then 2 else if V (40 * q + (hwq V tn q - 1)) / 2 % 2 = 1 then 0 else if (evC P sz (fun c => A5 (4 * (40 * q + (hwq V tn q - 1)) + c))).2 = true then 3 else if (evC P sz (fun c => A5 (4 * (40 * q + (hwq V tn q - 1)) + c))).1 = 0 then 0 else 1
theorem kn_rem40 {q w : Nat} (hq : q < 72) (hw : w < 40) : nI (40 * q + w) - nI (40 * q + w) / 40 * 40 = nI w := by
  have : ∀ (q : Fin 72) (w : Fin 40), nI (40 * q.val + w.val) - nI (40 * q.val + w.val) / 40 * 40 = nI w.val := by decide +kernel
  exact this ⟨q, hq⟩ ⟨w, hw⟩
def lookQ (h0 : kx_H) (m : Nat) (S : Nat → Int32) (A : Nat → Nat → Int32) (V : Nat → Nat) (P : Nat → Int32) (sz tn kn rw : Nat) : Outcome → kx_H → Prop := fun o h' => ∃ (S1 : Nat → Int32) (A1 : Nat → Nat → Int32) (code : Nat), o = .returned (some (.int (nI code))) ∧ h' = mH h0 m S1 A1 ∧ (∀ k, k ≠ 22 → S1 k = S k) ∧ (∀ k, k ≠ 12 → k ≠ 16 → k ≠ 18 → A1 k = A k) ∧ ((code = 0 ∧ (∀ r, r < rw → vdct V (A 6) (A 5) P sz tn (24 * kn + r) ≤ 1 ∧ A1 16 r = heldR (40 * (24 * kn + r)) (hwq V tn (24 * kn + r)) ∧ A1 18 r = b01 (decide (vdct V (A 6) (A 5) P sz tn (24 * kn + r) = 1)))) ∨ (code = 1 ∧ (∃ r, r < rw ∧ vdct V (A 6) (A 5) P sz tn (24 * kn + r) = 2 ∧ ∀ p, p < r → vdct V (A 6) (A 5) P sz tn (24 * kn + p) ≤ 1)) ∨ (code = 2 ∧ (∃ r, r < rw ∧ vdct V (A 6) (A 5) P sz tn (24 * kn + r) = 3 ∧ ∀ p, p < r → vdct V (A 6) (A 5) P sz tn (24 * kn + p) ≤ 1)))
set_option maxRecDepth 100000 in
theorem cM_look {tn kn rw : Nat} (hst : l.stackTraces = false) (hm : mOk G h0 m) (ht1 : 1 ≤ tn) (ht2 : tn ≤ 40) (hk : kn < 3) (hrw : A 2 kn = nI rw) (hrw2 : rw ≤ 24) {V : Nat → Nat} (hV : ∀ v, A 4 v = nI (V v)) (hV2 : ∀ v, V v < 256) {P : Nat → Int32} {sz : Nat} (hsz : A 9 0 = nI sz) (hwf : wfP P sz) (hP : ∀ k, k < sz → A 8 (44 * 0 + k) = P k) :
    kx_c G l mM_look (d + 2) 0 0 [.ref m, .int (nI tn), .int (nI kn)] (mH h0 m S A) (lookQ h0 m S A V P sz tn kn rw) := by
  refine kx_in (by decide +kernel) (Nat.le_of_ble_eq_true rfl) hst ?_
  have loop : ∀ n (j : Nat) (S1 : Nat → Int32) (A1 : Nat → Nat → Int32), j + n = rw → (∀ k, k ≠ 22 → S1 k = S k) → (∀ k, k ≠ 12 → k ≠ 16 → k ≠ 18 → A1 k = A k) → (∀ r, r < j → vdct V (A 6) (A 5) P sz tn (24 * kn + r) ≤ 1 ∧ A1 16 r = heldR (40 * (24 * kn + r)) (hwq V tn (24 * kn + r)) ∧ A1 18 r = b01 (decide (vdct V (A 6) (A 5) P sz tn (24 * kn + r) = 1))) → kx_w G l mM_look (d + 2) (lookQ h0 m S A V P sz tn kn rw) 0 0 2 [(0, .ref m), (1, .int (nI tn)), (2, .int (nI kn)), (3, .int (nI j))] [] (mH h0 m S1 A1) := by
    intro n
    induction n with
    | zero =>
      intro j S1 A1 hj hS1 hA1 hspec
      have hrw1 : A1 2 kn = nI rw := by rw [hA1 2 (by decide) (by decide) (by decide)]; exact hrw
      have hV1 : ∀ v, A1 4 v = nI (V v) := fun v => by rw [hA1 4 (by decide) (by decide) (by decide)]; exact hV v
      have hsz1 : A1 9 0 = nI sz := by rw [hA1 9 (by decide) (by decide) (by decide)]; exact hsz
      have hP1 : ∀ k, k < sz → A1 8 (44 * 0 + k) = P k := fun k hk => by rw [hA1 8 (by decide) (by decide) (by decide)]; exact hP k hk
      have hA61 : A1 6 = A 6 := hA1 6 (by decide) (by decide) (by decide)
      have hA51 : A1 5 = A 5 := hA1 5 (by decide) (by decide) (by decide)
      refine kx_rn dM_look 2 4 [(0, .ref m), (1, .int (nI tn)), (2, .int (nI kn)), (3, .int (nI j))] [.ref m, .int (nI j)] rfl ?_
      refine pM_13 (v := .ref (m + 2)) rfl (kx_tk_dec rfl dM_look) (mh_o hm) rfl ?_
      refine kx_rn dM_look 1 8 [(0, .ref m), (1, .int (nI tn)), (2, .int (nI kn)), (3, .int (nI j))] [.int (nI kn), .ref (m + 2), .int (nI j)] rfl ?_
      refine mh_ld (k := 2) (x := A1 2 kn) (i := kn) rfl rfl (kx_tk_dec rfl dM_look) hm (by show kn < 3; omega) ?_
      rw [hrw1]
      refine kx_ic (tgt := 131) (kx_tk_dec rfl dM_look) rfl (fun e9 => ?_) (fun e9 => ?_)
      · skip
        replace e9 : nI rw ≤ nI j := e9
        replace e9 : rw ≤ j := (nI_leI (a := rw) (b := j) (by omega) (by omega)).mp e9
        refine kx_rn dM_look 1 132 [(0, .ref m), (1, .int (nI tn)), (2, .int (nI kn)), (3, .int (nI j))] [.int 0] rfl ?_
        refine kx_ret (ty := .int) (kx_tk_dec rfl dM_look) rfl rfl ?_
        exact ⟨S1, A1, 0, rfl, rfl, hS1, hA1, Or.inl ⟨rfl, fun r hr => hspec r (by omega)⟩⟩
      · skip
        replace e9 : ¬ nI rw ≤ nI j := e9
        replace e9 : ¬ rw ≤ j := fun z => e9 ((nI_leI (a := rw) (b := j) (by omega) (by omega)).mpr z)
        exfalso; omega
    | succ n ih =>
      intro j S1 A1 hj hS1 hA1 hspec
      have hrw1 : A1 2 kn = nI rw := by rw [hA1 2 (by decide) (by decide) (by decide)]; exact hrw
      have hV1 : ∀ v, A1 4 v = nI (V v) := fun v => by rw [hA1 4 (by decide) (by decide) (by decide)]; exact hV v
      have hsz1 : A1 9 0 = nI sz := by rw [hA1 9 (by decide) (by decide) (by decide)]; exact hsz
      have hP1 : ∀ k, k < sz → A1 8 (44 * 0 + k) = P k := fun k hk => by rw [hA1 8 (by decide) (by decide) (by decide)]; exact hP k hk
      have hA61 : A1 6 = A 6 := hA1 6 (by decide) (by decide) (by decide)
      have hA51 : A1 5 = A 5 := hA1 5 (by decide) (by decide) (by decide)
      refine kx_rn dM_look 2 4 [(0, .ref m), (1, .int (nI tn)), (2, .int (nI kn)), (3, .int (nI j))] [.ref m, .int (nI j)] rfl ?_
      refine pM_13 (v := .ref (m + 2)) rfl (kx_tk_dec rfl dM_look) (mh_o hm) rfl ?_
      refine kx_rn dM_look 1 8 [(0, .ref m), (1, .int (nI tn)), (2, .int (nI kn)), (3, .int (nI j))] [.int (nI kn), .ref (m + 2), .int (nI j)] rfl ?_
      refine mh_ld (k := 2) (x := A1 2 kn) (i := kn) rfl rfl (kx_tk_dec rfl dM_look) hm (by show kn < 3; omega) ?_
      rw [hrw1]
      refine kx_ic (tgt := 131) (kx_tk_dec rfl dM_look) rfl (fun e9 => ?_) (fun e9 => ?_)
      · skip
        replace e9 : nI rw ≤ nI j := e9
        replace e9 : rw ≤ j := (nI_leI (a := rw) (b := j) (by omega) (by omega)).mp e9
        exfalso; omega
      · skip
        replace e9 : ¬ nI rw ≤ nI j := e9
        replace e9 : ¬ rw ≤ j := fun z => e9 ((nI_leI (a := rw) (b := j) (by omega) (by omega)).mpr z)
        refine kx_rn dM_look 4 16 [(0, .ref m), (1, .int (nI tn)), (2, .int (nI kn)), (3, .int (nI j))] [.int (nI j), .int (nI kn), .int (nI tn), .ref m] rfl ?_
        refine cM_156 (as := [.int (nI tn), .int (nI kn), .int (nI j)]) (st := []) (mc := 0) (ms := 0) (kc := 0) (ks := 0) rfl (kx_tk_dec rfl dM_look) (mh_o hm) rfl rfl (Nat.le_of_ble_eq_true rfl) (cM_held hst hm ht1 ht2 hk (by omega) hV1 hV2) (fun o h' hq => ?_)
        obtain ⟨rfl, rfl⟩ := hq
        show kx_w _ _ _ _ _ _ _ _ _ _ _
        have hW2j : hwq V tn (24 * kn + j) ≤ tn := hw_le _ _
        rw [show heldR (40 * (24 * kn + j)) (hw (fun w => decide (¬ V (40 * (24 * kn + j) + w - 1) = 0)) tn) = heldR (40 * (24 * kn + j)) (hwq V tn (24 * kn + j)) from rfl]
        cases hWj : hwq V tn (24 * kn + j) with
        | zero =>
          refine kx_rn dM_look 2 22 [(0, .ref m), (1, .int (nI tn)), (2, .int (nI kn)), (3, .int (nI j)), (4, .int ((-1)))] [.ref m] rfl ?_
          refine pM_60 (v := .ref (m + 16)) rfl (kx_tk_dec rfl dM_look) (mh_o hm) rfl ?_
          refine kx_rn dM_look 2 28 [(0, .ref m), (1, .int (nI tn)), (2, .int (nI kn)), (3, .int (nI j)), (4, .int ((-1)))] [.int ((-1)), .int (nI j), .ref (m + 16)] rfl ?_
          refine mh_st (k := 16) (i := j) (A' := va_up A1 16 (va_up (A1 16) j ((-1)))) rfl (kx_tk_dec rfl dM_look) hm (by show j < 24; omega) rfl ?_
          refine kx_rn dM_look 1 30 [(0, .ref m), (1, .int (nI tn)), (2, .int (nI kn)), (3, .int (nI j)), (4, .int ((-1)))] [.ref m] rfl ?_
          refine pM_66 (v := .ref (m + 18)) rfl (kx_tk_dec rfl dM_look) (mh_o hm) rfl ?_
          refine kx_rn dM_look 2 35 [(0, .ref m), (1, .int (nI tn)), (2, .int (nI kn)), (3, .int (nI j)), (4, .int ((-1)))] [.int 0, .int (nI j), .ref (m + 18)] rfl ?_
          refine mh_zs (k := 18) (i := j) (A' := va_up (va_up A1 16 (va_up (A1 16) j ((-1)))) 18 (va_up (A1 18) j 0)) rfl (kx_tk_dec rfl dM_look) hm (by show j < 24; omega) rfl rfl ?_
          refine kx_rn dM_look 1 38 [(0, .ref m), (1, .int (nI tn)), (2, .int (nI kn)), (3, .int (nI j)), (4, .int ((-1)))] [.int ((-1))] rfl ?_
          refine kx_if (tgt := 44) (kx_tk_dec rfl dM_look) rfl (fun e38 => ?_) (fun e38 => ?_)
          · skip
            replace e38 : 0 ≤ ((-1) : Int32) := e38
            exact absurd e38 (by decide)
          · skip
            replace e38 : ¬ 0 ≤ ((-1) : Int32) := e38
            refine kx_rn dM_look 3 2 [(0, .ref m), (1, .int (nI tn)), (2, .int (nI kn)), (3, .int ((nI j) + 1)), (4, .int ((-1)))] [] rfl ?_
            rw [show (nI j) + 1 = nI (j + 1) from kn_ad rfl rfl]
            refine kx_lsub (lv' := [(0, .ref m), (1, .int (nI tn)), (2, .int (nI kn)), (3, .int (nI (j + 1)))]) (.cons₂ _ (.cons₂ _ (.cons₂ _ (.cons₂ _ (.cons _ .slnil))))) ?_
            have hvd : vdct V (A 6) (A 5) P sz tn (24 * kn + j) = 0 := by unfold vdct; rw [if_pos hWj]
            refine ih (j + 1) S1 (va_up (va_up A1 16 (va_up (A1 16) j ((-1)))) 18 (va_up (A1 18) j 0)) (by omega) hS1 (fun k h12 h16 h18 => by simp only [va_up]; simp only [if_neg h12, if_neg h16, if_neg h18]; exact hA1 k h12 h16 h18) (fun r hr => ?_)
            by_cases z : r = j
            · rw [z]
              refine ⟨by rw [hvd]; decide, ?_, ?_⟩
              · show va_up _ j _ j = _; rw [va_up_self, hWj]; rfl
              · show va_up _ j _ j = _; rw [va_up_self, hvd]; rfl
            · obtain ⟨z1, z2, z3⟩ := hspec r (by omega)
              exact ⟨z1, by show va_up _ j _ r = _; rw [va_up_ne _ _ z]; exact z2, by show va_up _ j _ r = _; rw [va_up_ne _ _ z]; first | exact z3 | (rw [va_up_ne _ _ z]; exact z3)⟩
        | succ w1 =>
          refine kx_rn dM_look 2 22 [(0, .ref m), (1, .int (nI tn)), (2, .int (nI kn)), (3, .int (nI j)), (4, .int (nI (40 * (24 * kn + j) + w1)))] [.ref m] rfl ?_
          refine pM_60 (v := .ref (m + 16)) rfl (kx_tk_dec rfl dM_look) (mh_o hm) rfl ?_
          refine kx_rn dM_look 2 28 [(0, .ref m), (1, .int (nI tn)), (2, .int (nI kn)), (3, .int (nI j)), (4, .int (nI (40 * (24 * kn + j) + w1)))] [.int (nI (40 * (24 * kn + j) + w1)), .int (nI j), .ref (m + 16)] rfl ?_
          refine mh_st (k := 16) (i := j) (A' := va_up A1 16 (va_up (A1 16) j (nI (40 * (24 * kn + j) + w1)))) rfl (kx_tk_dec rfl dM_look) hm (by show j < 24; omega) rfl ?_
          refine kx_rn dM_look 1 30 [(0, .ref m), (1, .int (nI tn)), (2, .int (nI kn)), (3, .int (nI j)), (4, .int (nI (40 * (24 * kn + j) + w1)))] [.ref m] rfl ?_
          refine pM_66 (v := .ref (m + 18)) rfl (kx_tk_dec rfl dM_look) (mh_o hm) rfl ?_
          refine kx_rn dM_look 2 35 [(0, .ref m), (1, .int (nI tn)), (2, .int (nI kn)), (3, .int (nI j)), (4, .int (nI (40 * (24 * kn + j) + w1)))] [.int 0, .int (nI j), .ref (m + 18)] rfl ?_
          refine mh_zs (k := 18) (i := j) (A' := va_up (va_up A1 16 (va_up (A1 16) j (nI (40 * (24 * kn + j) + w1)))) 18 (va_up (A1 18) j 0)) rfl (kx_tk_dec rfl dM_look) hm (by show j < 24; omega) rfl rfl ?_
          refine kx_rn dM_look 1 38 [(0, .ref m), (1, .int (nI tn)), (2, .int (nI kn)), (3, .int (nI j)), (4, .int (nI (40 * (24 * kn + j) + w1)))] [.int (nI (40 * (24 * kn + j) + w1))] rfl ?_
          refine kx_if (tgt := 44) (kx_tk_dec rfl dM_look) rfl (fun e38 => ?_) (fun e38 => ?_)
          · skip
            replace e38 : 0 ≤ nI (40 * (24 * kn + j) + w1) := e38
            replace e38 : 0 ≤ 40 * (24 * kn + j) + w1 := (nI_leI (a := 0) (b := 40 * (24 * kn + j) + w1) (by omega) (by omega)).mp e38
            refine kx_rn dM_look 2 48 [(0, .ref m), (1, .int (nI tn)), (2, .int (nI kn)), (3, .int (nI j)), (4, .int (nI (40 * (24 * kn + j) + w1)))] [.int 40, .int (nI (40 * (24 * kn + j) + w1))] rfl ?_
            refine kx_rem (kx_tk_dec rfl dM_look) (by decide) ?_
            rw [show nI (40 * (24 * kn + j) + w1) - nI (40 * (24 * kn + j) + w1) / 40 * 40 = nI w1 from kn_rem40 (by omega) (by omega)]
            refine kx_rn dM_look 5 56 [(0, .ref m), (1, .int (nI tn)), (2, .int (nI kn)), (3, .int (nI j)), (4, .int (nI (40 * (24 * kn + j) + w1))), (5, .int ((nI w1) + 1))] [.int (nI tn), .int ((nI w1) + 1)] rfl ?_
            rw [show (nI w1) + 1 = nI (w1 + 1) from kn_ad rfl rfl]
            refine kx_ic (tgt := 72) (kx_tk_dec rfl dM_look) rfl (fun e56 => ?_) (fun e56 => ?_)
            · skip
              replace e56 : nI (w1 + 1) = nI tn := e56
              replace e56 : w1 + 1 = tn := (nI_eq (a := w1 + 1) (b := tn) (by omega) (by omega)).mp e56
              refine kx_rn dM_look 1 73 [(0, .ref m), (1, .int (nI tn)), (2, .int (nI kn)), (3, .int (nI j)), (4, .int (nI (40 * (24 * kn + j) + w1))), (5, .int (nI (w1 + 1)))] [.ref m] rfl ?_
              refine pM_19 (v := .ref (m + 4)) rfl (kx_tk_dec rfl dM_look) (mh_o hm) rfl ?_
              refine kx_rn dM_look 1 78 [(0, .ref m), (1, .int (nI tn)), (2, .int (nI kn)), (3, .int (nI j)), (4, .int (nI (40 * (24 * kn + j) + w1))), (5, .int (nI (w1 + 1)))] [.int (nI (40 * (24 * kn + j) + w1)), .ref (m + 4)] rfl ?_
              refine mh_ld (k := 4) (x := A1 4 (40 * (24 * kn + j) + w1)) (i := 40 * (24 * kn + j) + w1) rfl rfl (kx_tk_dec rfl dM_look) hm (by show 40 * (24 * kn + j) + w1 < 2880; omega) ?_
              rw [hV1 (40 * (24 * kn + j) + w1)]
              have := hV2 (40 * (24 * kn + j) + w1)
              refine cM_159 (as := [.int (nI (V (40 * (24 * kn + j) + w1)))]) (st := []) (mc := 0) (ms := 0) (kc := 0) (ks := 0) rfl (kx_tk_dec rfl dM_look) rfl rfl (Nat.le_of_ble_eq_true rfl) (cM_gone hst) (fun o h' hq => ?_)
              obtain ⟨bg0, rfl, rfl, hbg0⟩ := hq
              show kx_w _ _ _ _ _ _ _ _ _ _ _
              rw [kw_gone (hV2 _)] at hbg0
              refine kx_if (tgt := 88) (kx_tk_dec rfl dM_look) rfl (fun e82 => ?_) (fun e82 => ?_)
              · skip
                replace e82 : b01 bg0 = 0 := e82
                replace e82 : bg0 = false := b01_f e82
                refine kx_rn dM_look 2 90 [(0, .ref m), (1, .int (nI tn)), (2, .int (nI kn)), (3, .int (nI j)), (4, .int (nI (40 * (24 * kn + j) + w1))), (5, .int (nI (w1 + 1)))] [.int 0, .ref m] rfl ?_
                refine qM_148 rfl (kx_tk_dec rfl dM_look) (mh_o hm) rfl rfl (Nat.le_of_ble_eq_true rfl) ?_
                rw [mh_p22]
                refine kx_rn dM_look 1 94 [(0, .ref m), (1, .int (nI tn)), (2, .int (nI kn)), (3, .int (nI j)), (4, .int (nI (40 * (24 * kn + j) + w1))), (5, .int (nI (w1 + 1)))] [.ref m] rfl ?_
                refine pM_66 (v := .ref (m + 18)) rfl (kx_tk_dec rfl dM_look) (mh_o hm) rfl ?_
                refine kx_rn dM_look 6 104 [(0, .ref m), (1, .int (nI tn)), (2, .int (nI kn)), (3, .int (nI j)), (4, .int (nI (40 * (24 * kn + j) + w1))), (5, .int (nI (w1 + 1)))] [.int (4 * (nI (40 * (24 * kn + j) + w1))), .int 0, .ref m, .int (nI j), .ref (m + 18)] rfl ?_
                rw [show 4 * (nI (40 * (24 * kn + j) + w1)) = nI (4 * (40 * (24 * kn + j) + w1)) from kn_mu rfl rfl]
                have hwk := cM_work (d := d) (row := 0) (S := va_up S1 22 0) (A := va_up (va_up A1 16 (va_up (A1 16) j (nI (40 * (24 * kn + j) + w1)))) 18 (va_up (A1 18) j 0)) (fr := 4 * (40 * (24 * kn + j) + w1)) (dv := false) hst hm rfl (by decide) (by omega) hsz1 hwf hP1
                rw [show (fun c => (va_up (va_up A1 16 (va_up (A1 16) j (nI (40 * (24 * kn + j) + w1)))) 18 (va_up (A1 18) j 0)) 5 (4 * (40 * (24 * kn + j) + w1) + c)) = (fun c => A 5 (4 * (40 * (24 * kn + j) + w1) + c)) from by funext c; show A1 5 _ = _; rw [hA51]] at hwk
                simp only [Bool.false_or] at hwk
                refine cM_162 (as := [.int 0, .int (nI (4 * (40 * (24 * kn + j) + w1)))]) (st := [.int (nI j), .ref (m + 18)]) (mc := 0) (ms := 0) (kc := 0) (ks := 0) rfl (kx_tk_dec rfl dM_look) (mh_o hm) rfl rfl (Nat.le_of_ble_eq_true rfl) (hwk) (fun o h' hq => ?_)
                obtain ⟨rfl, Fs, rfl⟩ := hq
                show kx_w _ _ _ _ _ _ _ _ _ _ _
                rw [va_upup]
                refine kx_if (tgt := 114) (kx_tk_dec rfl dM_look) rfl (fun e107 => ?_) (fun e107 => ?_)
                · skip
                  replace e107 : (evC P sz (fun c => A 5 (4 * (40 * (24 * kn + j) + w1) + c))).1 = 0 := e107
                  refine kx_rn dM_look 1 115 [(0, .ref m), (1, .int (nI tn)), (2, .int (nI kn)), (3, .int (nI j)), (4, .int (nI (40 * (24 * kn + j) + w1))), (5, .int (nI (w1 + 1)))] [.int 0, .int (nI j), .ref (m + 18)] rfl ?_
                  refine mh_zs (k := 18) (i := j) (A' := va_up (va_up (va_up (va_up A1 16 (va_up (A1 16) j (nI (40 * (24 * kn + j) + w1)))) 18 (va_up (A1 18) j 0)) 12 Fs) 18 (va_up (va_up (A1 18) j 0) j 0)) rfl (kx_tk_dec rfl dM_look) hm (by show j < 24; omega) rfl rfl ?_
                  refine kx_rn dM_look 1 117 [(0, .ref m), (1, .int (nI tn)), (2, .int (nI kn)), (3, .int (nI j)), (4, .int (nI (40 * (24 * kn + j) + w1))), (5, .int (nI (w1 + 1)))] [.ref m] rfl ?_
                  refine pM_148 (v := .int (b01 (evC P sz (fun c => A 5 (4 * (40 * (24 * kn + j) + w1) + c))).2)) rfl (kx_tk_dec rfl dM_look) (mh_o hm) rfl ?_
                  refine kx_if (tgt := 125) (kx_tk_dec rfl dM_look) rfl (fun e120 => ?_) (fun e120 => ?_)
                  · skip
                    replace e120 : b01 ((evC P sz (fun c => A 5 (4 * (40 * (24 * kn + j) + w1) + c))).2) = 0 := e120
                    replace e120 : (evC P sz (fun c => A 5 (4 * (40 * (24 * kn + j) + w1) + c))).2 = false := b01_f e120
                    refine kx_rn dM_look 2 2 [(0, .ref m), (1, .int (nI tn)), (2, .int (nI kn)), (3, .int ((nI j) + 1)), (4, .int (nI (40 * (24 * kn + j) + w1))), (5, .int (nI (w1 + 1)))] [] rfl ?_
                    rw [show (nI j) + 1 = nI (j + 1) from kn_ad rfl rfl]
                    refine kx_lsub (lv' := [(0, .ref m), (1, .int (nI tn)), (2, .int (nI kn)), (3, .int (nI (j + 1)))]) (.cons₂ _ (.cons₂ _ (.cons₂ _ (.cons₂ _ (.cons _ (.cons _ .slnil)))))) ?_
                    have hvd : vdct V (A 6) (A 5) P sz tn (24 * kn + j) = 0 := by unfold vdct; rw [if_neg (by rw [hWj]; omega), if_neg (by rw [hWj]; exact fun z => z.1 e56), hWj, show w1 + 1 - 1 = w1 from rfl, if_neg (fun z => absurd (hbg0.mpr z) (by rw [e82]; decide)), if_neg (by rw [e120]; decide), if_pos e107]
                    refine ih (j + 1) (va_up S1 22 (b01 (evC P sz (fun c => A 5 (4 * (40 * (24 * kn + j) + w1) + c))).2)) (va_up (va_up (va_up (va_up A1 16 (va_up (A1 16) j (nI (40 * (24 * kn + j) + w1)))) 18 (va_up (A1 18) j 0)) 12 Fs) 18 (va_up (va_up (A1 18) j 0) j 0)) (by omega) (fun k hk => by simp only [va_up]; rw [if_neg hk]; exact hS1 k hk) (fun k h12 h16 h18 => by simp only [va_up]; simp only [if_neg h12, if_neg h16, if_neg h18]; exact hA1 k h12 h16 h18) (fun r hr => ?_)
                    by_cases z : r = j
                    · rw [z]
                      refine ⟨by rw [hvd]; decide, ?_, ?_⟩
                      · show va_up _ j _ j = _; rw [va_up_self, hWj]; rfl
                      · show va_up _ j _ j = _; rw [va_up_self, hvd]; rfl
                    · obtain ⟨z1, z2, z3⟩ := hspec r (by omega)
                      exact ⟨z1, by show va_up _ j _ r = _; rw [va_up_ne _ _ z]; exact z2, by show va_up _ j _ r = _; rw [va_up_ne _ _ z]; first | exact z3 | (rw [va_up_ne _ _ z]; exact z3)⟩
                  · skip
                    replace e120 : ¬ b01 ((evC P sz (fun c => A 5 (4 * (40 * (24 * kn + j) + w1) + c))).2) = 0 := e120
                    replace e120 : (evC P sz (fun c => A 5 (4 * (40 * (24 * kn + j) + w1) + c))).2 = true := b01_t e120
                    refine kx_rn dM_look 1 124 [(0, .ref m), (1, .int (nI tn)), (2, .int (nI kn)), (3, .int (nI j)), (4, .int (nI (40 * (24 * kn + j) + w1))), (5, .int (nI (w1 + 1)))] [.int 2] rfl ?_
                    have hvd : vdct V (A 6) (A 5) P sz tn (24 * kn + j) = 3 := by unfold vdct; rw [if_neg (by rw [hWj]; omega), if_neg (by rw [hWj]; exact fun z => z.1 e56), hWj, show w1 + 1 - 1 = w1 from rfl, if_neg (fun z => absurd (hbg0.mpr z) (by rw [e82]; decide)), if_pos e120]
                    refine kx_ret (ty := .int) (kx_tk_dec rfl dM_look) rfl rfl ?_
                    refine ⟨va_up S1 22 (b01 (evC P sz (fun c => A 5 (4 * (40 * (24 * kn + j) + w1) + c))).2), va_up (va_up (va_up (va_up A1 16 (va_up (A1 16) j (nI (40 * (24 * kn + j) + w1)))) 18 (va_up (A1 18) j 0)) 12 Fs) 18 (va_up (va_up (A1 18) j 0) j 0), 2, rfl, rfl, fun k hk => by simp only [va_up]; rw [if_neg hk]; exact hS1 k hk, fun k h12 h16 h18 => by simp only [va_up]; simp only [if_neg h12, if_neg h16, if_neg h18]; exact hA1 k h12 h16 h18, ?_⟩
                    exact Or.inr (Or.inr ⟨rfl, j, by omega, hvd, fun p hp => (hspec p hp).1⟩)
                · skip
                  replace e107 : ¬ (evC P sz (fun c => A 5 (4 * (40 * (24 * kn + j) + w1) + c))).1 = 0 := e107
                  refine kx_rn dM_look 2 115 [(0, .ref m), (1, .int (nI tn)), (2, .int (nI kn)), (3, .int (nI j)), (4, .int (nI (40 * (24 * kn + j) + w1))), (5, .int (nI (w1 + 1)))] [.int 1, .int (nI j), .ref (m + 18)] rfl ?_
                  refine mh_zs (k := 18) (i := j) (A' := va_up (va_up (va_up (va_up A1 16 (va_up (A1 16) j (nI (40 * (24 * kn + j) + w1)))) 18 (va_up (A1 18) j 0)) 12 Fs) 18 (va_up (va_up (A1 18) j 0) j 1)) rfl (kx_tk_dec rfl dM_look) hm (by show j < 24; omega) rfl rfl ?_
                  refine kx_rn dM_look 1 117 [(0, .ref m), (1, .int (nI tn)), (2, .int (nI kn)), (3, .int (nI j)), (4, .int (nI (40 * (24 * kn + j) + w1))), (5, .int (nI (w1 + 1)))] [.ref m] rfl ?_
                  refine pM_148 (v := .int (b01 (evC P sz (fun c => A 5 (4 * (40 * (24 * kn + j) + w1) + c))).2)) rfl (kx_tk_dec rfl dM_look) (mh_o hm) rfl ?_
                  refine kx_if (tgt := 125) (kx_tk_dec rfl dM_look) rfl (fun e120 => ?_) (fun e120 => ?_)
                  · skip
                    replace e120 : b01 ((evC P sz (fun c => A 5 (4 * (40 * (24 * kn + j) + w1) + c))).2) = 0 := e120
                    replace e120 : (evC P sz (fun c => A 5 (4 * (40 * (24 * kn + j) + w1) + c))).2 = false := b01_f e120
                    refine kx_rn dM_look 2 2 [(0, .ref m), (1, .int (nI tn)), (2, .int (nI kn)), (3, .int ((nI j) + 1)), (4, .int (nI (40 * (24 * kn + j) + w1))), (5, .int (nI (w1 + 1)))] [] rfl ?_
                    rw [show (nI j) + 1 = nI (j + 1) from kn_ad rfl rfl]
                    refine kx_lsub (lv' := [(0, .ref m), (1, .int (nI tn)), (2, .int (nI kn)), (3, .int (nI (j + 1)))]) (.cons₂ _ (.cons₂ _ (.cons₂ _ (.cons₂ _ (.cons _ (.cons _ .slnil)))))) ?_
                    have hvd : vdct V (A 6) (A 5) P sz tn (24 * kn + j) = 1 := by unfold vdct; rw [if_neg (by rw [hWj]; omega), if_neg (by rw [hWj]; exact fun z => z.1 e56), hWj, show w1 + 1 - 1 = w1 from rfl, if_neg (fun z => absurd (hbg0.mpr z) (by rw [e82]; decide)), if_neg (by rw [e120]; decide), if_neg e107]
                    refine ih (j + 1) (va_up S1 22 (b01 (evC P sz (fun c => A 5 (4 * (40 * (24 * kn + j) + w1) + c))).2)) (va_up (va_up (va_up (va_up A1 16 (va_up (A1 16) j (nI (40 * (24 * kn + j) + w1)))) 18 (va_up (A1 18) j 0)) 12 Fs) 18 (va_up (va_up (A1 18) j 0) j 1)) (by omega) (fun k hk => by simp only [va_up]; rw [if_neg hk]; exact hS1 k hk) (fun k h12 h16 h18 => by simp only [va_up]; simp only [if_neg h12, if_neg h16, if_neg h18]; exact hA1 k h12 h16 h18) (fun r hr => ?_)
                    by_cases z : r = j
                    · rw [z]
                      refine ⟨by rw [hvd]; decide, ?_, ?_⟩
                      · show va_up _ j _ j = _; rw [va_up_self, hWj]; rfl
                      · show va_up _ j _ j = _; rw [va_up_self, hvd]; rfl
                    · obtain ⟨z1, z2, z3⟩ := hspec r (by omega)
                      exact ⟨z1, by show va_up _ j _ r = _; rw [va_up_ne _ _ z]; exact z2, by show va_up _ j _ r = _; rw [va_up_ne _ _ z]; first | exact z3 | (rw [va_up_ne _ _ z]; exact z3)⟩
                  · skip
                    replace e120 : ¬ b01 ((evC P sz (fun c => A 5 (4 * (40 * (24 * kn + j) + w1) + c))).2) = 0 := e120
                    replace e120 : (evC P sz (fun c => A 5 (4 * (40 * (24 * kn + j) + w1) + c))).2 = true := b01_t e120
                    refine kx_rn dM_look 1 124 [(0, .ref m), (1, .int (nI tn)), (2, .int (nI kn)), (3, .int (nI j)), (4, .int (nI (40 * (24 * kn + j) + w1))), (5, .int (nI (w1 + 1)))] [.int 2] rfl ?_
                    have hvd : vdct V (A 6) (A 5) P sz tn (24 * kn + j) = 3 := by unfold vdct; rw [if_neg (by rw [hWj]; omega), if_neg (by rw [hWj]; exact fun z => z.1 e56), hWj, show w1 + 1 - 1 = w1 from rfl, if_neg (fun z => absurd (hbg0.mpr z) (by rw [e82]; decide)), if_pos e120]
                    refine kx_ret (ty := .int) (kx_tk_dec rfl dM_look) rfl rfl ?_
                    refine ⟨va_up S1 22 (b01 (evC P sz (fun c => A 5 (4 * (40 * (24 * kn + j) + w1) + c))).2), va_up (va_up (va_up (va_up A1 16 (va_up (A1 16) j (nI (40 * (24 * kn + j) + w1)))) 18 (va_up (A1 18) j 0)) 12 Fs) 18 (va_up (va_up (A1 18) j 0) j 1), 2, rfl, rfl, fun k hk => by simp only [va_up]; rw [if_neg hk]; exact hS1 k hk, fun k h12 h16 h18 => by simp only [va_up]; simp only [if_neg h12, if_neg h16, if_neg h18]; exact hA1 k h12 h16 h18, ?_⟩
                    exact Or.inr (Or.inr ⟨rfl, j, by omega, hvd, fun p hp => (hspec p hp).1⟩)
              · skip
                replace e82 : ¬ b01 bg0 = 0 := e82
                replace e82 : bg0 = true := b01_t e82
                refine kx_rn dM_look 3 2 [(0, .ref m), (1, .int (nI tn)), (2, .int (nI kn)), (3, .int ((nI j) + 1)), (4, .int (nI (40 * (24 * kn + j) + w1))), (5, .int (nI (w1 + 1)))] [] rfl ?_
                rw [show (nI j) + 1 = nI (j + 1) from kn_ad rfl rfl]
                refine kx_lsub (lv' := [(0, .ref m), (1, .int (nI tn)), (2, .int (nI kn)), (3, .int (nI (j + 1)))]) (.cons₂ _ (.cons₂ _ (.cons₂ _ (.cons₂ _ (.cons _ (.cons _ .slnil)))))) ?_
                have hvd : vdct V (A 6) (A 5) P sz tn (24 * kn + j) = 0 := by unfold vdct; rw [if_neg (by rw [hWj]; omega), if_neg (by rw [hWj]; exact fun z => z.1 e56), hWj, show w1 + 1 - 1 = w1 from rfl, if_pos (hbg0.mp e82)]
                refine ih (j + 1) S1 (va_up (va_up A1 16 (va_up (A1 16) j (nI (40 * (24 * kn + j) + w1)))) 18 (va_up (A1 18) j 0)) (by omega) hS1 (fun k h12 h16 h18 => by simp only [va_up]; simp only [if_neg h12, if_neg h16, if_neg h18]; exact hA1 k h12 h16 h18) (fun r hr => ?_)
                by_cases z : r = j
                · rw [z]
                  refine ⟨by rw [hvd]; decide, ?_, ?_⟩
                  · show va_up _ j _ j = _; rw [va_up_self, hWj]; rfl
                  · show va_up _ j _ j = _; rw [va_up_self, hvd]; rfl
                · obtain ⟨z1, z2, z3⟩ := hspec r (by omega)
                  exact ⟨z1, by show va_up _ j _ r = _; rw [va_up_ne _ _ z]; exact z2, by show va_up _ j _ r = _; rw [va_up_ne _ _ z]; first | exact z3 | (rw [va_up_ne _ _ z]; exact z3)⟩
            · skip
              replace e56 : ¬ nI (w1 + 1) = nI tn := e56
              replace e56 : ¬ w1 + 1 = tn := fun z => e56 ((nI_eq (a := w1 + 1) (b := tn) (by omega) (by omega)).mpr z)
              refine kx_rn dM_look 1 60 [(0, .ref m), (1, .int (nI tn)), (2, .int (nI kn)), (3, .int (nI j)), (4, .int (nI (40 * (24 * kn + j) + w1))), (5, .int (nI (w1 + 1)))] [.ref m] rfl ?_
              refine pM_25 (v := .ref (m + 6)) rfl (kx_tk_dec rfl dM_look) (mh_o hm) rfl ?_
              refine kx_rn dM_look 1 65 [(0, .ref m), (1, .int (nI tn)), (2, .int (nI kn)), (3, .int (nI j)), (4, .int (nI (40 * (24 * kn + j) + w1))), (5, .int (nI (w1 + 1)))] [.int (nI (w1 + 1)), .ref (m + 6)] rfl ?_
              refine mh_ld (k := 6) (x := A1 6 (w1 + 1)) (i := w1 + 1) rfl rfl (kx_tk_dec rfl dM_look) hm (by show w1 + 1 < 41; omega) ?_
              rw [hA61]
              refine kx_rn dM_look 1 67 [(0, .ref m), (1, .int (nI tn)), (2, .int (nI kn)), (3, .int (nI j)), (4, .int (nI (40 * (24 * kn + j) + w1))), (5, .int (nI (w1 + 1)))] [.int 1, .int (A 6 (w1 + 1))] rfl ?_
              refine kx_ic (tgt := 72) (kx_tk_dec rfl dM_look) rfl (fun e67 => ?_) (fun e67 => ?_)
              · skip
                replace e67 : ¬ A 6 (w1 + 1) = 1 := e67
                refine kx_rn dM_look 1 73 [(0, .ref m), (1, .int (nI tn)), (2, .int (nI kn)), (3, .int (nI j)), (4, .int (nI (40 * (24 * kn + j) + w1))), (5, .int (nI (w1 + 1)))] [.ref m] rfl ?_
                refine pM_19 (v := .ref (m + 4)) rfl (kx_tk_dec rfl dM_look) (mh_o hm) rfl ?_
                refine kx_rn dM_look 1 78 [(0, .ref m), (1, .int (nI tn)), (2, .int (nI kn)), (3, .int (nI j)), (4, .int (nI (40 * (24 * kn + j) + w1))), (5, .int (nI (w1 + 1)))] [.int (nI (40 * (24 * kn + j) + w1)), .ref (m + 4)] rfl ?_
                refine mh_ld (k := 4) (x := A1 4 (40 * (24 * kn + j) + w1)) (i := 40 * (24 * kn + j) + w1) rfl rfl (kx_tk_dec rfl dM_look) hm (by show 40 * (24 * kn + j) + w1 < 2880; omega) ?_
                rw [hV1 (40 * (24 * kn + j) + w1)]
                have := hV2 (40 * (24 * kn + j) + w1)
                refine cM_159 (as := [.int (nI (V (40 * (24 * kn + j) + w1)))]) (st := []) (mc := 0) (ms := 0) (kc := 0) (ks := 0) rfl (kx_tk_dec rfl dM_look) rfl rfl (Nat.le_of_ble_eq_true rfl) (cM_gone hst) (fun o h' hq => ?_)
                obtain ⟨bg0, rfl, rfl, hbg0⟩ := hq
                show kx_w _ _ _ _ _ _ _ _ _ _ _
                rw [kw_gone (hV2 _)] at hbg0
                refine kx_if (tgt := 88) (kx_tk_dec rfl dM_look) rfl (fun e82 => ?_) (fun e82 => ?_)
                · skip
                  replace e82 : b01 bg0 = 0 := e82
                  replace e82 : bg0 = false := b01_f e82
                  refine kx_rn dM_look 2 90 [(0, .ref m), (1, .int (nI tn)), (2, .int (nI kn)), (3, .int (nI j)), (4, .int (nI (40 * (24 * kn + j) + w1))), (5, .int (nI (w1 + 1)))] [.int 0, .ref m] rfl ?_
                  refine qM_148 rfl (kx_tk_dec rfl dM_look) (mh_o hm) rfl rfl (Nat.le_of_ble_eq_true rfl) ?_
                  rw [mh_p22]
                  refine kx_rn dM_look 1 94 [(0, .ref m), (1, .int (nI tn)), (2, .int (nI kn)), (3, .int (nI j)), (4, .int (nI (40 * (24 * kn + j) + w1))), (5, .int (nI (w1 + 1)))] [.ref m] rfl ?_
                  refine pM_66 (v := .ref (m + 18)) rfl (kx_tk_dec rfl dM_look) (mh_o hm) rfl ?_
                  refine kx_rn dM_look 6 104 [(0, .ref m), (1, .int (nI tn)), (2, .int (nI kn)), (3, .int (nI j)), (4, .int (nI (40 * (24 * kn + j) + w1))), (5, .int (nI (w1 + 1)))] [.int (4 * (nI (40 * (24 * kn + j) + w1))), .int 0, .ref m, .int (nI j), .ref (m + 18)] rfl ?_
                  rw [show 4 * (nI (40 * (24 * kn + j) + w1)) = nI (4 * (40 * (24 * kn + j) + w1)) from kn_mu rfl rfl]
                  have hwk := cM_work (d := d) (row := 0) (S := va_up S1 22 0) (A := va_up (va_up A1 16 (va_up (A1 16) j (nI (40 * (24 * kn + j) + w1)))) 18 (va_up (A1 18) j 0)) (fr := 4 * (40 * (24 * kn + j) + w1)) (dv := false) hst hm rfl (by decide) (by omega) hsz1 hwf hP1
                  rw [show (fun c => (va_up (va_up A1 16 (va_up (A1 16) j (nI (40 * (24 * kn + j) + w1)))) 18 (va_up (A1 18) j 0)) 5 (4 * (40 * (24 * kn + j) + w1) + c)) = (fun c => A 5 (4 * (40 * (24 * kn + j) + w1) + c)) from by funext c; show A1 5 _ = _; rw [hA51]] at hwk
                  simp only [Bool.false_or] at hwk
                  refine cM_162 (as := [.int 0, .int (nI (4 * (40 * (24 * kn + j) + w1)))]) (st := [.int (nI j), .ref (m + 18)]) (mc := 0) (ms := 0) (kc := 0) (ks := 0) rfl (kx_tk_dec rfl dM_look) (mh_o hm) rfl rfl (Nat.le_of_ble_eq_true rfl) (hwk) (fun o h' hq => ?_)
                  obtain ⟨rfl, Fs, rfl⟩ := hq
                  show kx_w _ _ _ _ _ _ _ _ _ _ _
                  rw [va_upup]
                  refine kx_if (tgt := 114) (kx_tk_dec rfl dM_look) rfl (fun e107 => ?_) (fun e107 => ?_)
                  · skip
                    replace e107 : (evC P sz (fun c => A 5 (4 * (40 * (24 * kn + j) + w1) + c))).1 = 0 := e107
                    refine kx_rn dM_look 1 115 [(0, .ref m), (1, .int (nI tn)), (2, .int (nI kn)), (3, .int (nI j)), (4, .int (nI (40 * (24 * kn + j) + w1))), (5, .int (nI (w1 + 1)))] [.int 0, .int (nI j), .ref (m + 18)] rfl ?_
                    refine mh_zs (k := 18) (i := j) (A' := va_up (va_up (va_up (va_up A1 16 (va_up (A1 16) j (nI (40 * (24 * kn + j) + w1)))) 18 (va_up (A1 18) j 0)) 12 Fs) 18 (va_up (va_up (A1 18) j 0) j 0)) rfl (kx_tk_dec rfl dM_look) hm (by show j < 24; omega) rfl rfl ?_
                    refine kx_rn dM_look 1 117 [(0, .ref m), (1, .int (nI tn)), (2, .int (nI kn)), (3, .int (nI j)), (4, .int (nI (40 * (24 * kn + j) + w1))), (5, .int (nI (w1 + 1)))] [.ref m] rfl ?_
                    refine pM_148 (v := .int (b01 (evC P sz (fun c => A 5 (4 * (40 * (24 * kn + j) + w1) + c))).2)) rfl (kx_tk_dec rfl dM_look) (mh_o hm) rfl ?_
                    refine kx_if (tgt := 125) (kx_tk_dec rfl dM_look) rfl (fun e120 => ?_) (fun e120 => ?_)
                    · skip
                      replace e120 : b01 ((evC P sz (fun c => A 5 (4 * (40 * (24 * kn + j) + w1) + c))).2) = 0 := e120
                      replace e120 : (evC P sz (fun c => A 5 (4 * (40 * (24 * kn + j) + w1) + c))).2 = false := b01_f e120
                      refine kx_rn dM_look 2 2 [(0, .ref m), (1, .int (nI tn)), (2, .int (nI kn)), (3, .int ((nI j) + 1)), (4, .int (nI (40 * (24 * kn + j) + w1))), (5, .int (nI (w1 + 1)))] [] rfl ?_
                      rw [show (nI j) + 1 = nI (j + 1) from kn_ad rfl rfl]
                      refine kx_lsub (lv' := [(0, .ref m), (1, .int (nI tn)), (2, .int (nI kn)), (3, .int (nI (j + 1)))]) (.cons₂ _ (.cons₂ _ (.cons₂ _ (.cons₂ _ (.cons _ (.cons _ .slnil)))))) ?_
                      have hvd : vdct V (A 6) (A 5) P sz tn (24 * kn + j) = 0 := by unfold vdct; rw [if_neg (by rw [hWj]; omega), if_neg (by rw [hWj]; exact fun z => e67 z.2), hWj, show w1 + 1 - 1 = w1 from rfl, if_neg (fun z => absurd (hbg0.mpr z) (by rw [e82]; decide)), if_neg (by rw [e120]; decide), if_pos e107]
                      refine ih (j + 1) (va_up S1 22 (b01 (evC P sz (fun c => A 5 (4 * (40 * (24 * kn + j) + w1) + c))).2)) (va_up (va_up (va_up (va_up A1 16 (va_up (A1 16) j (nI (40 * (24 * kn + j) + w1)))) 18 (va_up (A1 18) j 0)) 12 Fs) 18 (va_up (va_up (A1 18) j 0) j 0)) (by omega) (fun k hk => by simp only [va_up]; rw [if_neg hk]; exact hS1 k hk) (fun k h12 h16 h18 => by simp only [va_up]; simp only [if_neg h12, if_neg h16, if_neg h18]; exact hA1 k h12 h16 h18) (fun r hr => ?_)
                      by_cases z : r = j
                      · rw [z]
                        refine ⟨by rw [hvd]; decide, ?_, ?_⟩
                        · show va_up _ j _ j = _; rw [va_up_self, hWj]; rfl
                        · show va_up _ j _ j = _; rw [va_up_self, hvd]; rfl
                      · obtain ⟨z1, z2, z3⟩ := hspec r (by omega)
                        exact ⟨z1, by show va_up _ j _ r = _; rw [va_up_ne _ _ z]; exact z2, by show va_up _ j _ r = _; rw [va_up_ne _ _ z]; first | exact z3 | (rw [va_up_ne _ _ z]; exact z3)⟩
                    · skip
                      replace e120 : ¬ b01 ((evC P sz (fun c => A 5 (4 * (40 * (24 * kn + j) + w1) + c))).2) = 0 := e120
                      replace e120 : (evC P sz (fun c => A 5 (4 * (40 * (24 * kn + j) + w1) + c))).2 = true := b01_t e120
                      refine kx_rn dM_look 1 124 [(0, .ref m), (1, .int (nI tn)), (2, .int (nI kn)), (3, .int (nI j)), (4, .int (nI (40 * (24 * kn + j) + w1))), (5, .int (nI (w1 + 1)))] [.int 2] rfl ?_
                      have hvd : vdct V (A 6) (A 5) P sz tn (24 * kn + j) = 3 := by unfold vdct; rw [if_neg (by rw [hWj]; omega), if_neg (by rw [hWj]; exact fun z => e67 z.2), hWj, show w1 + 1 - 1 = w1 from rfl, if_neg (fun z => absurd (hbg0.mpr z) (by rw [e82]; decide)), if_pos e120]
                      refine kx_ret (ty := .int) (kx_tk_dec rfl dM_look) rfl rfl ?_
                      refine ⟨va_up S1 22 (b01 (evC P sz (fun c => A 5 (4 * (40 * (24 * kn + j) + w1) + c))).2), va_up (va_up (va_up (va_up A1 16 (va_up (A1 16) j (nI (40 * (24 * kn + j) + w1)))) 18 (va_up (A1 18) j 0)) 12 Fs) 18 (va_up (va_up (A1 18) j 0) j 0), 2, rfl, rfl, fun k hk => by simp only [va_up]; rw [if_neg hk]; exact hS1 k hk, fun k h12 h16 h18 => by simp only [va_up]; simp only [if_neg h12, if_neg h16, if_neg h18]; exact hA1 k h12 h16 h18, ?_⟩
                      exact Or.inr (Or.inr ⟨rfl, j, by omega, hvd, fun p hp => (hspec p hp).1⟩)
                  · skip
                    replace e107 : ¬ (evC P sz (fun c => A 5 (4 * (40 * (24 * kn + j) + w1) + c))).1 = 0 := e107
                    refine kx_rn dM_look 2 115 [(0, .ref m), (1, .int (nI tn)), (2, .int (nI kn)), (3, .int (nI j)), (4, .int (nI (40 * (24 * kn + j) + w1))), (5, .int (nI (w1 + 1)))] [.int 1, .int (nI j), .ref (m + 18)] rfl ?_
                    refine mh_zs (k := 18) (i := j) (A' := va_up (va_up (va_up (va_up A1 16 (va_up (A1 16) j (nI (40 * (24 * kn + j) + w1)))) 18 (va_up (A1 18) j 0)) 12 Fs) 18 (va_up (va_up (A1 18) j 0) j 1)) rfl (kx_tk_dec rfl dM_look) hm (by show j < 24; omega) rfl rfl ?_
                    refine kx_rn dM_look 1 117 [(0, .ref m), (1, .int (nI tn)), (2, .int (nI kn)), (3, .int (nI j)), (4, .int (nI (40 * (24 * kn + j) + w1))), (5, .int (nI (w1 + 1)))] [.ref m] rfl ?_
                    refine pM_148 (v := .int (b01 (evC P sz (fun c => A 5 (4 * (40 * (24 * kn + j) + w1) + c))).2)) rfl (kx_tk_dec rfl dM_look) (mh_o hm) rfl ?_
                    refine kx_if (tgt := 125) (kx_tk_dec rfl dM_look) rfl (fun e120 => ?_) (fun e120 => ?_)
                    · skip
                      replace e120 : b01 ((evC P sz (fun c => A 5 (4 * (40 * (24 * kn + j) + w1) + c))).2) = 0 := e120
                      replace e120 : (evC P sz (fun c => A 5 (4 * (40 * (24 * kn + j) + w1) + c))).2 = false := b01_f e120
                      refine kx_rn dM_look 2 2 [(0, .ref m), (1, .int (nI tn)), (2, .int (nI kn)), (3, .int ((nI j) + 1)), (4, .int (nI (40 * (24 * kn + j) + w1))), (5, .int (nI (w1 + 1)))] [] rfl ?_
                      rw [show (nI j) + 1 = nI (j + 1) from kn_ad rfl rfl]
                      refine kx_lsub (lv' := [(0, .ref m), (1, .int (nI tn)), (2, .int (nI kn)), (3, .int (nI (j + 1)))]) (.cons₂ _ (.cons₂ _ (.cons₂ _ (.cons₂ _ (.cons _ (.cons _ .slnil)))))) ?_
                      have hvd : vdct V (A 6) (A 5) P sz tn (24 * kn + j) = 1 := by unfold vdct; rw [if_neg (by rw [hWj]; omega), if_neg (by rw [hWj]; exact fun z => e67 z.2), hWj, show w1 + 1 - 1 = w1 from rfl, if_neg (fun z => absurd (hbg0.mpr z) (by rw [e82]; decide)), if_neg (by rw [e120]; decide), if_neg e107]
                      refine ih (j + 1) (va_up S1 22 (b01 (evC P sz (fun c => A 5 (4 * (40 * (24 * kn + j) + w1) + c))).2)) (va_up (va_up (va_up (va_up A1 16 (va_up (A1 16) j (nI (40 * (24 * kn + j) + w1)))) 18 (va_up (A1 18) j 0)) 12 Fs) 18 (va_up (va_up (A1 18) j 0) j 1)) (by omega) (fun k hk => by simp only [va_up]; rw [if_neg hk]; exact hS1 k hk) (fun k h12 h16 h18 => by simp only [va_up]; simp only [if_neg h12, if_neg h16, if_neg h18]; exact hA1 k h12 h16 h18) (fun r hr => ?_)
                      by_cases z : r = j
                      · rw [z]
                        refine ⟨by rw [hvd]; decide, ?_, ?_⟩
                        · show va_up _ j _ j = _; rw [va_up_self, hWj]; rfl
                        · show va_up _ j _ j = _; rw [va_up_self, hvd]; rfl
                      · obtain ⟨z1, z2, z3⟩ := hspec r (by omega)
                        exact ⟨z1, by show va_up _ j _ r = _; rw [va_up_ne _ _ z]; exact z2, by show va_up _ j _ r = _; rw [va_up_ne _ _ z]; first | exact z3 | (rw [va_up_ne _ _ z]; exact z3)⟩
                    · skip
                      replace e120 : ¬ b01 ((evC P sz (fun c => A 5 (4 * (40 * (24 * kn + j) + w1) + c))).2) = 0 := e120
                      replace e120 : (evC P sz (fun c => A 5 (4 * (40 * (24 * kn + j) + w1) + c))).2 = true := b01_t e120
                      refine kx_rn dM_look 1 124 [(0, .ref m), (1, .int (nI tn)), (2, .int (nI kn)), (3, .int (nI j)), (4, .int (nI (40 * (24 * kn + j) + w1))), (5, .int (nI (w1 + 1)))] [.int 2] rfl ?_
                      have hvd : vdct V (A 6) (A 5) P sz tn (24 * kn + j) = 3 := by unfold vdct; rw [if_neg (by rw [hWj]; omega), if_neg (by rw [hWj]; exact fun z => e67 z.2), hWj, show w1 + 1 - 1 = w1 from rfl, if_neg (fun z => absurd (hbg0.mpr z) (by rw [e82]; decide)), if_pos e120]
                      refine kx_ret (ty := .int) (kx_tk_dec rfl dM_look) rfl rfl ?_
                      refine ⟨va_up S1 22 (b01 (evC P sz (fun c => A 5 (4 * (40 * (24 * kn + j) + w1) + c))).2), va_up (va_up (va_up (va_up A1 16 (va_up (A1 16) j (nI (40 * (24 * kn + j) + w1)))) 18 (va_up (A1 18) j 0)) 12 Fs) 18 (va_up (va_up (A1 18) j 0) j 1), 2, rfl, rfl, fun k hk => by simp only [va_up]; rw [if_neg hk]; exact hS1 k hk, fun k h12 h16 h18 => by simp only [va_up]; simp only [if_neg h12, if_neg h16, if_neg h18]; exact hA1 k h12 h16 h18, ?_⟩
                      exact Or.inr (Or.inr ⟨rfl, j, by omega, hvd, fun p hp => (hspec p hp).1⟩)
                · skip
                  replace e82 : ¬ b01 bg0 = 0 := e82
                  replace e82 : bg0 = true := b01_t e82
                  refine kx_rn dM_look 3 2 [(0, .ref m), (1, .int (nI tn)), (2, .int (nI kn)), (3, .int ((nI j) + 1)), (4, .int (nI (40 * (24 * kn + j) + w1))), (5, .int (nI (w1 + 1)))] [] rfl ?_
                  rw [show (nI j) + 1 = nI (j + 1) from kn_ad rfl rfl]
                  refine kx_lsub (lv' := [(0, .ref m), (1, .int (nI tn)), (2, .int (nI kn)), (3, .int (nI (j + 1)))]) (.cons₂ _ (.cons₂ _ (.cons₂ _ (.cons₂ _ (.cons _ (.cons _ .slnil)))))) ?_
                  have hvd : vdct V (A 6) (A 5) P sz tn (24 * kn + j) = 0 := by unfold vdct; rw [if_neg (by rw [hWj]; omega), if_neg (by rw [hWj]; exact fun z => e67 z.2), hWj, show w1 + 1 - 1 = w1 from rfl, if_pos (hbg0.mp e82)]
                  refine ih (j + 1) S1 (va_up (va_up A1 16 (va_up (A1 16) j (nI (40 * (24 * kn + j) + w1)))) 18 (va_up (A1 18) j 0)) (by omega) hS1 (fun k h12 h16 h18 => by simp only [va_up]; simp only [if_neg h12, if_neg h16, if_neg h18]; exact hA1 k h12 h16 h18) (fun r hr => ?_)
                  by_cases z : r = j
                  · rw [z]
                    refine ⟨by rw [hvd]; decide, ?_, ?_⟩
                    · show va_up _ j _ j = _; rw [va_up_self, hWj]; rfl
                    · show va_up _ j _ j = _; rw [va_up_self, hvd]; rfl
                  · obtain ⟨z1, z2, z3⟩ := hspec r (by omega)
                    exact ⟨z1, by show va_up _ j _ r = _; rw [va_up_ne _ _ z]; exact z2, by show va_up _ j _ r = _; rw [va_up_ne _ _ z]; first | exact z3 | (rw [va_up_ne _ _ z]; exact z3)⟩
              · skip
                replace e67 : A 6 (w1 + 1) = 1 := e67
                refine kx_rn dM_look 1 71 [(0, .ref m), (1, .int (nI tn)), (2, .int (nI kn)), (3, .int (nI j)), (4, .int (nI (40 * (24 * kn + j) + w1))), (5, .int (nI (w1 + 1)))] [.int 1] rfl ?_
                have hvd : vdct V (A 6) (A 5) P sz tn (24 * kn + j) = 2 := by unfold vdct; rw [if_neg (by rw [hWj]; omega), if_pos (by rw [hWj]; exact ⟨e56, e67⟩)]
                refine kx_ret (ty := .int) (kx_tk_dec rfl dM_look) rfl rfl ?_
                refine ⟨S1, va_up (va_up A1 16 (va_up (A1 16) j (nI (40 * (24 * kn + j) + w1)))) 18 (va_up (A1 18) j 0), 1, rfl, rfl, hS1, fun k h12 h16 h18 => by simp only [va_up]; simp only [if_neg h12, if_neg h16, if_neg h18]; exact hA1 k h12 h16 h18, ?_⟩
                exact Or.inr (Or.inl ⟨rfl, j, by omega, hvd, fun p hp => (hspec p hp).1⟩)
          · skip
            replace e38 : ¬ 0 ≤ nI (40 * (24 * kn + j) + w1) := e38
            replace e38 : ¬ 0 ≤ 40 * (24 * kn + j) + w1 := fun z => e38 ((nI_leI (a := 0) (b := 40 * (24 * kn + j) + w1) (by omega) (by omega)).mpr z)
            exfalso; omega
  refine kx_rn dM_look 2 2 [(0, .ref m), (1, .int (nI tn)), (2, .int (nI kn)), (3, .int 0)] [] rfl ?_
  exact loop rw 0 S A (by omega) (fun _ _ => rfl) (fun _ _ _ _ => rfl) (fun r hr => absurd hr (by omega))
end KM8
