/-! ===== the reference: conditions ===== -/
section KM15
variable {G : kx_G} {l : Launch} {d : Nat} {h0 : kx_H} {m : Nat} {S : Nat → Int32} {A : Nat → Nat → Int32}
theorem gP_stop {tx : Nat → Int32} {ln o a : Nat} {O W : List Int32} (h1 : ¬ kCur tx ln a = 40) (h2 : ¬ kCur tx ln a = 33) : gP tx ln o a O W = (true, a, O, W) := by
  cases o with
  | zero => simp only [gP]; rw [if_neg (fun z => z.elim h1 h2)]
  | succ o => simp only [gP]; rw [if_neg h1, if_neg h2]
theorem gP_full {tx : Nat → Int32} {ln a : Nat} {O W : List Int32} (h : kCur tx ln a = 40 ∨ kCur tx ln a = 33) : gP tx ln 0 a O W = (false, a, O, W) := by simp only [gP]; rw [if_pos h]
theorem gP_br {tx : Nat → Int32} {ln o a : Nat} {O W : List Int32} (h : kCur tx ln a = 40) : gP tx ln (o + 1) a O W = gP tx ln o (a + 1) (40 :: O) (40 :: W) := by simp only [gP]; rw [if_pos h]
theorem gP_no {tx : Nat → Int32} {ln o a : Nat} {O W : List Int32} (h : kCur tx ln a = 33) : gP tx ln (o + 1) a O W = gP tx ln o (a + 1) (33 :: O) W := by simp only [gP]; rw [if_neg (by rw [h]; decide), if_pos h]
/-- how many signs wait -/
def cj : List Int32 → Nat
  | [] => 0
  | w :: W => if w = 40 then cj W else cj W + 1
theorem gP_gd {tx : Nat → Int32} {ln : Nat} : ∀ o a O W, a ≤ ln → O.length + o = 5 → a ≤ (gP tx ln o a O W).2.1 ∧ (gP tx ln o a O W).2.1 ≤ ln ∧ (gP tx ln o a O W).2.2.1.length ≤ 5 ∧ (gP tx ln o a O W).2.2.1.length + cj (gP tx ln o a O W).2.2.2 + a ≤ O.length + cj W + (gP tx ln o a O W).2.1 ∧ (gP tx ln o a O W).2.2.2.length + a ≤ W.length + (gP tx ln o a O W).2.1
  | o, a, O, W, ha, ho => by
    by_cases e1 : kCur tx ln a = 40
    · have hlt : a < ln := Nat.lt_of_not_le fun z => by rw [kCur_out (by omega)] at e1; exact absurd e1 (by decide)
      cases o with
      | zero => rw [gP_full (Or.inl e1)]; exact ⟨Nat.le_refl _, ha, by simp only; omega, Nat.le_refl _, Nat.le_refl _⟩
      | succ o =>
        rw [gP_br e1]
        obtain ⟨h1, h2, h3, h4, h5⟩ := gP_gd (tx := tx) (ln := ln) o (a + 1) (40 :: O) (40 :: W) hlt (by simp only [List.length_cons]; omega)
        simp only [List.length_cons, show cj (40 :: W) = cj W from rfl] at h4 h5
        exact ⟨by omega, h2, h3, by omega, by omega⟩
    · by_cases e2 : kCur tx ln a = 33
      · have hlt : a < ln := Nat.lt_of_not_le fun z => by rw [kCur_out (by omega)] at e2; exact absurd e2 (by decide)
        cases o with
        | zero => rw [gP_full (Or.inr e2)]; exact ⟨Nat.le_refl _, ha, by simp only; omega, Nat.le_refl _, Nat.le_refl _⟩
        | succ o =>
          rw [gP_no e2]
          obtain ⟨h1, h2, h3, h4, h5⟩ := gP_gd (tx := tx) (ln := ln) o (a + 1) (33 :: O) W hlt (by simp only [List.length_cons]; omega)
          simp only [List.length_cons] at h4 h5
          exact ⟨by omega, h2, h3, by omega, by omega⟩
      · rw [gP_stop e1 e2]; exact ⟨Nat.le_refl _, ha, by simp only; omega, Nat.le_refl _, Nat.le_refl _⟩
theorem gJ_gd (es O : List Int32) (W : List Int32) : (gJ es O W).1.length + (gJ es O W).2.1.length + cj (gJ es O W).2.2 ≤ es.length + O.length + cj W ∧ (gJ es O W).2.1 = O ∧ (gJ es O W).2.2.length ≤ W.length := by
  cases W with
  | nil => exact ⟨Nat.le_refl _, rfl, Nat.le_refl _⟩
  | cons w W =>
    simp only [gJ]
    by_cases e : w = 40
    · rw [if_pos e]; exact ⟨Nat.le_refl _, rfl, Nat.le_refl _⟩
    · rw [if_neg e]
      refine ⟨?_, rfl, by simp⟩
      simp only [cj, if_neg e, List.length_append, List.length_cons, List.length_nil]
      omega
theorem gE_gd : ∀ (es O W : List Int32), (gE es O W).1.length + (gE es O W).2.1.length + cj (gE es O W).2.2 ≤ es.length + O.length + cj W ∧ (gE es O W).2.1.length ≤ O.length ∧ (gE es O W).2.2.length ≤ W.length
  | es, [], W => by
    obtain ⟨h1, h2, h3⟩ := gJ_gd es [] W
    exact ⟨h1, by simp only [gE]; rw [h2]; exact Nat.le_refl _, h3⟩
  | es, x :: O, W => by
    simp only [gE]
    by_cases e : x = 33
    · rw [if_pos e]
      obtain ⟨h1, h2, h3⟩ := gE_gd (es ++ [-133]) O W
      simp only [List.length_append, List.length_cons, List.length_nil] at h1 ⊢
      exact ⟨by omega, by omega, h3⟩
    · rw [if_neg e]
      obtain ⟨h1, h2, h3⟩ := gJ_gd es (x :: O) W
      exact ⟨h1, by rw [h2]; exact Nat.le_refl _, h3⟩
/-- the reference between two parts -/
def mST (S : Nat → Int32) (A : Nat → Nat → Int32) (ln a : Nat) (es O W : List Int32) : Prop := S 10 = nI ln ∧ S 18 = nI a ∧ S 19 = nI es.length ∧ S 17 = nI O.length ∧ S 20 = nI W.length ∧ atL (A 8) 220 es ∧ stk (A 11) O ∧ stk (A 13) W
/-- what stays -/
def mFR (S : Nat → Int32) (A : Nat → Nat → Int32) (S1 : Nat → Int32) (A1 : Nat → Nat → Int32) : Prop := (∀ k, k ≠ 17 → k ≠ 18 → k ≠ 19 → k ≠ 20 → S1 k = S k) ∧ (∀ k, k ≠ 8 → k ≠ 11 → k ≠ 13 → A1 k = A k) ∧ ∀ i, i < 220 → A1 8 i = A 8 i
theorem mFR_r (S : Nat → Int32) (A : Nat → Nat → Int32) : mFR S A S A := ⟨fun _ _ _ _ _ => rfl, fun _ _ _ _ => rfl, fun _ _ => rfl⟩
theorem mFR_t {S S1 S2 : Nat → Int32} {A A1 A2 : Nat → Nat → Int32} (h1 : mFR S A S1 A1) (h2 : mFR S1 A1 S2 A2) : mFR S A S2 A2 := ⟨fun k a b c e => by rw [h2.1 k a b c e, h1.1 k a b c e], fun k a b c => by rw [h2.2.1 k a b c, h1.2.1 k a b c], fun i hi => by rw [h2.2.2 i hi, h1.2.2 i hi]⟩
theorem mFR_S {S S1 : Nat → Int32} {A A1 : Nat → Nat → Int32} (h : mFR S A S1 A1) {k : Nat} {v : Int32} (hk : k = 17 ∨ k = 18 ∨ k = 19 ∨ k = 20) : mFR S A (va_up S1 k v) A1 := ⟨fun j a b c e => by rw [va_up_ne _ _ (by omega)]; exact h.1 j a b c e, h.2⟩
theorem mFR_A {S S1 : Nat → Int32} {A A1 : Nat → Nat → Int32} (h : mFR S A S1 A1) {k : Nat} {g : Nat → Int32} (hk : k = 11 ∨ k = 13) : mFR S A S1 (va_up A1 k g) := ⟨h.1, fun j a b c => by rw [va_up_ne _ _ (by omega)]; exact h.2.1 j a b c, fun i hi => by rw [va_up_ne _ _ (by omega)]; exact h.2.2 i hi⟩
theorem mFR_8 {S S1 : Nat → Int32} {A A1 : Nat → Nat → Int32} (h : mFR S A S1 A1) {k : Nat} {v : Int32} (hk : 220 ≤ k) : mFR S A S1 (va_up A1 8 (va_up (A1 8) k v)) := ⟨h.1, fun j a b c => by rw [va_up_ne _ _ a]; exact h.2.1 j a b c, fun i hi => by rw [va_up_self, va_up_ne _ _ (by omega)]; exact h.2.2 i hi⟩
theorem atL_add {F : Nat → Int32} {b : Nat} {es : List Int32} {x : Int32} (h : atL F b es) : atL (va_up F (b + es.length) x) b (es ++ [x]) := atL_app (atL_keep h (fun i hi => va_up_ne _ _ (by omega))) (atL_one (va_up_self _ _ _))
/-- what a part leaves -/
def partQ (h0 : kx_H) (m : Nat) (S : Nat → Int32) (A : Nat → Nat → Int32) (ln : Nat) (es : List Int32) (g : Bool × Nat × List Int32 × List Int32) : Outcome → kx_H → Prop := fun o h' => ∃ (S1 : Nat → Int32) (A1 : Nat → Nat → Int32) (b : Bool), o = .returned (some (.int (b01 b))) ∧ h' = mH h0 m S1 A1 ∧ mFR S A S1 A1 ∧ ((g.1 = false ∧ b = false ∧ S1 18 = nI g.2.1) ∨ (g.1 = true ∧ b = (rComp (A 7) ln g.2.1).1 ∧ S1 18 = nI (rComp (A 7) ln g.2.1).2.1 ∧ (b = true → mST S1 A1 ln (rComp (A 7) ln g.2.1).2.1 (es ++ (rComp (A 7) ln g.2.1).2.2) g.2.2.1 g.2.2.2)))
set_option maxRecDepth 100000 in
theorem cM_part {ln at0 : Nat} {es O W : List Int32} {g : Bool × Nat × List Int32 × List Int32} (hst : l.stackTraces = false) (hm : mOk G h0 m) (hln : ln ≤ 40) (hat : at0 ≤ ln) (ho : O.length ≤ 5) (hw2 : W.length ≤ at0) (hn : es.length ≤ at0) (hms : mST S A ln at0 es O W) (hg : gP (A 7) ln (5 - O.length) at0 O W = g) :
    kx_c G l mM_part (d + 4) 0 0 [.ref m] (mH h0 m S A) (partQ h0 m S A ln es g) := by
  refine kx_in (by decide +kernel) (Nat.le_of_ble_eq_true rfl) hst ?_
  have loop : ∀ o (b : Nat) (O W : List Int32) (S2 : Nat → Int32) (A2 : Nat → Nat → Int32), O.length + o = 5 → b ≤ ln → O.length ≤ 5 → W.length ≤ b → es.length ≤ b → mFR S A S2 A2 → mST S2 A2 ln b es O W → gP (A 7) ln o b O W = g → kx_w G l mM_part (d + 4) (partQ h0 m S A ln es g) 0 0 0 [(0, .ref m)] [] (mH h0 m S2 A2) := by
    intro o
    induction o with
    | zero =>
      intro b O W S2 A2 hb hbl ho hw2 hn hfr hms hg
      obtain ⟨p10, p18, p19, p17, p20, pL, pO, pW⟩ := id hms
      have q7 : A2 7 = A 7 := hfr.2.1 7 (by decide) (by decide) (by decide)
      have e0 : (0 : Nat) = 0 := rfl
      refine kx_rn dM_part 1 1 [(0, .ref m)] [.ref m] rfl ?_
      refine pM_96 (v := .int (S2 18)) rfl (kx_tk_dec rfl dM_part) (mh_o hm) rfl ?_
      rw [p18]
      refine kx_rn dM_part 1 5 [(0, .ref m)] [.ref m, .int (nI b)] rfl ?_
      refine pM_90 (v := .int (S2 10)) rfl (kx_tk_dec rfl dM_part) (mh_o hm) rfl ?_
      rw [p10]
      refine kx_ic (tgt := 110) (kx_tk_dec rfl dM_part) rfl (fun e8 => ?_) (fun e8 => ?_)
      · skip
        replace e8 : nI ln ≤ nI b := e8
        replace e8 : ln ≤ b := (nI_leI (a := ln) (b := b) (by omega) (by omega)).mp e8
        have hgg : g = (true, b, O, W) := by rw [← hg]; exact gP_stop (by rw [kCur_out (by omega)]; decide) (by rw [kCur_out (by omega)]; decide)
        refine kx_rn dM_part 1 111 [(0, .ref m)] [.ref m] rfl ?_
        have hit := cM_comparison (d := d) (S := S2) (A := A2) (ln := ln) (at0 := b) (n := es.length) hst hm p10 hln p18 hbl p19 (by omega)
        rw [q7] at hit
        refine cM_122 (as := []) (st := []) (mc := 0) (ms := 0) (kc := 0) (ks := 0) rfl (kx_tk_dec rfl dM_part) (mh_o hm) rfl rfl (Nat.le_of_ble_eq_true rfl) (hit) (fun o h' hq => ?_)
        obtain ⟨S3, A3, rfl, rfl, hp3⟩ := hq
        show kx_w _ _ _ _ _ _ _ _ _ _ _
        refine kx_ret (ty := .boolean) (kx_tk_dec rfl dM_part) rfl (b01_nr _) ?_
        rw [hgg]
        obtain ⟨y18, yS, yA, y8, y19⟩ := id hp3
        refine ⟨S3, A3, _, rfl, rfl, mFR_t hfr ⟨fun k z1 z2 z3 z4 => yS k z2 z3, fun k z1 z2 z3 => yA k z1, fun i hi => y8 i (by omega)⟩, Or.inr ⟨rfl, rfl, y18, fun z => ?_⟩⟩
        obtain ⟨y19, y8l⟩ := y19 z
        refine ⟨by rw [yS 10 (by decide) (by decide)]; exact p10, y18, ?_, by rw [yS 17 (by decide) (by decide)]; exact p17, by rw [yS 20 (by decide) (by decide)]; exact p20, ?_, by rw [yA 11 (by decide)]; exact pO, by rw [yA 13 (by decide)]; exact pW⟩
        · rw [y19, List.length_append]
        · exact atL_app (atL_keep pL (fun i hi => y8 i (by omega))) y8l
      · skip
        replace e8 : ¬ nI ln ≤ nI b := e8
        replace e8 : ¬ ln ≤ b := fun z => e8 ((nI_leI (a := ln) (b := b) (by omega) (by omega)).mpr z)
        refine kx_rn dM_part 1 12 [(0, .ref m)] [.ref m] rfl ?_
        refine pM_28 (v := .ref (m + 7)) rfl (kx_tk_dec rfl dM_part) (mh_o hm) rfl ?_
        refine kx_rn dM_part 1 16 [(0, .ref m)] [.ref m, .ref (m + 7)] rfl ?_
        refine pM_96 (v := .int (S2 18)) rfl (kx_tk_dec rfl dM_part) (mh_o hm) rfl ?_
        rw [p18]
        refine mh_ld (k := 7) (x := A2 7 b) (i := b) rfl rfl (kx_tk_dec rfl dM_part) hm (by show b < 40; omega) ?_
        rw [q7]
        refine kx_rn dM_part 1 22 [(0, .ref m)] [.int 33, .int (A 7 b)] rfl ?_
        refine kx_ic (tgt := 39) (kx_tk_dec rfl dM_part) rfl (fun e22 => ?_) (fun e22 => ?_)
        · skip
          replace e22 : A 7 b = 33 := e22
          refine kx_rn dM_part 1 40 [(0, .ref m)] [.ref m] rfl ?_
          refine pM_110 (v := .int (S2 17)) rfl (kx_tk_dec rfl dM_part) (mh_o hm) rfl ?_
          rw [p17]
          refine kx_rn dM_part 1 44 [(0, .ref m)] [.int 5, .int (nI O.length)] rfl ?_
          refine kx_ic (tgt := 49) (kx_tk_dec rfl dM_part) rfl (fun e44 => ?_) (fun e44 => ?_)
          · skip
            replace e44 : ¬ nI O.length = 5 := e44
            replace e44 : ¬ O.length = 5 := fun z => e44 ((nI_eq (a := O.length) (b := 5) (by omega) (by omega)).mpr z)
            exact absurd (show O.length = 5 by omega) e44
          · skip
            replace e44 : nI O.length = 5 := e44
            replace e44 : O.length = 5 := (nI_eq (a := O.length) (b := 5) (by omega) (by omega)).mp e44
            refine kx_rn dM_part 1 48 [(0, .ref m)] [.int 0] rfl ?_
            refine kx_ret (ty := .boolean) (kx_tk_dec rfl dM_part) rfl rfl ?_
            have hgg : g = (false, b, O, W) := by rw [← hg]; exact gP_full (by rw [kCur_in (by omega)]; exact Or.inr e22)
            rw [hgg]
            exact ⟨S2, A2, false, rfl, rfl, hfr, Or.inl ⟨rfl, rfl, p18⟩⟩
        · skip
          replace e22 : ¬ A 7 b = 33 := e22
          refine kx_rn dM_part 1 26 [(0, .ref m)] [.ref m] rfl ?_
          refine pM_28 (v := .ref (m + 7)) rfl (kx_tk_dec rfl dM_part) (mh_o hm) rfl ?_
          refine kx_rn dM_part 1 30 [(0, .ref m)] [.ref m, .ref (m + 7)] rfl ?_
          refine pM_96 (v := .int (S2 18)) rfl (kx_tk_dec rfl dM_part) (mh_o hm) rfl ?_
          rw [p18]
          refine mh_ld (k := 7) (x := A2 7 b) (i := b) rfl rfl (kx_tk_dec rfl dM_part) hm (by show b < 40; omega) ?_
          rw [q7]
          refine kx_rn dM_part 1 36 [(0, .ref m)] [.int 40, .int (A 7 b)] rfl ?_
          refine kx_ic (tgt := 110) (kx_tk_dec rfl dM_part) rfl (fun e36 => ?_) (fun e36 => ?_)
          · skip
            replace e36 : ¬ A 7 b = 40 := e36
            have hgg : g = (true, b, O, W) := by rw [← hg]; exact gP_stop (by rw [kCur_in (by omega)]; exact e36) (by rw [kCur_in (by omega)]; exact e22)
            refine kx_rn dM_part 1 111 [(0, .ref m)] [.ref m] rfl ?_
            have hit := cM_comparison (d := d) (S := S2) (A := A2) (ln := ln) (at0 := b) (n := es.length) hst hm p10 hln p18 hbl p19 (by omega)
            rw [q7] at hit
            refine cM_122 (as := []) (st := []) (mc := 0) (ms := 0) (kc := 0) (ks := 0) rfl (kx_tk_dec rfl dM_part) (mh_o hm) rfl rfl (Nat.le_of_ble_eq_true rfl) (hit) (fun o h' hq => ?_)
            obtain ⟨S3, A3, rfl, rfl, hp3⟩ := hq
            show kx_w _ _ _ _ _ _ _ _ _ _ _
            refine kx_ret (ty := .boolean) (kx_tk_dec rfl dM_part) rfl (b01_nr _) ?_
            rw [hgg]
            obtain ⟨y18, yS, yA, y8, y19⟩ := id hp3
            refine ⟨S3, A3, _, rfl, rfl, mFR_t hfr ⟨fun k z1 z2 z3 z4 => yS k z2 z3, fun k z1 z2 z3 => yA k z1, fun i hi => y8 i (by omega)⟩, Or.inr ⟨rfl, rfl, y18, fun z => ?_⟩⟩
            obtain ⟨y19, y8l⟩ := y19 z
            refine ⟨by rw [yS 10 (by decide) (by decide)]; exact p10, y18, ?_, by rw [yS 17 (by decide) (by decide)]; exact p17, by rw [yS 20 (by decide) (by decide)]; exact p20, ?_, by rw [yA 11 (by decide)]; exact pO, by rw [yA 13 (by decide)]; exact pW⟩
            · rw [y19, List.length_append]
            · exact atL_app (atL_keep pL (fun i hi => y8 i (by omega))) y8l
          · skip
            replace e36 : A 7 b = 40 := e36
            refine kx_rn dM_part 1 40 [(0, .ref m)] [.ref m] rfl ?_
            refine pM_110 (v := .int (S2 17)) rfl (kx_tk_dec rfl dM_part) (mh_o hm) rfl ?_
            rw [p17]
            refine kx_rn dM_part 1 44 [(0, .ref m)] [.int 5, .int (nI O.length)] rfl ?_
            refine kx_ic (tgt := 49) (kx_tk_dec rfl dM_part) rfl (fun e44 => ?_) (fun e44 => ?_)
            · skip
              replace e44 : ¬ nI O.length = 5 := e44
              replace e44 : ¬ O.length = 5 := fun z => e44 ((nI_eq (a := O.length) (b := 5) (by omega) (by omega)).mpr z)
              exact absurd (show O.length = 5 by omega) e44
            · skip
              replace e44 : nI O.length = 5 := e44
              replace e44 : O.length = 5 := (nI_eq (a := O.length) (b := 5) (by omega) (by omega)).mp e44
              refine kx_rn dM_part 1 48 [(0, .ref m)] [.int 0] rfl ?_
              refine kx_ret (ty := .boolean) (kx_tk_dec rfl dM_part) rfl rfl ?_
              have hgg : g = (false, b, O, W) := by rw [← hg]; exact gP_full (by rw [kCur_in (by omega)]; exact Or.inl e36)
              rw [hgg]
              exact ⟨S2, A2, false, rfl, rfl, hfr, Or.inl ⟨rfl, rfl, p18⟩⟩
    | succ o ih =>
      intro b O W S2 A2 hb hbl ho hw2 hn hfr hms hg
      obtain ⟨p10, p18, p19, p17, p20, pL, pO, pW⟩ := id hms
      have q7 : A2 7 = A 7 := hfr.2.1 7 (by decide) (by decide) (by decide)
      refine kx_rn dM_part 1 1 [(0, .ref m)] [.ref m] rfl ?_
      refine pM_96 (v := .int (S2 18)) rfl (kx_tk_dec rfl dM_part) (mh_o hm) rfl ?_
      rw [p18]
      refine kx_rn dM_part 1 5 [(0, .ref m)] [.ref m, .int (nI b)] rfl ?_
      refine pM_90 (v := .int (S2 10)) rfl (kx_tk_dec rfl dM_part) (mh_o hm) rfl ?_
      rw [p10]
      refine kx_ic (tgt := 110) (kx_tk_dec rfl dM_part) rfl (fun e8 => ?_) (fun e8 => ?_)
      · skip
        replace e8 : nI ln ≤ nI b := e8
        replace e8 : ln ≤ b := (nI_leI (a := ln) (b := b) (by omega) (by omega)).mp e8
        have hgg : g = (true, b, O, W) := by rw [← hg]; exact gP_stop (by rw [kCur_out (by omega)]; decide) (by rw [kCur_out (by omega)]; decide)
        refine kx_rn dM_part 1 111 [(0, .ref m)] [.ref m] rfl ?_
        have hit := cM_comparison (d := d) (S := S2) (A := A2) (ln := ln) (at0 := b) (n := es.length) hst hm p10 hln p18 hbl p19 (by omega)
        rw [q7] at hit
        refine cM_122 (as := []) (st := []) (mc := 0) (ms := 0) (kc := 0) (ks := 0) rfl (kx_tk_dec rfl dM_part) (mh_o hm) rfl rfl (Nat.le_of_ble_eq_true rfl) (hit) (fun o h' hq => ?_)
        obtain ⟨S3, A3, rfl, rfl, hp3⟩ := hq
        show kx_w _ _ _ _ _ _ _ _ _ _ _
        refine kx_ret (ty := .boolean) (kx_tk_dec rfl dM_part) rfl (b01_nr _) ?_
        rw [hgg]
        obtain ⟨y18, yS, yA, y8, y19⟩ := id hp3
        refine ⟨S3, A3, _, rfl, rfl, mFR_t hfr ⟨fun k z1 z2 z3 z4 => yS k z2 z3, fun k z1 z2 z3 => yA k z1, fun i hi => y8 i (by omega)⟩, Or.inr ⟨rfl, rfl, y18, fun z => ?_⟩⟩
        obtain ⟨y19, y8l⟩ := y19 z
        refine ⟨by rw [yS 10 (by decide) (by decide)]; exact p10, y18, ?_, by rw [yS 17 (by decide) (by decide)]; exact p17, by rw [yS 20 (by decide) (by decide)]; exact p20, ?_, by rw [yA 11 (by decide)]; exact pO, by rw [yA 13 (by decide)]; exact pW⟩
        · rw [y19, List.length_append]
        · exact atL_app (atL_keep pL (fun i hi => y8 i (by omega))) y8l
      · skip
        replace e8 : ¬ nI ln ≤ nI b := e8
        replace e8 : ¬ ln ≤ b := fun z => e8 ((nI_leI (a := ln) (b := b) (by omega) (by omega)).mpr z)
        refine kx_rn dM_part 1 12 [(0, .ref m)] [.ref m] rfl ?_
        refine pM_28 (v := .ref (m + 7)) rfl (kx_tk_dec rfl dM_part) (mh_o hm) rfl ?_
        refine kx_rn dM_part 1 16 [(0, .ref m)] [.ref m, .ref (m + 7)] rfl ?_
        refine pM_96 (v := .int (S2 18)) rfl (kx_tk_dec rfl dM_part) (mh_o hm) rfl ?_
        rw [p18]
        refine mh_ld (k := 7) (x := A2 7 b) (i := b) rfl rfl (kx_tk_dec rfl dM_part) hm (by show b < 40; omega) ?_
        rw [q7]
        refine kx_rn dM_part 1 22 [(0, .ref m)] [.int 33, .int (A 7 b)] rfl ?_
        refine kx_ic (tgt := 39) (kx_tk_dec rfl dM_part) rfl (fun e22 => ?_) (fun e22 => ?_)
        · skip
          replace e22 : A 7 b = 33 := e22
          refine kx_rn dM_part 1 40 [(0, .ref m)] [.ref m] rfl ?_
          refine pM_110 (v := .int (S2 17)) rfl (kx_tk_dec rfl dM_part) (mh_o hm) rfl ?_
          rw [p17]
          refine kx_rn dM_part 1 44 [(0, .ref m)] [.int 5, .int (nI O.length)] rfl ?_
          refine kx_ic (tgt := 49) (kx_tk_dec rfl dM_part) rfl (fun e44 => ?_) (fun e44 => ?_)
          · skip
            replace e44 : ¬ nI O.length = 5 := e44
            replace e44 : ¬ O.length = 5 := fun z => e44 ((nI_eq (a := O.length) (b := 5) (by omega) (by omega)).mpr z)
            refine kx_rn dM_part 1 50 [(0, .ref m)] [.ref m] rfl ?_
            refine pM_45 (v := .ref (m + 11)) rfl (kx_tk_dec rfl dM_part) (mh_o hm) rfl ?_
            refine kx_rn dM_part 1 54 [(0, .ref m)] [.ref m, .ref (m + 11)] rfl ?_
            refine pM_110 (v := .int (S2 17)) rfl (kx_tk_dec rfl dM_part) (mh_o hm) rfl ?_
            rw [p17]
            refine kx_rn dM_part 1 58 [(0, .ref m)] [.ref m, .int (nI O.length), .ref (m + 11)] rfl ?_
            refine pM_28 (v := .ref (m + 7)) rfl (kx_tk_dec rfl dM_part) (mh_o hm) rfl ?_
            refine kx_rn dM_part 1 62 [(0, .ref m)] [.ref m, .ref (m + 7), .int (nI O.length), .ref (m + 11)] rfl ?_
            refine pM_96 (v := .int (S2 18)) rfl (kx_tk_dec rfl dM_part) (mh_o hm) rfl ?_
            rw [p18]
            refine mh_ld (k := 7) (x := A2 7 b) (i := b) rfl rfl (kx_tk_dec rfl dM_part) hm (by show b < 40; omega) ?_
            rw [q7]
            refine mh_st (k := 11) (i := O.length) (A' := va_up A2 11 (va_up (A2 11) O.length (A 7 b))) rfl (kx_tk_dec rfl dM_part) hm (by show O.length < 8; omega) rfl ?_
            refine kx_rn dM_part 2 69 [(0, .ref m)] [.ref m, .ref m] rfl ?_
            refine pM_110 (v := .int (S2 17)) rfl (kx_tk_dec rfl dM_part) (mh_o hm) rfl ?_
            rw [p17]
            refine kx_rn dM_part 2 74 [(0, .ref m)] [.int ((nI O.length) + 1), .ref m] rfl ?_
            rw [show (nI O.length) + 1 = nI (O.length + 1) from kn_ad rfl rfl]
            refine qM_110 rfl (kx_tk_dec rfl dM_part) (mh_o hm) rfl rfl (Nat.le_of_ble_eq_true rfl) ?_
            rw [mh_p17]
            refine kx_rn dM_part 1 78 [(0, .ref m)] [.ref m] rfl ?_
            refine pM_28 (v := .ref (m + 7)) rfl (kx_tk_dec rfl dM_part) (mh_o hm) rfl ?_
            refine kx_rn dM_part 1 82 [(0, .ref m)] [.ref m, .ref (m + 7)] rfl ?_
            refine pM_96 (v := .int (S2 18)) rfl (kx_tk_dec rfl dM_part) (mh_o hm) rfl ?_
            rw [p18]
            refine mh_ld (k := 7) (x := A2 7 b) (i := b) rfl rfl (kx_tk_dec rfl dM_part) hm (by show b < 40; omega) ?_
            rw [q7]
            refine kx_rn dM_part 1 88 [(0, .ref m)] [.int 40, .int (A 7 b)] rfl ?_
            refine kx_ic (tgt := 97) (kx_tk_dec rfl dM_part) rfl (fun e88 => ?_) (fun e88 => ?_)
            · skip
              replace e88 : ¬ A 7 b = 40 := e88
              refine kx_rn dM_part 2 99 [(0, .ref m)] [.ref m, .ref m] rfl ?_
              refine pM_96 (v := .int (S2 18)) rfl (kx_tk_dec rfl dM_part) (mh_o hm) rfl ?_
              rw [p18]
              refine kx_rn dM_part 2 104 [(0, .ref m)] [.int ((nI b) + 1), .ref m] rfl ?_
              rw [show (nI b) + 1 = nI (b + 1) from kn_ad rfl rfl]
              refine qM_96 rfl (kx_tk_dec rfl dM_part) (mh_o hm) rfl rfl (Nat.le_of_ble_eq_true rfl) ?_
              rw [mh_p18]
              refine kx_rn dM_part 1 0 [(0, .ref m)] [] rfl ?_
              refine ih (b + 1) (33 :: O) W _ _ (by simp only [List.length_cons]; omega) (by omega) (by simp only [List.length_cons]; omega) (by omega) (by omega) ?_ ?_ ?_
              · exact mFR_A (mFR_S (mFR_S hfr (by omega)) (by omega)) (by omega)
              · refine ⟨p10, rfl, p19, rfl, p20, pL, ?_, pW⟩
                show stk (va_up (A2 11) O.length (A 7 b)) (33 :: O)
                rw [e22]; exact stk_push pO
              · rw [← hg]; exact (gP_no (by rw [kCur_in (by omega)]; exact e22)).symm
            · skip
              replace e88 : A 7 b = 40 := e88
              rw [e22] at e88; exact absurd e88 (by decide)
          · skip
            replace e44 : nI O.length = 5 := e44
            replace e44 : O.length = 5 := (nI_eq (a := O.length) (b := 5) (by omega) (by omega)).mp e44
            refine kx_rn dM_part 1 48 [(0, .ref m)] [.int 0] rfl ?_
            refine kx_ret (ty := .boolean) (kx_tk_dec rfl dM_part) rfl rfl ?_
            exfalso; omega
        · skip
          replace e22 : ¬ A 7 b = 33 := e22
          refine kx_rn dM_part 1 26 [(0, .ref m)] [.ref m] rfl ?_
          refine pM_28 (v := .ref (m + 7)) rfl (kx_tk_dec rfl dM_part) (mh_o hm) rfl ?_
          refine kx_rn dM_part 1 30 [(0, .ref m)] [.ref m, .ref (m + 7)] rfl ?_
          refine pM_96 (v := .int (S2 18)) rfl (kx_tk_dec rfl dM_part) (mh_o hm) rfl ?_
          rw [p18]
          refine mh_ld (k := 7) (x := A2 7 b) (i := b) rfl rfl (kx_tk_dec rfl dM_part) hm (by show b < 40; omega) ?_
          rw [q7]
          refine kx_rn dM_part 1 36 [(0, .ref m)] [.int 40, .int (A 7 b)] rfl ?_
          refine kx_ic (tgt := 110) (kx_tk_dec rfl dM_part) rfl (fun e36 => ?_) (fun e36 => ?_)
          · skip
            replace e36 : ¬ A 7 b = 40 := e36
            have hgg : g = (true, b, O, W) := by rw [← hg]; exact gP_stop (by rw [kCur_in (by omega)]; exact e36) (by rw [kCur_in (by omega)]; exact e22)
            refine kx_rn dM_part 1 111 [(0, .ref m)] [.ref m] rfl ?_
            have hit := cM_comparison (d := d) (S := S2) (A := A2) (ln := ln) (at0 := b) (n := es.length) hst hm p10 hln p18 hbl p19 (by omega)
            rw [q7] at hit
            refine cM_122 (as := []) (st := []) (mc := 0) (ms := 0) (kc := 0) (ks := 0) rfl (kx_tk_dec rfl dM_part) (mh_o hm) rfl rfl (Nat.le_of_ble_eq_true rfl) (hit) (fun o h' hq => ?_)
            obtain ⟨S3, A3, rfl, rfl, hp3⟩ := hq
            show kx_w _ _ _ _ _ _ _ _ _ _ _
            refine kx_ret (ty := .boolean) (kx_tk_dec rfl dM_part) rfl (b01_nr _) ?_
            rw [hgg]
            obtain ⟨y18, yS, yA, y8, y19⟩ := id hp3
            refine ⟨S3, A3, _, rfl, rfl, mFR_t hfr ⟨fun k z1 z2 z3 z4 => yS k z2 z3, fun k z1 z2 z3 => yA k z1, fun i hi => y8 i (by omega)⟩, Or.inr ⟨rfl, rfl, y18, fun z => ?_⟩⟩
            obtain ⟨y19, y8l⟩ := y19 z
            refine ⟨by rw [yS 10 (by decide) (by decide)]; exact p10, y18, ?_, by rw [yS 17 (by decide) (by decide)]; exact p17, by rw [yS 20 (by decide) (by decide)]; exact p20, ?_, by rw [yA 11 (by decide)]; exact pO, by rw [yA 13 (by decide)]; exact pW⟩
            · rw [y19, List.length_append]
            · exact atL_app (atL_keep pL (fun i hi => y8 i (by omega))) y8l
          · skip
            replace e36 : A 7 b = 40 := e36
            refine kx_rn dM_part 1 40 [(0, .ref m)] [.ref m] rfl ?_
            refine pM_110 (v := .int (S2 17)) rfl (kx_tk_dec rfl dM_part) (mh_o hm) rfl ?_
            rw [p17]
            refine kx_rn dM_part 1 44 [(0, .ref m)] [.int 5, .int (nI O.length)] rfl ?_
            refine kx_ic (tgt := 49) (kx_tk_dec rfl dM_part) rfl (fun e44 => ?_) (fun e44 => ?_)
            · skip
              replace e44 : ¬ nI O.length = 5 := e44
              replace e44 : ¬ O.length = 5 := fun z => e44 ((nI_eq (a := O.length) (b := 5) (by omega) (by omega)).mpr z)
              refine kx_rn dM_part 1 50 [(0, .ref m)] [.ref m] rfl ?_
              refine pM_45 (v := .ref (m + 11)) rfl (kx_tk_dec rfl dM_part) (mh_o hm) rfl ?_
              refine kx_rn dM_part 1 54 [(0, .ref m)] [.ref m, .ref (m + 11)] rfl ?_
              refine pM_110 (v := .int (S2 17)) rfl (kx_tk_dec rfl dM_part) (mh_o hm) rfl ?_
              rw [p17]
              refine kx_rn dM_part 1 58 [(0, .ref m)] [.ref m, .int (nI O.length), .ref (m + 11)] rfl ?_
              refine pM_28 (v := .ref (m + 7)) rfl (kx_tk_dec rfl dM_part) (mh_o hm) rfl ?_
              refine kx_rn dM_part 1 62 [(0, .ref m)] [.ref m, .ref (m + 7), .int (nI O.length), .ref (m + 11)] rfl ?_
              refine pM_96 (v := .int (S2 18)) rfl (kx_tk_dec rfl dM_part) (mh_o hm) rfl ?_
              rw [p18]
              refine mh_ld (k := 7) (x := A2 7 b) (i := b) rfl rfl (kx_tk_dec rfl dM_part) hm (by show b < 40; omega) ?_
              rw [q7]
              refine mh_st (k := 11) (i := O.length) (A' := va_up A2 11 (va_up (A2 11) O.length (A 7 b))) rfl (kx_tk_dec rfl dM_part) hm (by show O.length < 8; omega) rfl ?_
              refine kx_rn dM_part 2 69 [(0, .ref m)] [.ref m, .ref m] rfl ?_
              refine pM_110 (v := .int (S2 17)) rfl (kx_tk_dec rfl dM_part) (mh_o hm) rfl ?_
              rw [p17]
              refine kx_rn dM_part 2 74 [(0, .ref m)] [.int ((nI O.length) + 1), .ref m] rfl ?_
              rw [show (nI O.length) + 1 = nI (O.length + 1) from kn_ad rfl rfl]
              refine qM_110 rfl (kx_tk_dec rfl dM_part) (mh_o hm) rfl rfl (Nat.le_of_ble_eq_true rfl) ?_
              rw [mh_p17]
              refine kx_rn dM_part 1 78 [(0, .ref m)] [.ref m] rfl ?_
              refine pM_28 (v := .ref (m + 7)) rfl (kx_tk_dec rfl dM_part) (mh_o hm) rfl ?_
              refine kx_rn dM_part 1 82 [(0, .ref m)] [.ref m, .ref (m + 7)] rfl ?_
              refine pM_96 (v := .int (S2 18)) rfl (kx_tk_dec rfl dM_part) (mh_o hm) rfl ?_
              rw [p18]
              refine mh_ld (k := 7) (x := A2 7 b) (i := b) rfl rfl (kx_tk_dec rfl dM_part) hm (by show b < 40; omega) ?_
              rw [q7]
              refine kx_rn dM_part 1 88 [(0, .ref m)] [.int 40, .int (A 7 b)] rfl ?_
              refine kx_ic (tgt := 97) (kx_tk_dec rfl dM_part) rfl (fun e88 => ?_) (fun e88 => ?_)
              · skip
                replace e88 : ¬ A 7 b = 40 := e88
                exact absurd e36 e88
              · skip
                replace e88 : A 7 b = 40 := e88
                refine kx_rn dM_part 2 94 [(0, .ref m)] [.int 40, .ref m] rfl ?_
                refine cM_119 (as := [.int 40]) (st := []) (mc := 0) (ms := 0) (kc := 0) (ks := 0) rfl (kx_tk_dec rfl dM_part) (mh_o hm) rfl rfl (Nat.le_of_ble_eq_true rfl) (cM_push (n := W.length) hst hm p20 (by omega)) (fun o h' hq => ?_)
                obtain ⟨rfl, rfl⟩ := hq
                show kx_w _ _ _ _ _ _ _ _ _ _ _
                refine kx_rn dM_part 2 99 [(0, .ref m)] [.ref m, .ref m] rfl ?_
                refine pM_96 (v := .int (S2 18)) rfl (kx_tk_dec rfl dM_part) (mh_o hm) rfl ?_
                rw [p18]
                refine kx_rn dM_part 2 104 [(0, .ref m)] [.int ((nI b) + 1), .ref m] rfl ?_
                rw [show (nI b) + 1 = nI (b + 1) from kn_ad rfl rfl]
                refine qM_96 rfl (kx_tk_dec rfl dM_part) (mh_o hm) rfl rfl (Nat.le_of_ble_eq_true rfl) ?_
                rw [mh_p18]
                refine kx_rn dM_part 1 0 [(0, .ref m)] [] rfl ?_
                refine ih (b + 1) (40 :: O) (40 :: W) _ _ (by simp only [List.length_cons]; omega) (by omega) (by simp only [List.length_cons]; omega) (by simp only [List.length_cons]; omega) (by omega) ?_ ?_ ?_
                · exact mFR_S (mFR_A (mFR_S (mFR_A (mFR_S hfr (by omega)) (by omega)) (by omega)) (by omega)) (by omega)
                · refine ⟨p10, rfl, p19, rfl, rfl, pL, ?_, ?_⟩
                  · show stk (va_up (A2 11) O.length (A 7 b)) (40 :: O)
                    rw [e36]; exact stk_push pO
                  · show stk (va_up (A2 13) W.length 40) (40 :: W)
                    exact stk_push pW
                · rw [← hg]; exact (gP_br (by rw [kCur_in (by omega)]; exact e36)).symm
            · skip
              replace e44 : nI O.length = 5 := e44
              replace e44 : O.length = 5 := (nI_eq (a := O.length) (b := 5) (by omega) (by omega)).mp e44
              refine kx_rn dM_part 1 48 [(0, .ref m)] [.int 0] rfl ?_
              refine kx_ret (ty := .boolean) (kx_tk_dec rfl dM_part) rfl rfl ?_
              exfalso; omega
  exact loop (5 - O.length) at0 O W S A (by omega) hat ho hw2 hn (mFR_r S A) hms hg
set_option maxRecDepth 100000 in
theorem cM_endPart {ln at0 : Nat} {es O W : List Int32} {e : List Int32 × List Int32 × List Int32} (hst : l.stackTraces = false) (hm : mOk G h0 m) (hms : mST S A ln at0 es O W) (hbd : es.length + O.length + cj W ≤ 40) (hwl : W.length ≤ 40) (hO : O.length ≤ 5) (he : gE es O W = e) :
    kx_c G l mM_endPart (d + 1) 0 0 [.ref m] (mH h0 m S A) (fun o h' => ∃ (S1 : Nat → Int32) (A1 : Nat → Nat → Int32), o = .returned none ∧ h' = mH h0 m S1 A1 ∧ mFR S A S1 A1 ∧ mST S1 A1 ln at0 (e).1 (e).2.1 (e).2.2) := by
  refine kx_in (by decide +kernel) (Nat.le_of_ble_eq_true rfl) hst ?_
  have tail : ∀ (es O W : List Int32) (S2 : Nat → Int32) (A2 : Nat → Nat → Int32), mFR S A S2 A2 → mST S2 A2 ln at0 es O W → es.length + O.length + cj W ≤ 40 → W.length ≤ 40 → gJ es O W = e → kx_w G l mM_endPart (d + 1) (fun o h' => ∃ (S1 : Nat → Int32) (A1 : Nat → Nat → Int32), o = .returned none ∧ h' = mH h0 m S1 A1 ∧ mFR S A S1 A1 ∧ mST S1 A1 ln at0 (e).1 (e).2.1 (e).2.2) 0 0 43 [(0, .ref m)] [] (mH h0 m S2 A2) := by
    intro es O W S2 A2 hfr hms hbd hwl he
    obtain ⟨p10, p18, p19, p17, p20, pL, pO, pW⟩ := id hms
    cases W with
    | nil =>
      refine kx_rn dM_endPart 1 44 [(0, .ref m)] [.ref m] rfl ?_
      refine pM_113 (v := .int (S2 20)) rfl (kx_tk_dec rfl dM_endPart) (mh_o hm) rfl ?_
      rw [p20]
      refine kx_if (tgt := 92) (kx_tk_dec rfl dM_endPart) rfl (fun e47 => ?_) (fun e47 => ?_)
      · skip
        replace e47 : nI 0 ≤ 0 := e47
        replace e47 : 0 ≤ 0 := (nI_leI (a := 0) (b := 0) (by omega) (by omega)).mp e47
        refine kx_retv (kx_tk_dec rfl dM_endPart) rfl ?_
        exact ⟨S2, A2, rfl, rfl, hfr, by rw [← he]; exact hms⟩
      · skip
        replace e47 : ¬ nI 0 ≤ 0 := e47
        replace e47 : ¬ 0 ≤ 0 := fun z => e47 ((nI_leI (a := 0) (b := 0) (by omega) (by omega)).mpr z)
        exfalso; omega
    | cons w W =>
      simp only [List.length_cons] at hwl
      simp only [cj] at hbd
      refine kx_rn dM_endPart 1 44 [(0, .ref m)] [.ref m] rfl ?_
      refine pM_113 (v := .int (S2 20)) rfl (kx_tk_dec rfl dM_endPart) (mh_o hm) rfl ?_
      rw [p20]
      refine kx_if (tgt := 92) (kx_tk_dec rfl dM_endPart) rfl (fun e47 => ?_) (fun e47 => ?_)
      · skip
        replace e47 : nI (W.length + 1) ≤ 0 := e47
        replace e47 : W.length + 1 ≤ 0 := (nI_leI (a := W.length + 1) (b := 0) (by omega) (by omega)).mp e47
        exfalso; omega
      · skip
        replace e47 : ¬ nI (W.length + 1) ≤ 0 := e47
        replace e47 : ¬ W.length + 1 ≤ 0 := fun z => e47 ((nI_leI (a := W.length + 1) (b := 0) (by omega) (by omega)).mpr z)
        refine kx_rn dM_endPart 1 51 [(0, .ref m)] [.ref m] rfl ?_
        refine pM_51 (v := .ref (m + 13)) rfl (kx_tk_dec rfl dM_endPart) (mh_o hm) rfl ?_
        refine kx_rn dM_endPart 1 55 [(0, .ref m)] [.ref m, .ref (m + 13)] rfl ?_
        refine pM_113 (v := .int (S2 20)) rfl (kx_tk_dec rfl dM_endPart) (mh_o hm) rfl ?_
        rw [p20]
        refine kx_rn dM_endPart 2 60 [(0, .ref m)] [.int ((nI (W.length + 1)) - 1), .ref (m + 13)] rfl ?_
        rw [show (nI (W.length + 1)) - 1 = nI ((W.length + 1) - 1) from kn_su rfl rfl (by omega)]
        refine mh_ld (k := 13) (x := A2 13 ((W.length + 1) - 1)) (i := (W.length + 1) - 1) rfl rfl (kx_tk_dec rfl dM_endPart) hm (by show (W.length + 1) - 1 < 44; omega) ?_
        rw [show A2 13 (W.length + 1 - 1) = w from pW.1]
        refine kx_rn dM_endPart 1 63 [(0, .ref m)] [.int 40, .int w] rfl ?_
        refine kx_ic (tgt := 92) (kx_tk_dec rfl dM_endPart) rfl (fun e63 => ?_) (fun e63 => ?_)
        · skip
          replace e63 : w = 40 := e63
          refine kx_retv (kx_tk_dec rfl dM_endPart) rfl ?_
          refine ⟨S2, A2, rfl, rfl, hfr, ?_⟩
          rw [← he]
          simp only [gJ]
          rw [if_pos e63]
          exact hms
        · skip
          replace e63 : ¬ w = 40 := e63
          refine kx_rn dM_endPart 2 68 [(0, .ref m)] [.ref m, .ref m] rfl ?_
          refine pM_113 (v := .int (S2 20)) rfl (kx_tk_dec rfl dM_endPart) (mh_o hm) rfl ?_
          rw [p20]
          refine kx_rn dM_endPart 2 73 [(0, .ref m)] [.int ((nI (W.length + 1)) - 1), .ref m] rfl ?_
          rw [show (nI (W.length + 1)) - 1 = nI ((W.length + 1) - 1) from kn_su rfl rfl (by omega)]
          refine qM_113 rfl (kx_tk_dec rfl dM_endPart) (mh_o hm) rfl rfl (Nat.le_of_ble_eq_true rfl) ?_
          rw [mh_p20]
          refine kx_rn dM_endPart 3 80 [(0, .ref m)] [.ref m, .int ((-100)), .ref m] rfl ?_
          refine pM_51 (v := .ref (m + 13)) rfl (kx_tk_dec rfl dM_endPart) (mh_o hm) rfl ?_
          refine kx_rn dM_endPart 1 84 [(0, .ref m)] [.ref m, .ref (m + 13), .int ((-100)), .ref m] rfl ?_
          refine pM_113 (v := .int (nI ((W.length + 1) - 1))) rfl (kx_tk_dec rfl dM_endPart) (mh_o hm) rfl ?_
          refine mh_ld (k := 13) (x := A2 13 ((W.length + 1) - 1)) (i := (W.length + 1) - 1) rfl rfl (kx_tk_dec rfl dM_endPart) hm (by show (W.length + 1) - 1 < 44; omega) ?_
          rw [show A2 13 (W.length + 1 - 1) = w from pW.1]
          refine kx_rn dM_endPart 1 89 [(0, .ref m)] [.int (((-100)) - w), .ref m] rfl ?_
          refine cM_99 (as := [.int (((-100)) - w)]) (st := []) (mc := 0) (ms := 0) (kc := 0) (ks := 0) rfl (kx_tk_dec rfl dM_endPart) (mh_o hm) rfl rfl (Nat.le_of_ble_eq_true rfl) (cM_add (n := es.length) hst hm p19 (by omega)) (fun o h' hq => ?_)
          obtain ⟨rfl, rfl⟩ := hq
          show kx_w _ _ _ _ _ _ _ _ _ _ _
          refine kx_retv (kx_tk_dec rfl dM_endPart) rfl ?_
          refine ⟨_, _, rfl, rfl, mFR_8 (mFR_S (mFR_S hfr (by omega)) (by omega)) (by omega), ?_⟩
          rw [← he]
          simp only [gJ]
          rw [if_neg e63]
          refine ⟨p10, p18, ?_, p17, rfl, ?_, pO, pW.2⟩
          · show nI (es.length + 1) = _
            rw [List.length_append]; rfl
          · exact atL_add pL
  have loop : ∀ (O es W : List Int32) (S2 : Nat → Int32) (A2 : Nat → Nat → Int32), mFR S A S2 A2 → mST S2 A2 ln at0 es O W → es.length + O.length + cj W ≤ 40 → W.length ≤ 40 → O.length ≤ 5 → gE es O W = e → kx_w G l mM_endPart (d + 1) (fun o h' => ∃ (S1 : Nat → Int32) (A1 : Nat → Nat → Int32), o = .returned none ∧ h' = mH h0 m S1 A1 ∧ mFR S A S1 A1 ∧ mST S1 A1 ln at0 (e).1 (e).2.1 (e).2.2) 0 0 0 [(0, .ref m)] [] (mH h0 m S2 A2) := by
    intro O
    induction O with
    | nil =>
      intro es W S2 A2 hfr hms hbd hwl hO he
      obtain ⟨p10, p18, p19, p17, p20, pL, pO, pW⟩ := id hms
      refine kx_rn dM_endPart 1 1 [(0, .ref m)] [.ref m] rfl ?_
      refine pM_110 (v := .int (S2 17)) rfl (kx_tk_dec rfl dM_endPart) (mh_o hm) rfl ?_
      rw [p17]
      refine kx_if (tgt := 43) (kx_tk_dec rfl dM_endPart) rfl (fun e4 => ?_) (fun e4 => ?_)
      · skip
        replace e4 : nI 0 ≤ 0 := e4
        replace e4 : 0 ≤ 0 := (nI_leI (a := 0) (b := 0) (by omega) (by omega)).mp e4
        exact tail es [] W S2 A2 hfr hms hbd hwl he
      · skip
        replace e4 : ¬ nI 0 ≤ 0 := e4
        replace e4 : ¬ 0 ≤ 0 := fun z => e4 ((nI_leI (a := 0) (b := 0) (by omega) (by omega)).mpr z)
        exfalso; omega
    | cons x O ih =>
      intro es W S2 A2 hfr hms hbd hwl hO he
      obtain ⟨p10, p18, p19, p17, p20, pL, pO, pW⟩ := id hms
      simp only [List.length_cons] at hbd hO
      refine kx_rn dM_endPart 1 1 [(0, .ref m)] [.ref m] rfl ?_
      refine pM_110 (v := .int (S2 17)) rfl (kx_tk_dec rfl dM_endPart) (mh_o hm) rfl ?_
      rw [p17]
      refine kx_if (tgt := 43) (kx_tk_dec rfl dM_endPart) rfl (fun e4 => ?_) (fun e4 => ?_)
      · skip
        replace e4 : nI (O.length + 1) ≤ 0 := e4
        replace e4 : O.length + 1 ≤ 0 := (nI_leI (a := O.length + 1) (b := 0) (by omega) (by omega)).mp e4
        exfalso; omega
      · skip
        replace e4 : ¬ nI (O.length + 1) ≤ 0 := e4
        replace e4 : ¬ O.length + 1 ≤ 0 := fun z => e4 ((nI_leI (a := O.length + 1) (b := 0) (by omega) (by omega)).mpr z)
        refine kx_rn dM_endPart 1 8 [(0, .ref m)] [.ref m] rfl ?_
        refine pM_45 (v := .ref (m + 11)) rfl (kx_tk_dec rfl dM_endPart) (mh_o hm) rfl ?_
        refine kx_rn dM_endPart 1 12 [(0, .ref m)] [.ref m, .ref (m + 11)] rfl ?_
        refine pM_110 (v := .int (S2 17)) rfl (kx_tk_dec rfl dM_endPart) (mh_o hm) rfl ?_
        rw [p17]
        refine kx_rn dM_endPart 2 17 [(0, .ref m)] [.int ((nI (O.length + 1)) - 1), .ref (m + 11)] rfl ?_
        rw [show (nI (O.length + 1)) - 1 = nI ((O.length + 1) - 1) from kn_su rfl rfl (by omega)]
        refine mh_ld (k := 11) (x := A2 11 ((O.length + 1) - 1)) (i := (O.length + 1) - 1) rfl rfl (kx_tk_dec rfl dM_endPart) hm (by show (O.length + 1) - 1 < 8; omega) ?_
        rw [show A2 11 (O.length + 1 - 1) = x from pO.1]
        refine kx_rn dM_endPart 1 20 [(0, .ref m)] [.int 33, .int x] rfl ?_
        refine kx_ic (tgt := 43) (kx_tk_dec rfl dM_endPart) rfl (fun e20 => ?_) (fun e20 => ?_)
        · skip
          replace e20 : ¬ x = 33 := e20
          exact tail es _ W S2 A2 hfr hms (by simp only [List.length_cons]; omega) hwl (by rw [← he]; simp only [gE]; rw [if_neg e20])
        · skip
          replace e20 : x = 33 := e20
          refine kx_rn dM_endPart 2 25 [(0, .ref m)] [.ref m, .ref m] rfl ?_
          refine pM_110 (v := .int (S2 17)) rfl (kx_tk_dec rfl dM_endPart) (mh_o hm) rfl ?_
          rw [p17]
          refine kx_rn dM_endPart 2 30 [(0, .ref m)] [.int ((nI (O.length + 1)) - 1), .ref m] rfl ?_
          rw [show (nI (O.length + 1)) - 1 = nI ((O.length + 1) - 1) from kn_su rfl rfl (by omega)]
          refine qM_110 rfl (kx_tk_dec rfl dM_endPart) (mh_o hm) rfl rfl (Nat.le_of_ble_eq_true rfl) ?_
          rw [mh_p17]
          refine kx_rn dM_endPart 2 37 [(0, .ref m)] [.int ((-133)), .ref m] rfl ?_
          refine cM_99 (as := [.int ((-133))]) (st := []) (mc := 0) (ms := 0) (kc := 0) (ks := 0) rfl (kx_tk_dec rfl dM_endPart) (mh_o hm) rfl rfl (Nat.le_of_ble_eq_true rfl) (cM_add (n := es.length) hst hm p19 (by omega)) (fun o h' hq => ?_)
          obtain ⟨rfl, rfl⟩ := hq
          show kx_w _ _ _ _ _ _ _ _ _ _ _
          refine kx_rn dM_endPart 1 0 [(0, .ref m)] [] rfl ?_
          refine ih (es ++ [-133]) W _ _ (mFR_8 (mFR_S (mFR_S hfr (by omega)) (by omega)) (by omega)) ⟨p10, p18, ?_, rfl, p20, ?_, pO.2, pW⟩ (by simp only [List.length_append, List.length_cons, List.length_nil]; omega) hwl (by omega) (by rw [← he]; simp only [gE]; rw [if_pos e20])
          · show nI (es.length + 1) = _
            rw [List.length_append]; rfl
          · exact atL_add pL
  exact loop O es W S A (mFR_r S A) hms hbd hwl hO he
set_option maxRecDepth 100000 in
theorem cM_condition {ln : Nat} (hst : l.stackTraces = false) (hm : mOk G h0 m) (hln : ln ≤ 40) (hms : mST S A ln 0 [] [] []) :
    kx_c G l mM_condition (d + 5) 0 0 [.ref m] (mH h0 m S A) (fun o h' => ∃ (S1 : Nat → Int32) (A1 : Nat → Nat → Int32), o = .returned (some (.int (b01 (pCond (A 7) ln).1))) ∧ h' = mH h0 m S1 A1 ∧ mFR S A S1 A1 ∧ S1 18 = nI (pCond (A 7) ln).2.1 ∧ ((pCond (A 7) ln).1 = true → S1 19 = nI (pCond (A 7) ln).2.2.length ∧ atL (A1 8) 220 (pCond (A 7) ln).2.2)) := by
  refine kx_in (by decide +kernel) (Nat.le_of_ble_eq_true rfl) hst ?_
  have hl : S 10 = nI ln := hms.1
  have loop : ∀ (a : Nat) (es O W : List Int32) (r : kRes), gR (A 7) ln a es O W r → ∀ (S2 : Nat → Int32) (A2 : Nat → Nat → Int32), mFR S A S2 A2 → mST S2 A2 ln a es O W → a ≤ ln → O.length ≤ 5 → W.length ≤ a → es.length + O.length + cj W ≤ a → kx_w G l mM_condition (d + 5) (fun o h' => ∃ (S1 : Nat → Int32) (A1 : Nat → Nat → Int32), o = .returned (some (.int (b01 (r).1))) ∧ h' = mH h0 m S1 A1 ∧ mFR S A S1 A1 ∧ S1 18 = nI (r).2.1 ∧ ((r).1 = true → S1 19 = nI (r).2.2.length ∧ atL (A1 8) 220 (r).2.2)) 0 0 22 [(0, .ref m)] [] (mH h0 m S2 A2) := by
    intro a es O W r hR
    refine hR (fun a es O W r => ∀ (S2 : Nat → Int32) (A2 : Nat → Nat → Int32), mFR S A S2 A2 → mST S2 A2 ln a es O W → a ≤ ln → O.length ≤ 5 → W.length ≤ a → es.length + O.length + cj W ≤ a → kx_w G l mM_condition (d + 5) (fun o h' => ∃ (S1 : Nat → Int32) (A1 : Nat → Nat → Int32), o = .returned (some (.int (b01 (r).1))) ∧ h' = mH h0 m S1 A1 ∧ mFR S A S1 A1 ∧ S1 18 = nI (r).2.1 ∧ ((r).1 = true → S1 19 = nI (r).2.2.length ∧ atL (A1 8) 220 (r).2.2)) 0 0 22 [(0, .ref m)] [] (mH h0 m S2 A2)) ⟨?_, ?_, ?_, ?_, ?_, ?_, ?_, ?_⟩
    · intro a es W h1
      intro S2 A2 hfr hms hal hO hWl hbd
      obtain ⟨p10, p18, p19, p17, p20, pL, pO, pW⟩ := id hms
      have q7 : A2 7 = A 7 := hfr.2.1 7 (by decide) (by decide) (by decide)
      refine kx_rn dM_condition 1 23 [(0, .ref m)] [.ref m] rfl ?_
      refine pM_96 (v := .int (S2 18)) rfl (kx_tk_dec rfl dM_condition) (mh_o hm) rfl ?_
      rw [p18]
      refine kx_rn dM_condition 1 27 [(0, .ref m)] [.ref m, .int (nI a)] rfl ?_
      refine pM_90 (v := .int (S2 10)) rfl (kx_tk_dec rfl dM_condition) (mh_o hm) rfl ?_
      rw [p10]
      refine kx_ic (tgt := 143) (kx_tk_dec rfl dM_condition) rfl (fun e30 => ?_) (fun e30 => ?_)
      · skip
        replace e30 : nI ln ≤ nI a := e30
        replace e30 : ln ≤ a := (nI_leI (a := ln) (b := a) (by omega) (by omega)).mp e30
        refine kx_rn dM_condition 1 144 [(0, .ref m)] [.ref m] rfl ?_
        refine pM_110 (v := .int (S2 17)) rfl (kx_tk_dec rfl dM_condition) (mh_o hm) rfl ?_
        rw [p17]
        refine kx_if (tgt := 154) (kx_tk_dec rfl dM_condition) rfl (fun e147 => ?_) (fun e147 => ?_)
        · skip
          replace e147 : ¬ nI 0 = 0 := e147
          replace e147 : ¬ 0 = 0 := fun z => e147 ((nI_eq (a := 0) (b := 0) (by omega) (by omega)).mpr z)
          exfalso; omega
        · skip
          replace e147 : nI 0 = 0 := e147
          replace e147 : 0 = 0 := (nI_eq (a := 0) (b := 0) (by omega) (by omega)).mp e147
          refine kx_rn dM_condition 2 155 [(0, .ref m)] [.int 1] rfl ?_
          refine kx_ret (ty := .boolean) (kx_tk_dec rfl dM_condition) rfl rfl ?_
          exact ⟨S2, A2, rfl, rfl, hfr, p18, fun _ => ⟨p19, pL⟩⟩
      · skip
        replace e30 : ¬ nI ln ≤ nI a := e30
        replace e30 : ¬ ln ≤ a := fun z => e30 ((nI_leI (a := ln) (b := a) (by omega) (by omega)).mpr z)
        exfalso; omega
    · intro a es x O W h1
      intro S2 A2 hfr hms hal hO hWl hbd
      obtain ⟨p10, p18, p19, p17, p20, pL, pO, pW⟩ := id hms
      have q7 : A2 7 = A 7 := hfr.2.1 7 (by decide) (by decide) (by decide)
      simp only [List.length_cons] at hO
      refine kx_rn dM_condition 1 23 [(0, .ref m)] [.ref m] rfl ?_
      refine pM_96 (v := .int (S2 18)) rfl (kx_tk_dec rfl dM_condition) (mh_o hm) rfl ?_
      rw [p18]
      refine kx_rn dM_condition 1 27 [(0, .ref m)] [.ref m, .int (nI a)] rfl ?_
      refine pM_90 (v := .int (S2 10)) rfl (kx_tk_dec rfl dM_condition) (mh_o hm) rfl ?_
      rw [p10]
      refine kx_ic (tgt := 143) (kx_tk_dec rfl dM_condition) rfl (fun e30 => ?_) (fun e30 => ?_)
      · skip
        replace e30 : nI ln ≤ nI a := e30
        replace e30 : ln ≤ a := (nI_leI (a := ln) (b := a) (by omega) (by omega)).mp e30
        refine kx_rn dM_condition 1 144 [(0, .ref m)] [.ref m] rfl ?_
        refine pM_110 (v := .int (S2 17)) rfl (kx_tk_dec rfl dM_condition) (mh_o hm) rfl ?_
        rw [p17]
        refine kx_if (tgt := 154) (kx_tk_dec rfl dM_condition) rfl (fun e147 => ?_) (fun e147 => ?_)
        · skip
          replace e147 : ¬ nI (O.length + 1) = 0 := e147
          replace e147 : ¬ O.length + 1 = 0 := fun z => e147 ((nI_eq (a := O.length + 1) (b := 0) (by omega) (by omega)).mpr z)
          refine kx_rn dM_condition 1 155 [(0, .ref m)] [.int 0] rfl ?_
          refine kx_ret (ty := .boolean) (kx_tk_dec rfl dM_condition) rfl rfl ?_
          exact ⟨S2, A2, rfl, rfl, hfr, p18, fun z => by cases z⟩
        · skip
          replace e147 : nI (O.length + 1) = 0 := e147
          replace e147 : O.length + 1 = 0 := (nI_eq (a := O.length + 1) (b := 0) (by omega) (by omega)).mp e147
          exfalso; omega
      · skip
        replace e30 : ¬ nI ln ≤ nI a := e30
        replace e30 : ¬ ln ≤ a := fun z => e30 ((nI_leI (a := ln) (b := a) (by omega) (by omega)).mpr z)
        exfalso; omega
    · intro a es W h1 h2
      intro S2 A2 hfr hms hal hO hWl hbd
      obtain ⟨p10, p18, p19, p17, p20, pL, pO, pW⟩ := id hms
      have q7 : A2 7 = A 7 := hfr.2.1 7 (by decide) (by decide) (by decide)
      refine kx_rn dM_condition 1 23 [(0, .ref m)] [.ref m] rfl ?_
      refine pM_96 (v := .int (S2 18)) rfl (kx_tk_dec rfl dM_condition) (mh_o hm) rfl ?_
      rw [p18]
      refine kx_rn dM_condition 1 27 [(0, .ref m)] [.ref m, .int (nI a)] rfl ?_
      refine pM_90 (v := .int (S2 10)) rfl (kx_tk_dec rfl dM_condition) (mh_o hm) rfl ?_
      rw [p10]
      refine kx_ic (tgt := 143) (kx_tk_dec rfl dM_condition) rfl (fun e30 => ?_) (fun e30 => ?_)
      · skip
        replace e30 : nI ln ≤ nI a := e30
        replace e30 : ln ≤ a := (nI_leI (a := ln) (b := a) (by omega) (by omega)).mp e30
        exfalso; omega
      · skip
        replace e30 : ¬ nI ln ≤ nI a := e30
        replace e30 : ¬ ln ≤ a := fun z => e30 ((nI_leI (a := ln) (b := a) (by omega) (by omega)).mpr z)
        refine kx_rn dM_condition 1 34 [(0, .ref m)] [.ref m] rfl ?_
        refine pM_28 (v := .ref (m + 7)) rfl (kx_tk_dec rfl dM_condition) (mh_o hm) rfl ?_
        refine kx_rn dM_condition 1 38 [(0, .ref m)] [.ref m, .ref (m + 7)] rfl ?_
        refine pM_96 (v := .int (S2 18)) rfl (kx_tk_dec rfl dM_condition) (mh_o hm) rfl ?_
        rw [p18]
        refine mh_ld (k := 7) (x := A2 7 a) (i := a) rfl rfl (kx_tk_dec rfl dM_condition) hm (by show a < 40; omega) ?_
        rw [q7]
        refine kx_rn dM_condition 3 46 [(0, .ref m), (1, .int (A 7 a))] [.int 41, .int (A 7 a)] rfl ?_
        refine kx_ic (tgt := 95) (kx_tk_dec rfl dM_condition) rfl (fun e46 => ?_) (fun e46 => ?_)
        · skip
          replace e46 : ¬ A 7 a = 41 := e46
          exact absurd h2 e46
        · skip
          replace e46 : A 7 a = 41 := e46
          refine kx_rn dM_condition 1 50 [(0, .ref m), (1, .int (A 7 a))] [.ref m] rfl ?_
          refine pM_110 (v := .int (S2 17)) rfl (kx_tk_dec rfl dM_condition) (mh_o hm) rfl ?_
          rw [p17]
          refine kx_if (tgt := 58) (kx_tk_dec rfl dM_condition) rfl (fun e53 => ?_) (fun e53 => ?_)
          · skip
            replace e53 : ¬ nI 0 = 0 := e53
            replace e53 : ¬ 0 = 0 := fun z => e53 ((nI_eq (a := 0) (b := 0) (by omega) (by omega)).mpr z)
            exfalso; omega
          · skip
            replace e53 : nI 0 = 0 := e53
            replace e53 : 0 = 0 := (nI_eq (a := 0) (b := 0) (by omega) (by omega)).mp e53
            refine kx_rn dM_condition 1 57 [(0, .ref m), (1, .int (A 7 a))] [.int 0] rfl ?_
            refine kx_ret (ty := .boolean) (kx_tk_dec rfl dM_condition) rfl rfl ?_
            exact ⟨S2, A2, rfl, rfl, hfr, p18, fun z => by cases z⟩
    · intro a es O W h1 h2 h3
      intro S2 A2 hfr hms hal hO hWl hbd
      obtain ⟨p10, p18, p19, p17, p20, pL, pO, pW⟩ := id hms
      have q7 : A2 7 = A 7 := hfr.2.1 7 (by decide) (by decide) (by decide)
      refine kx_rn dM_condition 1 23 [(0, .ref m)] [.ref m] rfl ?_
      refine pM_96 (v := .int (S2 18)) rfl (kx_tk_dec rfl dM_condition) (mh_o hm) rfl ?_
      rw [p18]
      refine kx_rn dM_condition 1 27 [(0, .ref m)] [.ref m, .int (nI a)] rfl ?_
      refine pM_90 (v := .int (S2 10)) rfl (kx_tk_dec rfl dM_condition) (mh_o hm) rfl ?_
      rw [p10]
      refine kx_ic (tgt := 143) (kx_tk_dec rfl dM_condition) rfl (fun e30 => ?_) (fun e30 => ?_)
      · skip
        replace e30 : nI ln ≤ nI a := e30
        replace e30 : ln ≤ a := (nI_leI (a := ln) (b := a) (by omega) (by omega)).mp e30
        exfalso; omega
      · skip
        replace e30 : ¬ nI ln ≤ nI a := e30
        replace e30 : ¬ ln ≤ a := fun z => e30 ((nI_leI (a := ln) (b := a) (by omega) (by omega)).mpr z)
        refine kx_rn dM_condition 1 34 [(0, .ref m)] [.ref m] rfl ?_
        refine pM_28 (v := .ref (m + 7)) rfl (kx_tk_dec rfl dM_condition) (mh_o hm) rfl ?_
        refine kx_rn dM_condition 1 38 [(0, .ref m)] [.ref m, .ref (m + 7)] rfl ?_
        refine pM_96 (v := .int (S2 18)) rfl (kx_tk_dec rfl dM_condition) (mh_o hm) rfl ?_
        rw [p18]
        refine mh_ld (k := 7) (x := A2 7 a) (i := a) rfl rfl (kx_tk_dec rfl dM_condition) hm (by show a < 40; omega) ?_
        rw [q7]
        refine kx_rn dM_condition 3 46 [(0, .ref m), (1, .int (A 7 a))] [.int 41, .int (A 7 a)] rfl ?_
        refine kx_ic (tgt := 95) (kx_tk_dec rfl dM_condition) rfl (fun e46 => ?_) (fun e46 => ?_)
        · skip
          replace e46 : ¬ A 7 a = 41 := e46
          refine kx_rn dM_condition 2 98 [(0, .ref m), (1, .int (A 7 a))] [.int 38, .int (A 7 a)] rfl ?_
          refine kx_ic (tgt := 107) (kx_tk_dec rfl dM_condition) rfl (fun e98 => ?_) (fun e98 => ?_)
          · skip
            replace e98 : A 7 a = 38 := e98
            rw [e98] at h3; exact absurd h3 (by decide)
          · skip
            replace e98 : ¬ A 7 a = 38 := e98
            refine kx_rn dM_condition 2 104 [(0, .ref m), (1, .int (A 7 a))] [.int 124, .int (A 7 a)] rfl ?_
            refine kx_ic (tgt := 138) (kx_tk_dec rfl dM_condition) rfl (fun e104 => ?_) (fun e104 => ?_)
            · skip
              replace e104 : ¬ A 7 a = 124 := e104
              refine kx_rn dM_condition 1 139 [(0, .ref m), (1, .int (A 7 a))] [.int 0] rfl ?_
              refine kx_ret (ty := .boolean) (kx_tk_dec rfl dM_condition) rfl rfl ?_
              exact ⟨S2, A2, rfl, rfl, hfr, p18, fun z => by cases z⟩
            · skip
              replace e104 : A 7 a = 124 := e104
              rw [e104] at h3; exact absurd h3 (by decide)
        · skip
          replace e46 : A 7 a = 41 := e46
          exact absurd e46 h2
    · intro a es x O w W r h1 h2 ih
      intro S2 A2 hfr hms hal hO hWl hbd
      obtain ⟨p10, p18, p19, p17, p20, pL, pO, pW⟩ := id hms
      have q7 : A2 7 = A 7 := hfr.2.1 7 (by decide) (by decide) (by decide)
      simp only [List.length_cons] at hbd hO hWl
      refine kx_rn dM_condition 1 23 [(0, .ref m)] [.ref m] rfl ?_
      refine pM_96 (v := .int (S2 18)) rfl (kx_tk_dec rfl dM_condition) (mh_o hm) rfl ?_
      rw [p18]
      refine kx_rn dM_condition 1 27 [(0, .ref m)] [.ref m, .int (nI a)] rfl ?_
      refine pM_90 (v := .int (S2 10)) rfl (kx_tk_dec rfl dM_condition) (mh_o hm) rfl ?_
      rw [p10]
      refine kx_ic (tgt := 143) (kx_tk_dec rfl dM_condition) rfl (fun e30 => ?_) (fun e30 => ?_)
      · skip
        replace e30 : nI ln ≤ nI a := e30
        replace e30 : ln ≤ a := (nI_leI (a := ln) (b := a) (by omega) (by omega)).mp e30
        exfalso; omega
      · skip
        replace e30 : ¬ nI ln ≤ nI a := e30
        replace e30 : ¬ ln ≤ a := fun z => e30 ((nI_leI (a := ln) (b := a) (by omega) (by omega)).mpr z)
        refine kx_rn dM_condition 1 34 [(0, .ref m)] [.ref m] rfl ?_
        refine pM_28 (v := .ref (m + 7)) rfl (kx_tk_dec rfl dM_condition) (mh_o hm) rfl ?_
        refine kx_rn dM_condition 1 38 [(0, .ref m)] [.ref m, .ref (m + 7)] rfl ?_
        refine pM_96 (v := .int (S2 18)) rfl (kx_tk_dec rfl dM_condition) (mh_o hm) rfl ?_
        rw [p18]
        refine mh_ld (k := 7) (x := A2 7 a) (i := a) rfl rfl (kx_tk_dec rfl dM_condition) hm (by show a < 40; omega) ?_
        rw [q7]
        refine kx_rn dM_condition 3 46 [(0, .ref m), (1, .int (A 7 a))] [.int 41, .int (A 7 a)] rfl ?_
        refine kx_ic (tgt := 95) (kx_tk_dec rfl dM_condition) rfl (fun e46 => ?_) (fun e46 => ?_)
        · skip
          replace e46 : ¬ A 7 a = 41 := e46
          exact absurd h2 e46
        · skip
          replace e46 : A 7 a = 41 := e46
          refine kx_rn dM_condition 1 50 [(0, .ref m), (1, .int (A 7 a))] [.ref m] rfl ?_
          refine pM_110 (v := .int (S2 17)) rfl (kx_tk_dec rfl dM_condition) (mh_o hm) rfl ?_
          rw [p17]
          refine kx_if (tgt := 58) (kx_tk_dec rfl dM_condition) rfl (fun e53 => ?_) (fun e53 => ?_)
          · skip
            replace e53 : ¬ nI (O.length + 1) = 0 := e53
            replace e53 : ¬ O.length + 1 = 0 := fun z => e53 ((nI_eq (a := O.length + 1) (b := 0) (by omega) (by omega)).mpr z)
            refine kx_rn dM_condition 2 60 [(0, .ref m), (1, .int (A 7 a))] [.ref m, .ref m] rfl ?_
            refine pM_110 (v := .int (S2 17)) rfl (kx_tk_dec rfl dM_condition) (mh_o hm) rfl ?_
            rw [p17]
            refine kx_rn dM_condition 2 65 [(0, .ref m), (1, .int (A 7 a))] [.int ((nI (O.length + 1)) - 1), .ref m] rfl ?_
            rw [show (nI (O.length + 1)) - 1 = nI ((O.length + 1) - 1) from kn_su rfl rfl (by omega)]
            refine qM_110 rfl (kx_tk_dec rfl dM_condition) (mh_o hm) rfl rfl (Nat.le_of_ble_eq_true rfl) ?_
            rw [mh_p17]
            refine kx_rn dM_condition 2 70 [(0, .ref m), (1, .int (A 7 a))] [.ref m, .ref m] rfl ?_
            refine pM_113 (v := .int (S2 20)) rfl (kx_tk_dec rfl dM_condition) (mh_o hm) rfl ?_
            rw [p20]
            refine kx_rn dM_condition 2 75 [(0, .ref m), (1, .int (A 7 a))] [.int ((nI (W.length + 1)) - 1), .ref m] rfl ?_
            rw [show (nI (W.length + 1)) - 1 = nI ((W.length + 1) - 1) from kn_su rfl rfl (by omega)]
            refine qM_113 rfl (kx_tk_dec rfl dM_condition) (mh_o hm) rfl rfl (Nat.le_of_ble_eq_true rfl) ?_
            rw [mh_p20]
            refine kx_rn dM_condition 2 80 [(0, .ref m), (1, .int (A 7 a))] [.ref m, .ref m] rfl ?_
            refine pM_96 (v := .int (S2 18)) rfl (kx_tk_dec rfl dM_condition) (mh_o hm) rfl ?_
            rw [p18]
            refine kx_rn dM_condition 2 85 [(0, .ref m), (1, .int (A 7 a))] [.int ((nI a) + 1), .ref m] rfl ?_
            rw [show (nI a) + 1 = nI (a + 1) from kn_ad rfl rfl]
            refine qM_96 rfl (kx_tk_dec rfl dM_condition) (mh_o hm) rfl rfl (Nat.le_of_ble_eq_true rfl) ?_
            rw [mh_p18]
            refine kx_rn dM_condition 1 89 [(0, .ref m), (1, .int (A 7 a))] [.ref m] rfl ?_
            have hms3 : mST (va_up (va_up (va_up S2 17 (nI O.length)) 20 (nI W.length)) 18 (nI (a + 1))) A2 ln (a + 1) es O W := ⟨p10, rfl, p19, rfl, rfl, pL, pO.2, pW.2⟩
            have hcj : cj W ≤ cj (w :: W) := by simp only [cj]; split <;> omega
            
            refine cM_128 (as := []) (st := []) (mc := 0) (ms := 0) (kc := 0) (ks := 0) rfl (kx_tk_dec rfl dM_condition) (mh_o hm) rfl rfl (Nat.le_of_ble_eq_true rfl) (cM_endPart (d := d + 3) (e := gE es O W) hst hm hms3 (by omega) (by omega) (by omega) rfl) (fun o h' hq => ?_)
            obtain ⟨S4, A4, rfl, rfl, hf4, hm4⟩ := hq
            show kx_w _ _ _ _ _ _ _ _ _ _ _
            refine kx_rn dM_condition 2 22 [(0, .ref m), (1, .int (A 7 a))] [] rfl ?_
            refine kx_lsub (lv' := [(0, .ref m)]) (.cons₂ _ (.cons _ .slnil)) ?_
            obtain ⟨z1, z2, z3⟩ := gE_gd es O W
            exact ih S4 A4 (mFR_t (mFR_S (mFR_S (mFR_S hfr (by omega)) (by omega)) (by omega)) hf4) hm4 (by omega) (by omega) (by omega) (by omega)
          · skip
            replace e53 : nI (O.length + 1) = 0 := e53
            replace e53 : O.length + 1 = 0 := (nI_eq (a := O.length + 1) (b := 0) (by omega) (by omega)).mp e53
            exfalso; omega
    · intro a es O W h1 h2 h3
      intro S2 A2 hfr hms hal hO hWl hbd
      obtain ⟨p10, p18, p19, p17, p20, pL, pO, pW⟩ := id hms
      have q7 : A2 7 = A 7 := hfr.2.1 7 (by decide) (by decide) (by decide)
      refine kx_rn dM_condition 1 23 [(0, .ref m)] [.ref m] rfl ?_
      refine pM_96 (v := .int (S2 18)) rfl (kx_tk_dec rfl dM_condition) (mh_o hm) rfl ?_
      rw [p18]
      refine kx_rn dM_condition 1 27 [(0, .ref m)] [.ref m, .int (nI a)] rfl ?_
      refine pM_90 (v := .int (S2 10)) rfl (kx_tk_dec rfl dM_condition) (mh_o hm) rfl ?_
      rw [p10]
      refine kx_ic (tgt := 143) (kx_tk_dec rfl dM_condition) rfl (fun e30 => ?_) (fun e30 => ?_)
      · skip
        replace e30 : nI ln ≤ nI a := e30
        replace e30 : ln ≤ a := (nI_leI (a := ln) (b := a) (by omega) (by omega)).mp e30
        exfalso; omega
      · skip
        replace e30 : ¬ nI ln ≤ nI a := e30
        replace e30 : ¬ ln ≤ a := fun z => e30 ((nI_leI (a := ln) (b := a) (by omega) (by omega)).mpr z)
        refine kx_rn dM_condition 1 34 [(0, .ref m)] [.ref m] rfl ?_
        refine pM_28 (v := .ref (m + 7)) rfl (kx_tk_dec rfl dM_condition) (mh_o hm) rfl ?_
        refine kx_rn dM_condition 1 38 [(0, .ref m)] [.ref m, .ref (m + 7)] rfl ?_
        refine pM_96 (v := .int (S2 18)) rfl (kx_tk_dec rfl dM_condition) (mh_o hm) rfl ?_
        rw [p18]
        refine mh_ld (k := 7) (x := A2 7 a) (i := a) rfl rfl (kx_tk_dec rfl dM_condition) hm (by show a < 40; omega) ?_
        rw [q7]
        refine kx_rn dM_condition 3 46 [(0, .ref m), (1, .int (A 7 a))] [.int 41, .int (A 7 a)] rfl ?_
        refine kx_ic (tgt := 95) (kx_tk_dec rfl dM_condition) rfl (fun e46 => ?_) (fun e46 => ?_)
        · skip
          replace e46 : ¬ A 7 a = 41 := e46
          refine kx_rn dM_condition 2 98 [(0, .ref m), (1, .int (A 7 a))] [.int 38, .int (A 7 a)] rfl ?_
          refine kx_ic (tgt := 107) (kx_tk_dec rfl dM_condition) rfl (fun e98 => ?_) (fun e98 => ?_)
          · skip
            replace e98 : A 7 a = 38 := e98
            refine kx_rn dM_condition 2 109 [(0, .ref m), (1, .int (A 7 a))] [.int (A 7 a), .ref m] rfl ?_
            refine cM_119 (as := [.int (A 7 a)]) (st := []) (mc := 0) (ms := 0) (kc := 0) (ks := 0) rfl (kx_tk_dec rfl dM_condition) (mh_o hm) rfl rfl (Nat.le_of_ble_eq_true rfl) (cM_push (n := W.length) hst hm p20 (by omega)) (fun o h' hq => ?_)
            obtain ⟨rfl, rfl⟩ := hq
            show kx_w _ _ _ _ _ _ _ _ _ _ _
            refine kx_rn dM_condition 2 114 [(0, .ref m), (1, .int (A 7 a))] [.ref m, .ref m] rfl ?_
            refine pM_96 (v := .int (S2 18)) rfl (kx_tk_dec rfl dM_condition) (mh_o hm) rfl ?_
            rw [p18]
            refine kx_rn dM_condition 2 119 [(0, .ref m), (1, .int (A 7 a))] [.int ((nI a) + 1), .ref m] rfl ?_
            rw [show (nI a) + 1 = nI (a + 1) from kn_ad rfl rfl]
            refine qM_96 rfl (kx_tk_dec rfl dM_condition) (mh_o hm) rfl rfl (Nat.le_of_ble_eq_true rfl) ?_
            rw [mh_p18]
            refine kx_rn dM_condition 1 123 [(0, .ref m), (1, .int (A 7 a))] [.ref m] rfl ?_
            have hfr2 : mFR S A (va_up (va_up S2 20 (nI (W.length + 1))) 18 (nI (a + 1))) (va_up A2 13 (va_up (A2 13) W.length (A 7 a))) := mFR_S (mFR_A (mFR_S hfr (by omega)) (by omega)) (by omega)
            have hms2 : mST (va_up (va_up S2 20 (nI (W.length + 1))) 18 (nI (a + 1))) (va_up A2 13 (va_up (A2 13) W.length (A 7 a))) ln (a + 1) es O (A 7 a :: W) := ⟨p10, rfl, p19, p17, rfl, pL, pO, stk_push pW⟩
            have hpt := cM_part (d := d) (g := (gP (A 7) ln (5 - O.length) (a + 1) O (A 7 a :: W))) hst hm hln (by omega) hO (by simp only [List.length_cons]; omega) (by omega) hms2 (by rw [show (va_up A2 13 (va_up (A2 13) W.length (A 7 a))) 7 = A 7 from q7])
            refine cM_125 (as := []) (st := []) (mc := 0) (ms := 0) (kc := 0) (ks := 0) rfl (kx_tk_dec rfl dM_condition) (mh_o hm) rfl rfl (Nat.le_of_ble_eq_true rfl) (hpt) (fun o h' hq => ?_)
            obtain ⟨S3, A3, pb, rfl, rfl, hf3, hp3⟩ := hq
            show kx_w _ _ _ _ _ _ _ _ _ _ _
            rw [show (va_up A2 13 (va_up (A2 13) W.length (A 7 a))) 7 = A 7 from q7] at hp3
            refine kx_if (tgt := 131) (kx_tk_dec rfl dM_condition) rfl (fun e126 => ?_) (fun e126 => ?_)
            · skip
              replace e126 : ¬ b01 pb = 0 := e126
              replace e126 : pb = true := b01_t e126
              rcases hp3 with ⟨z1, z2, z3⟩ | ⟨z1, z2, z3, z4⟩
              · rw [z2] at e126; cases e126
              · rw [h3] at z1; cases z1
            · skip
              replace e126 : b01 pb = 0 := e126
              replace e126 : pb = false := b01_f e126
              refine kx_rn dM_condition 1 130 [(0, .ref m), (1, .int (A 7 a))] [.int 0] rfl ?_
              refine kx_ret (ty := .boolean) (kx_tk_dec rfl dM_condition) rfl rfl ?_
              rcases hp3 with ⟨z1, z2, z3⟩ | ⟨z1, z2, z3, z4⟩
              · exact ⟨S3, A3, rfl, rfl, mFR_t hfr2 hf3, z3, fun z => by cases z⟩
              · rw [h3] at z1; cases z1
          · skip
            replace e98 : ¬ A 7 a = 38 := e98
            refine kx_rn dM_condition 2 104 [(0, .ref m), (1, .int (A 7 a))] [.int 124, .int (A 7 a)] rfl ?_
            refine kx_ic (tgt := 138) (kx_tk_dec rfl dM_condition) rfl (fun e104 => ?_) (fun e104 => ?_)
            · skip
              replace e104 : ¬ A 7 a = 124 := e104
              rcases isJn_cs h2 with z | z
              · exact absurd z e98
              · exact absurd z e104
            · skip
              replace e104 : A 7 a = 124 := e104
              refine kx_rn dM_condition 2 109 [(0, .ref m), (1, .int (A 7 a))] [.int (A 7 a), .ref m] rfl ?_
              refine cM_119 (as := [.int (A 7 a)]) (st := []) (mc := 0) (ms := 0) (kc := 0) (ks := 0) rfl (kx_tk_dec rfl dM_condition) (mh_o hm) rfl rfl (Nat.le_of_ble_eq_true rfl) (cM_push (n := W.length) hst hm p20 (by omega)) (fun o h' hq => ?_)
              obtain ⟨rfl, rfl⟩ := hq
              show kx_w _ _ _ _ _ _ _ _ _ _ _
              refine kx_rn dM_condition 2 114 [(0, .ref m), (1, .int (A 7 a))] [.ref m, .ref m] rfl ?_
              refine pM_96 (v := .int (S2 18)) rfl (kx_tk_dec rfl dM_condition) (mh_o hm) rfl ?_
              rw [p18]
              refine kx_rn dM_condition 2 119 [(0, .ref m), (1, .int (A 7 a))] [.int ((nI a) + 1), .ref m] rfl ?_
              rw [show (nI a) + 1 = nI (a + 1) from kn_ad rfl rfl]
              refine qM_96 rfl (kx_tk_dec rfl dM_condition) (mh_o hm) rfl rfl (Nat.le_of_ble_eq_true rfl) ?_
              rw [mh_p18]
              refine kx_rn dM_condition 1 123 [(0, .ref m), (1, .int (A 7 a))] [.ref m] rfl ?_
              have hfr2 : mFR S A (va_up (va_up S2 20 (nI (W.length + 1))) 18 (nI (a + 1))) (va_up A2 13 (va_up (A2 13) W.length (A 7 a))) := mFR_S (mFR_A (mFR_S hfr (by omega)) (by omega)) (by omega)
              have hms2 : mST (va_up (va_up S2 20 (nI (W.length + 1))) 18 (nI (a + 1))) (va_up A2 13 (va_up (A2 13) W.length (A 7 a))) ln (a + 1) es O (A 7 a :: W) := ⟨p10, rfl, p19, p17, rfl, pL, pO, stk_push pW⟩
              have hpt := cM_part (d := d) (g := (gP (A 7) ln (5 - O.length) (a + 1) O (A 7 a :: W))) hst hm hln (by omega) hO (by simp only [List.length_cons]; omega) (by omega) hms2 (by rw [show (va_up A2 13 (va_up (A2 13) W.length (A 7 a))) 7 = A 7 from q7])
              refine cM_125 (as := []) (st := []) (mc := 0) (ms := 0) (kc := 0) (ks := 0) rfl (kx_tk_dec rfl dM_condition) (mh_o hm) rfl rfl (Nat.le_of_ble_eq_true rfl) (hpt) (fun o h' hq => ?_)
              obtain ⟨S3, A3, pb, rfl, rfl, hf3, hp3⟩ := hq
              show kx_w _ _ _ _ _ _ _ _ _ _ _
              rw [show (va_up A2 13 (va_up (A2 13) W.length (A 7 a))) 7 = A 7 from q7] at hp3
              refine kx_if (tgt := 131) (kx_tk_dec rfl dM_condition) rfl (fun e126 => ?_) (fun e126 => ?_)
              · skip
                replace e126 : ¬ b01 pb = 0 := e126
                replace e126 : pb = true := b01_t e126
                rcases hp3 with ⟨z1, z2, z3⟩ | ⟨z1, z2, z3, z4⟩
                · rw [z2] at e126; cases e126
                · rw [h3] at z1; cases z1
              · skip
                replace e126 : b01 pb = 0 := e126
                replace e126 : pb = false := b01_f e126
                refine kx_rn dM_condition 1 130 [(0, .ref m), (1, .int (A 7 a))] [.int 0] rfl ?_
                refine kx_ret (ty := .boolean) (kx_tk_dec rfl dM_condition) rfl rfl ?_
                rcases hp3 with ⟨z1, z2, z3⟩ | ⟨z1, z2, z3, z4⟩
                · exact ⟨S3, A3, rfl, rfl, mFR_t hfr2 hf3, z3, fun z => by cases z⟩
                · rw [h3] at z1; cases z1
        · skip
          replace e46 : A 7 a = 41 := e46
          rcases isJn_cs h2 with z | z <;> (rw [z] at e46; exact absurd e46 (by decide))
    · intro a es O W h1 h2 h3 h4
      intro S2 A2 hfr hms hal hO hWl hbd
      obtain ⟨p10, p18, p19, p17, p20, pL, pO, pW⟩ := id hms
      have q7 : A2 7 = A 7 := hfr.2.1 7 (by decide) (by decide) (by decide)
      refine kx_rn dM_condition 1 23 [(0, .ref m)] [.ref m] rfl ?_
      refine pM_96 (v := .int (S2 18)) rfl (kx_tk_dec rfl dM_condition) (mh_o hm) rfl ?_
      rw [p18]
      refine kx_rn dM_condition 1 27 [(0, .ref m)] [.ref m, .int (nI a)] rfl ?_
      refine pM_90 (v := .int (S2 10)) rfl (kx_tk_dec rfl dM_condition) (mh_o hm) rfl ?_
      rw [p10]
      refine kx_ic (tgt := 143) (kx_tk_dec rfl dM_condition) rfl (fun e30 => ?_) (fun e30 => ?_)
      · skip
        replace e30 : nI ln ≤ nI a := e30
        replace e30 : ln ≤ a := (nI_leI (a := ln) (b := a) (by omega) (by omega)).mp e30
        exfalso; omega
      · skip
        replace e30 : ¬ nI ln ≤ nI a := e30
        replace e30 : ¬ ln ≤ a := fun z => e30 ((nI_leI (a := ln) (b := a) (by omega) (by omega)).mpr z)
        refine kx_rn dM_condition 1 34 [(0, .ref m)] [.ref m] rfl ?_
        refine pM_28 (v := .ref (m + 7)) rfl (kx_tk_dec rfl dM_condition) (mh_o hm) rfl ?_
        refine kx_rn dM_condition 1 38 [(0, .ref m)] [.ref m, .ref (m + 7)] rfl ?_
        refine pM_96 (v := .int (S2 18)) rfl (kx_tk_dec rfl dM_condition) (mh_o hm) rfl ?_
        rw [p18]
        refine mh_ld (k := 7) (x := A2 7 a) (i := a) rfl rfl (kx_tk_dec rfl dM_condition) hm (by show a < 40; omega) ?_
        rw [q7]
        refine kx_rn dM_condition 3 46 [(0, .ref m), (1, .int (A 7 a))] [.int 41, .int (A 7 a)] rfl ?_
        refine kx_ic (tgt := 95) (kx_tk_dec rfl dM_condition) rfl (fun e46 => ?_) (fun e46 => ?_)
        · skip
          replace e46 : ¬ A 7 a = 41 := e46
          refine kx_rn dM_condition 2 98 [(0, .ref m), (1, .int (A 7 a))] [.int 38, .int (A 7 a)] rfl ?_
          refine kx_ic (tgt := 107) (kx_tk_dec rfl dM_condition) rfl (fun e98 => ?_) (fun e98 => ?_)
          · skip
            replace e98 : A 7 a = 38 := e98
            refine kx_rn dM_condition 2 109 [(0, .ref m), (1, .int (A 7 a))] [.int (A 7 a), .ref m] rfl ?_
            refine cM_119 (as := [.int (A 7 a)]) (st := []) (mc := 0) (ms := 0) (kc := 0) (ks := 0) rfl (kx_tk_dec rfl dM_condition) (mh_o hm) rfl rfl (Nat.le_of_ble_eq_true rfl) (cM_push (n := W.length) hst hm p20 (by omega)) (fun o h' hq => ?_)
            obtain ⟨rfl, rfl⟩ := hq
            show kx_w _ _ _ _ _ _ _ _ _ _ _
            refine kx_rn dM_condition 2 114 [(0, .ref m), (1, .int (A 7 a))] [.ref m, .ref m] rfl ?_
            refine pM_96 (v := .int (S2 18)) rfl (kx_tk_dec rfl dM_condition) (mh_o hm) rfl ?_
            rw [p18]
            refine kx_rn dM_condition 2 119 [(0, .ref m), (1, .int (A 7 a))] [.int ((nI a) + 1), .ref m] rfl ?_
            rw [show (nI a) + 1 = nI (a + 1) from kn_ad rfl rfl]
            refine qM_96 rfl (kx_tk_dec rfl dM_condition) (mh_o hm) rfl rfl (Nat.le_of_ble_eq_true rfl) ?_
            rw [mh_p18]
            refine kx_rn dM_condition 1 123 [(0, .ref m), (1, .int (A 7 a))] [.ref m] rfl ?_
            have hfr2 : mFR S A (va_up (va_up S2 20 (nI (W.length + 1))) 18 (nI (a + 1))) (va_up A2 13 (va_up (A2 13) W.length (A 7 a))) := mFR_S (mFR_A (mFR_S hfr (by omega)) (by omega)) (by omega)
            have hms2 : mST (va_up (va_up S2 20 (nI (W.length + 1))) 18 (nI (a + 1))) (va_up A2 13 (va_up (A2 13) W.length (A 7 a))) ln (a + 1) es O (A 7 a :: W) := ⟨p10, rfl, p19, p17, rfl, pL, pO, stk_push pW⟩
            have hpt := cM_part (d := d) (g := (gP (A 7) ln (5 - O.length) (a + 1) O (A 7 a :: W))) hst hm hln (by omega) hO (by simp only [List.length_cons]; omega) (by omega) hms2 (by rw [show (va_up A2 13 (va_up (A2 13) W.length (A 7 a))) 7 = A 7 from q7])
            refine cM_125 (as := []) (st := []) (mc := 0) (ms := 0) (kc := 0) (ks := 0) rfl (kx_tk_dec rfl dM_condition) (mh_o hm) rfl rfl (Nat.le_of_ble_eq_true rfl) (hpt) (fun o h' hq => ?_)
            obtain ⟨S3, A3, pb, rfl, rfl, hf3, hp3⟩ := hq
            show kx_w _ _ _ _ _ _ _ _ _ _ _
            rw [show (va_up A2 13 (va_up (A2 13) W.length (A 7 a))) 7 = A 7 from q7] at hp3
            refine kx_if (tgt := 131) (kx_tk_dec rfl dM_condition) rfl (fun e126 => ?_) (fun e126 => ?_)
            · skip
              replace e126 : ¬ b01 pb = 0 := e126
              replace e126 : pb = true := b01_t e126
              rcases hp3 with ⟨z1, z2, z3⟩ | ⟨z1, z2, z3, z4⟩
              · rw [z2] at e126; cases e126
              · rw [z2, h4] at e126; cases e126
            · skip
              replace e126 : b01 pb = 0 := e126
              replace e126 : pb = false := b01_f e126
              refine kx_rn dM_condition 1 130 [(0, .ref m), (1, .int (A 7 a))] [.int 0] rfl ?_
              refine kx_ret (ty := .boolean) (kx_tk_dec rfl dM_condition) rfl rfl ?_
              rcases hp3 with ⟨z1, z2, z3⟩ | ⟨z1, z2, z3, z4⟩
              · rw [h3] at z1; cases z1
              · exact ⟨S3, A3, rfl, rfl, mFR_t hfr2 hf3, z3, fun z => by cases z⟩
          · skip
            replace e98 : ¬ A 7 a = 38 := e98
            refine kx_rn dM_condition 2 104 [(0, .ref m), (1, .int (A 7 a))] [.int 124, .int (A 7 a)] rfl ?_
            refine kx_ic (tgt := 138) (kx_tk_dec rfl dM_condition) rfl (fun e104 => ?_) (fun e104 => ?_)
            · skip
              replace e104 : ¬ A 7 a = 124 := e104
              rcases isJn_cs h2 with z | z
              · exact absurd z e98
              · exact absurd z e104
            · skip
              replace e104 : A 7 a = 124 := e104
              refine kx_rn dM_condition 2 109 [(0, .ref m), (1, .int (A 7 a))] [.int (A 7 a), .ref m] rfl ?_
              refine cM_119 (as := [.int (A 7 a)]) (st := []) (mc := 0) (ms := 0) (kc := 0) (ks := 0) rfl (kx_tk_dec rfl dM_condition) (mh_o hm) rfl rfl (Nat.le_of_ble_eq_true rfl) (cM_push (n := W.length) hst hm p20 (by omega)) (fun o h' hq => ?_)
              obtain ⟨rfl, rfl⟩ := hq
              show kx_w _ _ _ _ _ _ _ _ _ _ _
              refine kx_rn dM_condition 2 114 [(0, .ref m), (1, .int (A 7 a))] [.ref m, .ref m] rfl ?_
              refine pM_96 (v := .int (S2 18)) rfl (kx_tk_dec rfl dM_condition) (mh_o hm) rfl ?_
              rw [p18]
              refine kx_rn dM_condition 2 119 [(0, .ref m), (1, .int (A 7 a))] [.int ((nI a) + 1), .ref m] rfl ?_
              rw [show (nI a) + 1 = nI (a + 1) from kn_ad rfl rfl]
              refine qM_96 rfl (kx_tk_dec rfl dM_condition) (mh_o hm) rfl rfl (Nat.le_of_ble_eq_true rfl) ?_
              rw [mh_p18]
              refine kx_rn dM_condition 1 123 [(0, .ref m), (1, .int (A 7 a))] [.ref m] rfl ?_
              have hfr2 : mFR S A (va_up (va_up S2 20 (nI (W.length + 1))) 18 (nI (a + 1))) (va_up A2 13 (va_up (A2 13) W.length (A 7 a))) := mFR_S (mFR_A (mFR_S hfr (by omega)) (by omega)) (by omega)
              have hms2 : mST (va_up (va_up S2 20 (nI (W.length + 1))) 18 (nI (a + 1))) (va_up A2 13 (va_up (A2 13) W.length (A 7 a))) ln (a + 1) es O (A 7 a :: W) := ⟨p10, rfl, p19, p17, rfl, pL, pO, stk_push pW⟩
              have hpt := cM_part (d := d) (g := (gP (A 7) ln (5 - O.length) (a + 1) O (A 7 a :: W))) hst hm hln (by omega) hO (by simp only [List.length_cons]; omega) (by omega) hms2 (by rw [show (va_up A2 13 (va_up (A2 13) W.length (A 7 a))) 7 = A 7 from q7])
              refine cM_125 (as := []) (st := []) (mc := 0) (ms := 0) (kc := 0) (ks := 0) rfl (kx_tk_dec rfl dM_condition) (mh_o hm) rfl rfl (Nat.le_of_ble_eq_true rfl) (hpt) (fun o h' hq => ?_)
              obtain ⟨S3, A3, pb, rfl, rfl, hf3, hp3⟩ := hq
              show kx_w _ _ _ _ _ _ _ _ _ _ _
              rw [show (va_up A2 13 (va_up (A2 13) W.length (A 7 a))) 7 = A 7 from q7] at hp3
              refine kx_if (tgt := 131) (kx_tk_dec rfl dM_condition) rfl (fun e126 => ?_) (fun e126 => ?_)
              · skip
                replace e126 : ¬ b01 pb = 0 := e126
                replace e126 : pb = true := b01_t e126
                rcases hp3 with ⟨z1, z2, z3⟩ | ⟨z1, z2, z3, z4⟩
                · rw [z2] at e126; cases e126
                · rw [z2, h4] at e126; cases e126
              · skip
                replace e126 : b01 pb = 0 := e126
                replace e126 : pb = false := b01_f e126
                refine kx_rn dM_condition 1 130 [(0, .ref m), (1, .int (A 7 a))] [.int 0] rfl ?_
                refine kx_ret (ty := .boolean) (kx_tk_dec rfl dM_condition) rfl rfl ?_
                rcases hp3 with ⟨z1, z2, z3⟩ | ⟨z1, z2, z3, z4⟩
                · rw [h3] at z1; cases z1
                · exact ⟨S3, A3, rfl, rfl, mFR_t hfr2 hf3, z3, fun z => by cases z⟩
        · skip
          replace e46 : A 7 a = 41 := e46
          rcases isJn_cs h2 with z | z <;> (rw [z] at e46; exact absurd e46 (by decide))
    · intro a es O W r h1 h2 h3 h4 ih
      intro S2 A2 hfr hms hal hO hWl hbd
      obtain ⟨p10, p18, p19, p17, p20, pL, pO, pW⟩ := id hms
      have q7 : A2 7 = A 7 := hfr.2.1 7 (by decide) (by decide) (by decide)
      refine kx_rn dM_condition 1 23 [(0, .ref m)] [.ref m] rfl ?_
      refine pM_96 (v := .int (S2 18)) rfl (kx_tk_dec rfl dM_condition) (mh_o hm) rfl ?_
      rw [p18]
      refine kx_rn dM_condition 1 27 [(0, .ref m)] [.ref m, .int (nI a)] rfl ?_
      refine pM_90 (v := .int (S2 10)) rfl (kx_tk_dec rfl dM_condition) (mh_o hm) rfl ?_
      rw [p10]
      refine kx_ic (tgt := 143) (kx_tk_dec rfl dM_condition) rfl (fun e30 => ?_) (fun e30 => ?_)
      · skip
        replace e30 : nI ln ≤ nI a := e30
        replace e30 : ln ≤ a := (nI_leI (a := ln) (b := a) (by omega) (by omega)).mp e30
        exfalso; omega
      · skip
        replace e30 : ¬ nI ln ≤ nI a := e30
        replace e30 : ¬ ln ≤ a := fun z => e30 ((nI_leI (a := ln) (b := a) (by omega) (by omega)).mpr z)
        refine kx_rn dM_condition 1 34 [(0, .ref m)] [.ref m] rfl ?_
        refine pM_28 (v := .ref (m + 7)) rfl (kx_tk_dec rfl dM_condition) (mh_o hm) rfl ?_
        refine kx_rn dM_condition 1 38 [(0, .ref m)] [.ref m, .ref (m + 7)] rfl ?_
        refine pM_96 (v := .int (S2 18)) rfl (kx_tk_dec rfl dM_condition) (mh_o hm) rfl ?_
        rw [p18]
        refine mh_ld (k := 7) (x := A2 7 a) (i := a) rfl rfl (kx_tk_dec rfl dM_condition) hm (by show a < 40; omega) ?_
        rw [q7]
        refine kx_rn dM_condition 3 46 [(0, .ref m), (1, .int (A 7 a))] [.int 41, .int (A 7 a)] rfl ?_
        refine kx_ic (tgt := 95) (kx_tk_dec rfl dM_condition) rfl (fun e46 => ?_) (fun e46 => ?_)
        · skip
          replace e46 : ¬ A 7 a = 41 := e46
          refine kx_rn dM_condition 2 98 [(0, .ref m), (1, .int (A 7 a))] [.int 38, .int (A 7 a)] rfl ?_
          refine kx_ic (tgt := 107) (kx_tk_dec rfl dM_condition) rfl (fun e98 => ?_) (fun e98 => ?_)
          · skip
            replace e98 : A 7 a = 38 := e98
            refine kx_rn dM_condition 2 109 [(0, .ref m), (1, .int (A 7 a))] [.int (A 7 a), .ref m] rfl ?_
            refine cM_119 (as := [.int (A 7 a)]) (st := []) (mc := 0) (ms := 0) (kc := 0) (ks := 0) rfl (kx_tk_dec rfl dM_condition) (mh_o hm) rfl rfl (Nat.le_of_ble_eq_true rfl) (cM_push (n := W.length) hst hm p20 (by omega)) (fun o h' hq => ?_)
            obtain ⟨rfl, rfl⟩ := hq
            show kx_w _ _ _ _ _ _ _ _ _ _ _
            refine kx_rn dM_condition 2 114 [(0, .ref m), (1, .int (A 7 a))] [.ref m, .ref m] rfl ?_
            refine pM_96 (v := .int (S2 18)) rfl (kx_tk_dec rfl dM_condition) (mh_o hm) rfl ?_
            rw [p18]
            refine kx_rn dM_condition 2 119 [(0, .ref m), (1, .int (A 7 a))] [.int ((nI a) + 1), .ref m] rfl ?_
            rw [show (nI a) + 1 = nI (a + 1) from kn_ad rfl rfl]
            refine qM_96 rfl (kx_tk_dec rfl dM_condition) (mh_o hm) rfl rfl (Nat.le_of_ble_eq_true rfl) ?_
            rw [mh_p18]
            refine kx_rn dM_condition 1 123 [(0, .ref m), (1, .int (A 7 a))] [.ref m] rfl ?_
            have hfr2 : mFR S A (va_up (va_up S2 20 (nI (W.length + 1))) 18 (nI (a + 1))) (va_up A2 13 (va_up (A2 13) W.length (A 7 a))) := mFR_S (mFR_A (mFR_S hfr (by omega)) (by omega)) (by omega)
            have hms2 : mST (va_up (va_up S2 20 (nI (W.length + 1))) 18 (nI (a + 1))) (va_up A2 13 (va_up (A2 13) W.length (A 7 a))) ln (a + 1) es O (A 7 a :: W) := ⟨p10, rfl, p19, p17, rfl, pL, pO, stk_push pW⟩
            have hpt := cM_part (d := d) (g := (gP (A 7) ln (5 - O.length) (a + 1) O (A 7 a :: W))) hst hm hln (by omega) hO (by simp only [List.length_cons]; omega) (by omega) hms2 (by rw [show (va_up A2 13 (va_up (A2 13) W.length (A 7 a))) 7 = A 7 from q7])
            refine cM_125 (as := []) (st := []) (mc := 0) (ms := 0) (kc := 0) (ks := 0) rfl (kx_tk_dec rfl dM_condition) (mh_o hm) rfl rfl (Nat.le_of_ble_eq_true rfl) (hpt) (fun o h' hq => ?_)
            obtain ⟨S3, A3, pb, rfl, rfl, hf3, hp3⟩ := hq
            show kx_w _ _ _ _ _ _ _ _ _ _ _
            rw [show (va_up A2 13 (va_up (A2 13) W.length (A 7 a))) 7 = A 7 from q7] at hp3
            refine kx_if (tgt := 131) (kx_tk_dec rfl dM_condition) rfl (fun e126 => ?_) (fun e126 => ?_)
            · skip
              replace e126 : ¬ b01 pb = 0 := e126
              replace e126 : pb = true := b01_t e126
              refine kx_rn dM_condition 1 132 [(0, .ref m), (1, .int (A 7 a))] [.ref m] rfl ?_
              have hms3 : mST S3 A3 ln (rComp (A 7) ln (gP (A 7) ln (5 - O.length) (a + 1) O (A 7 a :: W)).2.1).2.1 (es ++ (rComp (A 7) ln (gP (A 7) ln (5 - O.length) (a + 1) O (A 7 a :: W)).2.1).2.2) (gP (A 7) ln (5 - O.length) (a + 1) O (A 7 a :: W)).2.2.1 (gP (A 7) ln (5 - O.length) (a + 1) O (A 7 a :: W)).2.2.2 := by
                rcases hp3 with ⟨z1, z2, z3⟩ | ⟨z1, z2, z3, z4⟩
                · rw [h3] at z1; cases z1
                · exact z4 e126
              obtain ⟨g1, g2, g3, g4, g5⟩ := gP_gd (tx := A 7) (ln := ln) (5 - O.length) (a + 1) O (A 7 a :: W) (by omega) (by omega)
              obtain ⟨f1, f2, f3⟩ := rComp_gd (A 7) ln (gP (A 7) ln (5 - O.length) (a + 1) O (A 7 a :: W)).2.1 g2
              obtain ⟨f4, f5⟩ := f3 h4
              have hcj : cj (A 7 a :: W) = cj W + 1 := by simp only [cj]; rw [if_neg (isJn_40 h2)]
              have hbd3 : (es ++ (rComp (A 7) ln (gP (A 7) ln (5 - O.length) (a + 1) O (A 7 a :: W)).2.1).2.2).length + (gP (A 7) ln (5 - O.length) (a + 1) O (A 7 a :: W)).2.2.1.length + cj (gP (A 7) ln (5 - O.length) (a + 1) O (A 7 a :: W)).2.2.2 ≤ (rComp (A 7) ln (gP (A 7) ln (5 - O.length) (a + 1) O (A 7 a :: W)).2.1).2.1 := by rw [List.length_append]; omega
              have hw3 : (gP (A 7) ln (5 - O.length) (a + 1) O (A 7 a :: W)).2.2.2.length ≤ (rComp (A 7) ln (gP (A 7) ln (5 - O.length) (a + 1) O (A 7 a :: W)).2.1).2.1 := by simp only [List.length_cons] at g5; omega
              refine cM_128 (as := []) (st := []) (mc := 0) (ms := 0) (kc := 0) (ks := 0) rfl (kx_tk_dec rfl dM_condition) (mh_o hm) rfl rfl (Nat.le_of_ble_eq_true rfl) (cM_endPart (d := d + 3) (e := gE (es ++ (rComp (A 7) ln (gP (A 7) ln (5 - O.length) (a + 1) O (A 7 a :: W)).2.1).2.2) (gP (A 7) ln (5 - O.length) (a + 1) O (A 7 a :: W)).2.2.1 (gP (A 7) ln (5 - O.length) (a + 1) O (A 7 a :: W)).2.2.2) hst hm hms3 (by omega) (by omega) (by omega) rfl) (fun o h' hq => ?_)
              obtain ⟨S4, A4, rfl, rfl, hf4, hm4⟩ := hq
              show kx_w _ _ _ _ _ _ _ _ _ _ _
              refine kx_rn dM_condition 2 22 [(0, .ref m), (1, .int (A 7 a))] [] rfl ?_
              refine kx_lsub (lv' := [(0, .ref m)]) (.cons₂ _ (.cons _ .slnil)) ?_
              obtain ⟨z1, z2, z3⟩ := gE_gd (es ++ (rComp (A 7) ln (gP (A 7) ln (5 - O.length) (a + 1) O (A 7 a :: W)).2.1).2.2) (gP (A 7) ln (5 - O.length) (a + 1) O (A 7 a :: W)).2.2.1 (gP (A 7) ln (5 - O.length) (a + 1) O (A 7 a :: W)).2.2.2
              exact ih S4 A4 (mFR_t (mFR_t hfr2 hf3) hf4) hm4 f2 (by omega) (by omega) (by omega)
            · skip
              replace e126 : b01 pb = 0 := e126
              replace e126 : pb = false := b01_f e126
              rcases hp3 with ⟨z1, z2, z3⟩ | ⟨z1, z2, z3, z4⟩
              · rw [h3] at z1; cases z1
              · rw [z2, h4] at e126; cases e126
          · skip
            replace e98 : ¬ A 7 a = 38 := e98
            refine kx_rn dM_condition 2 104 [(0, .ref m), (1, .int (A 7 a))] [.int 124, .int (A 7 a)] rfl ?_
            refine kx_ic (tgt := 138) (kx_tk_dec rfl dM_condition) rfl (fun e104 => ?_) (fun e104 => ?_)
            · skip
              replace e104 : ¬ A 7 a = 124 := e104
              rcases isJn_cs h2 with z | z
              · exact absurd z e98
              · exact absurd z e104
            · skip
              replace e104 : A 7 a = 124 := e104
              refine kx_rn dM_condition 2 109 [(0, .ref m), (1, .int (A 7 a))] [.int (A 7 a), .ref m] rfl ?_
              refine cM_119 (as := [.int (A 7 a)]) (st := []) (mc := 0) (ms := 0) (kc := 0) (ks := 0) rfl (kx_tk_dec rfl dM_condition) (mh_o hm) rfl rfl (Nat.le_of_ble_eq_true rfl) (cM_push (n := W.length) hst hm p20 (by omega)) (fun o h' hq => ?_)
              obtain ⟨rfl, rfl⟩ := hq
              show kx_w _ _ _ _ _ _ _ _ _ _ _
              refine kx_rn dM_condition 2 114 [(0, .ref m), (1, .int (A 7 a))] [.ref m, .ref m] rfl ?_
              refine pM_96 (v := .int (S2 18)) rfl (kx_tk_dec rfl dM_condition) (mh_o hm) rfl ?_
              rw [p18]
              refine kx_rn dM_condition 2 119 [(0, .ref m), (1, .int (A 7 a))] [.int ((nI a) + 1), .ref m] rfl ?_
              rw [show (nI a) + 1 = nI (a + 1) from kn_ad rfl rfl]
              refine qM_96 rfl (kx_tk_dec rfl dM_condition) (mh_o hm) rfl rfl (Nat.le_of_ble_eq_true rfl) ?_
              rw [mh_p18]
              refine kx_rn dM_condition 1 123 [(0, .ref m), (1, .int (A 7 a))] [.ref m] rfl ?_
              have hfr2 : mFR S A (va_up (va_up S2 20 (nI (W.length + 1))) 18 (nI (a + 1))) (va_up A2 13 (va_up (A2 13) W.length (A 7 a))) := mFR_S (mFR_A (mFR_S hfr (by omega)) (by omega)) (by omega)
              have hms2 : mST (va_up (va_up S2 20 (nI (W.length + 1))) 18 (nI (a + 1))) (va_up A2 13 (va_up (A2 13) W.length (A 7 a))) ln (a + 1) es O (A 7 a :: W) := ⟨p10, rfl, p19, p17, rfl, pL, pO, stk_push pW⟩
              have hpt := cM_part (d := d) (g := (gP (A 7) ln (5 - O.length) (a + 1) O (A 7 a :: W))) hst hm hln (by omega) hO (by simp only [List.length_cons]; omega) (by omega) hms2 (by rw [show (va_up A2 13 (va_up (A2 13) W.length (A 7 a))) 7 = A 7 from q7])
              refine cM_125 (as := []) (st := []) (mc := 0) (ms := 0) (kc := 0) (ks := 0) rfl (kx_tk_dec rfl dM_condition) (mh_o hm) rfl rfl (Nat.le_of_ble_eq_true rfl) (hpt) (fun o h' hq => ?_)
              obtain ⟨S3, A3, pb, rfl, rfl, hf3, hp3⟩ := hq
              show kx_w _ _ _ _ _ _ _ _ _ _ _
              rw [show (va_up A2 13 (va_up (A2 13) W.length (A 7 a))) 7 = A 7 from q7] at hp3
              refine kx_if (tgt := 131) (kx_tk_dec rfl dM_condition) rfl (fun e126 => ?_) (fun e126 => ?_)
              · skip
                replace e126 : ¬ b01 pb = 0 := e126
                replace e126 : pb = true := b01_t e126
                refine kx_rn dM_condition 1 132 [(0, .ref m), (1, .int (A 7 a))] [.ref m] rfl ?_
                have hms3 : mST S3 A3 ln (rComp (A 7) ln (gP (A 7) ln (5 - O.length) (a + 1) O (A 7 a :: W)).2.1).2.1 (es ++ (rComp (A 7) ln (gP (A 7) ln (5 - O.length) (a + 1) O (A 7 a :: W)).2.1).2.2) (gP (A 7) ln (5 - O.length) (a + 1) O (A 7 a :: W)).2.2.1 (gP (A 7) ln (5 - O.length) (a + 1) O (A 7 a :: W)).2.2.2 := by
                  rcases hp3 with ⟨z1, z2, z3⟩ | ⟨z1, z2, z3, z4⟩
                  · rw [h3] at z1; cases z1
                  · exact z4 e126
                obtain ⟨g1, g2, g3, g4, g5⟩ := gP_gd (tx := A 7) (ln := ln) (5 - O.length) (a + 1) O (A 7 a :: W) (by omega) (by omega)
                obtain ⟨f1, f2, f3⟩ := rComp_gd (A 7) ln (gP (A 7) ln (5 - O.length) (a + 1) O (A 7 a :: W)).2.1 g2
                obtain ⟨f4, f5⟩ := f3 h4
                have hcj : cj (A 7 a :: W) = cj W + 1 := by simp only [cj]; rw [if_neg (isJn_40 h2)]
                have hbd3 : (es ++ (rComp (A 7) ln (gP (A 7) ln (5 - O.length) (a + 1) O (A 7 a :: W)).2.1).2.2).length + (gP (A 7) ln (5 - O.length) (a + 1) O (A 7 a :: W)).2.2.1.length + cj (gP (A 7) ln (5 - O.length) (a + 1) O (A 7 a :: W)).2.2.2 ≤ (rComp (A 7) ln (gP (A 7) ln (5 - O.length) (a + 1) O (A 7 a :: W)).2.1).2.1 := by rw [List.length_append]; omega
                have hw3 : (gP (A 7) ln (5 - O.length) (a + 1) O (A 7 a :: W)).2.2.2.length ≤ (rComp (A 7) ln (gP (A 7) ln (5 - O.length) (a + 1) O (A 7 a :: W)).2.1).2.1 := by simp only [List.length_cons] at g5; omega
                refine cM_128 (as := []) (st := []) (mc := 0) (ms := 0) (kc := 0) (ks := 0) rfl (kx_tk_dec rfl dM_condition) (mh_o hm) rfl rfl (Nat.le_of_ble_eq_true rfl) (cM_endPart (d := d + 3) (e := gE (es ++ (rComp (A 7) ln (gP (A 7) ln (5 - O.length) (a + 1) O (A 7 a :: W)).2.1).2.2) (gP (A 7) ln (5 - O.length) (a + 1) O (A 7 a :: W)).2.2.1 (gP (A 7) ln (5 - O.length) (a + 1) O (A 7 a :: W)).2.2.2) hst hm hms3 (by omega) (by omega) (by omega) rfl) (fun o h' hq => ?_)
                obtain ⟨S4, A4, rfl, rfl, hf4, hm4⟩ := hq
                show kx_w _ _ _ _ _ _ _ _ _ _ _
                refine kx_rn dM_condition 2 22 [(0, .ref m), (1, .int (A 7 a))] [] rfl ?_
                refine kx_lsub (lv' := [(0, .ref m)]) (.cons₂ _ (.cons _ .slnil)) ?_
                obtain ⟨z1, z2, z3⟩ := gE_gd (es ++ (rComp (A 7) ln (gP (A 7) ln (5 - O.length) (a + 1) O (A 7 a :: W)).2.1).2.2) (gP (A 7) ln (5 - O.length) (a + 1) O (A 7 a :: W)).2.2.1 (gP (A 7) ln (5 - O.length) (a + 1) O (A 7 a :: W)).2.2.2
                exact ih S4 A4 (mFR_t (mFR_t hfr2 hf3) hf4) hm4 f2 (by omega) (by omega) (by omega)
              · skip
                replace e126 : b01 pb = 0 := e126
                replace e126 : pb = false := b01_f e126
                rcases hp3 with ⟨z1, z2, z3⟩ | ⟨z1, z2, z3, z4⟩
                · rw [h3] at z1; cases z1
                · rw [z2, h4] at e126; cases e126
        · skip
          replace e46 : A 7 a = 41 := e46
          rcases isJn_cs h2 with z | z <;> (rw [z] at e46; exact absurd e46 (by decide))
  refine kx_rn dM_condition 1 1 [(0, .ref m)] [.ref m] rfl ?_
  refine pM_90 (v := .int (S 10)) rfl (kx_tk_dec rfl dM_condition) (mh_o hm) rfl ?_
  rw [hl]
  refine kx_if (tgt := 9) (kx_tk_dec rfl dM_condition) rfl (fun e4 => ?_) (fun e4 => ?_)
  · skip
    replace e4 : ¬ nI ln = 0 := e4
    replace e4 : ¬ ln = 0 := fun z => e4 ((nI_eq (a := ln) (b := 0) (by omega) (by omega)).mpr z)
    refine kx_rn dM_condition 1 10 [(0, .ref m)] [.ref m] rfl ?_
    refine cM_125 (as := []) (st := []) (mc := 0) (ms := 0) (kc := 0) (ks := 0) rfl (kx_tk_dec rfl dM_condition) (mh_o hm) rfl rfl (Nat.le_of_ble_eq_true rfl) (cM_part (d := d) (g := (gP (A 7) ln 5 0 [] [])) hst hm hln (Nat.zero_le _) (by decide) (Nat.le_refl _) (Nat.le_refl _) hms rfl) (fun o h' hq => ?_)
    obtain ⟨S3, A3, pb, rfl, rfl, hf3, hp3⟩ := hq
    show kx_w _ _ _ _ _ _ _ _ _ _ _
    refine kx_if (tgt := 18) (kx_tk_dec rfl dM_condition) rfl (fun e13 => ?_) (fun e13 => ?_)
    · skip
      replace e13 : ¬ b01 pb = 0 := e13
      replace e13 : pb = true := b01_t e13
      refine kx_rn dM_condition 1 19 [(0, .ref m)] [.ref m] rfl ?_
      have hc0 : (gP (A 7) ln 5 0 [] []).1 = true ∧ (rComp (A 7) ln (gP (A 7) ln 5 0 [] []).2.1).1 = true ∧ mST S3 A3 ln (rComp (A 7) ln (gP (A 7) ln 5 0 [] []).2.1).2.1 ([] ++ (rComp (A 7) ln (gP (A 7) ln 5 0 [] []).2.1).2.2) (gP (A 7) ln 5 0 [] []).2.2.1 (gP (A 7) ln 5 0 [] []).2.2.2 := by
        rcases hp3 with ⟨z1, z2, z3⟩ | ⟨z1, z2, z3, z4⟩
        · rw [z2] at e13; cases e13
        · exact ⟨z1, by rw [← z2]; exact e13, z4 e13⟩
      obtain ⟨h3, h4, hms3⟩ := hc0
      obtain ⟨g1, g2, g3, g4, g5⟩ := gP_gd (tx := A 7) (ln := ln) 5 0 [] [] (Nat.zero_le _) rfl
      obtain ⟨f1, f2, f3⟩ := rComp_gd (A 7) ln (gP (A 7) ln 5 0 [] []).2.1 g2
      obtain ⟨f4, f5⟩ := f3 h4
      simp only [List.length_nil, cj] at g4 g5
      have hbd3 : ([] ++ (rComp (A 7) ln (gP (A 7) ln 5 0 [] []).2.1).2.2).length + (gP (A 7) ln 5 0 [] []).2.2.1.length + cj (gP (A 7) ln 5 0 [] []).2.2.2 ≤ (rComp (A 7) ln (gP (A 7) ln 5 0 [] []).2.1).2.1 := by rw [List.nil_append]; omega
      have hw3 : (gP (A 7) ln 5 0 [] []).2.2.2.length ≤ (rComp (A 7) ln (gP (A 7) ln 5 0 [] []).2.1).2.1 := by omega
      have hR : gR (A 7) ln (rComp (A 7) ln (gP (A 7) ln 5 0 [] []).2.1).2.1 (gE ([] ++ (rComp (A 7) ln (gP (A 7) ln 5 0 [] []).2.1).2.2) (gP (A 7) ln 5 0 [] []).2.2.1 (gP (A 7) ln 5 0 [] []).2.2.2).1 (gE ([] ++ (rComp (A 7) ln (gP (A 7) ln 5 0 [] []).2.1).2.2) (gP (A 7) ln 5 0 [] []).2.2.1 (gP (A 7) ln 5 0 [] []).2.2.2).2.1 (gE ([] ++ (rComp (A 7) ln (gP (A 7) ln 5 0 [] []).2.1).2.2) (gP (A 7) ln 5 0 [] []).2.2.1 (gP (A 7) ln 5 0 [] []).2.2.2).2.2 (pCond (A 7) ln) := by
        rcases gT_cond (tx := A 7) hln e4 with ⟨z1, z2⟩ | ⟨z1, z2, z3⟩ | ⟨z1, z2, z3⟩
        · rw [h3] at z1; cases z1
        · rw [h4] at z2; cases z2
        · exact z3
      refine cM_128 (as := []) (st := []) (mc := 0) (ms := 0) (kc := 0) (ks := 0) rfl (kx_tk_dec rfl dM_condition) (mh_o hm) rfl rfl (Nat.le_of_ble_eq_true rfl) (cM_endPart (d := d + 3) (e := gE ([] ++ (rComp (A 7) ln (gP (A 7) ln 5 0 [] []).2.1).2.2) (gP (A 7) ln 5 0 [] []).2.2.1 (gP (A 7) ln 5 0 [] []).2.2.2) hst hm hms3 (by omega) (by omega) (by omega) rfl) (fun o h' hq => ?_)
      obtain ⟨S4, A4, rfl, rfl, hf4, hm4⟩ := hq
      show kx_w _ _ _ _ _ _ _ _ _ _ _
      obtain ⟨z1, z2, z3⟩ := gE_gd ([] ++ (rComp (A 7) ln (gP (A 7) ln 5 0 [] []).2.1).2.2) (gP (A 7) ln 5 0 [] []).2.2.1 (gP (A 7) ln 5 0 [] []).2.2.2
      exact loop _ _ _ _ _ hR S4 A4 (mFR_t hf3 hf4) hm4 f2 (by omega) (by omega) (by omega)
    · skip
      replace e13 : b01 pb = 0 := e13
      replace e13 : pb = false := b01_f e13
      refine kx_rn dM_condition 1 17 [(0, .ref m)] [.int 0] rfl ?_
      refine kx_ret (ty := .boolean) (kx_tk_dec rfl dM_condition) rfl rfl ?_
      rcases gT_cond (tx := A 7) hln e4 with ⟨z1, z2⟩ | ⟨z1, z2, z3⟩ | ⟨z1, z2, z3⟩
      · rw [z2]
        rcases hp3 with ⟨y1, y2, y3⟩ | ⟨y1, y2, y3, y4⟩
        · exact ⟨S3, A3, rfl, rfl, hf3, y3, fun z => by cases z⟩
        · rw [z1] at y1; cases y1
      · rw [z3]
        rcases hp3 with ⟨y1, y2, y3⟩ | ⟨y1, y2, y3, y4⟩
        · rw [z1] at y1; cases y1
        · exact ⟨S3, A3, rfl, rfl, hf3, y3, fun z => by cases z⟩
      · rcases hp3 with ⟨y1, y2, y3⟩ | ⟨y1, y2, y3, y4⟩
        · rw [z1] at y1; cases y1
        · rw [y2, z2] at e13; cases e13
  · skip
    replace e4 : nI ln = 0 := e4
    replace e4 : ln = 0 := (nI_eq (a := ln) (b := 0) (by omega) (by omega)).mp e4
    refine kx_rn dM_condition 1 8 [(0, .ref m)] [.int 1] rfl ?_
    refine kx_ret (ty := .boolean) (kx_tk_dec rfl dM_condition) rfl rfl ?_
    have hr : pCond (A 7) ln = (true, 0, []) := by unfold pCond; rw [if_pos e4]
    rw [hr]
    obtain ⟨p10, p18, p19, p17, p20, pL, pO, pW⟩ := id hms
    exact ⟨S, A, rfl, rfl, mFR_r S A, p18, fun _ => ⟨p19, pL⟩⟩
end KM15
