/-! ===== the reference: select ===== -/
section KM9
variable {G : kx_G} {l : Launch} {d : Nat} {h0 : kx_H} {m : Nat} {S : Nat → Int32} {A : Nat → Nat → Int32}
theorem cnt_mono (p : Nat → Bool) {a b : Nat} (h : a ≤ b) : cnt p a ≤ cnt p b := by
  induction b with
  | zero => have : a = 0 := by omega
            subst this; exact Nat.le_refl _
  | succ b ih =>
    rcases Nat.lt_or_ge a (b + 1) with z | z
    · exact Nat.le_trans (ih (by omega)) (Nat.le_add_right _ _)
    · have : a = b + 1 := by omega
      subst this; exact Nat.le_refl _
theorem cnt_lt {p : Nat → Bool} {a b : Nat} (h : a < b) (hp : p a = true) : cnt p a < cnt p b := by
  have h1 := cnt_mono p (a := a + 1) (b := b) (by omega)
  rw [cnt_succ, if_pos hp] at h1
  omega
/-- the kept programs: 0 the condition, 1 .. 4 the settings -/
def mProg (A : Nat → Nat → Int32) (PP : Nat → Nat → Int32) (SZ : Nat → Nat) : Prop := ∀ i, i < 5 → A 9 i = nI (SZ i) ∧ wfP (PP i) (SZ i) ∧ ∀ k, k < SZ i → A 8 (44 * i + k) = PP i k
/-- row r of table kn is chosen -/
def mMt (V : Nat → Nat) (A6 A5 P : Nat → Int32) (sz tn kn r : Nat) : Bool := decide (vdct V A6 A5 P sz tn (24 * kn + r) = 1)
theorem mMt_w {V : Nat → Nat} {A6 A5 P : Nat → Int32} {sz tn kn r : Nat} (h : mMt V A6 A5 P sz tn kn r = true) : ¬ hwq V tn (24 * kn + r) = 0 := fun z => by
  unfold mMt vdct at h
  rw [if_pos z] at h
  exact absurd h (by decide)
def selQ (h0 : kx_H) (m : Nat) (S : Nat → Int32) (A : Nat → Nat → Int32) (V : Nat → Nat) (PP : Nat → Nat → Int32) (SZ RW SC : Nat → Nat) (bg : Nat) (t k : Int32) : Outcome → kx_H → Prop := fun o h' => (¬ (mOp A bg t ∧ mTb A k) ∧ o = .returned (some (.int 0)) ∧ h' = mH h0 m (va_up S 0 1) A) ∨ ∃ tn kn, 1 ≤ tn ∧ tn ≤ bg ∧ t = nI tn ∧ A 6 tn = 1 ∧ kn < 3 ∧ k = nI kn ∧ ¬ A 1 kn = 0 ∧ ∃ (S1 : Nat → Int32) (A1 : Nat → Nat → Int32), h' = mH h0 m S1 A1 ∧ ((S1 0 = 2 ∧ o = .returned (some (.int 0)) ∧ (∃ r, r < RW kn ∧ vdct V (A 6) (A 5) (PP 0) (SZ 0) tn (24 * kn + r) = 2 ∧ ∀ p, p < r → vdct V (A 6) (A 5) (PP 0) (SZ 0) tn (24 * kn + p) ≤ 1) ∧ (∀ k, k ≠ 0 → k ≠ 22 → S1 k = S k) ∧ (∀ k, k ≠ 12 → k ≠ 16 → k ≠ 18 → A1 k = A k)) ∨ (S1 0 = 3 ∧ o = .returned (some (.int 0)) ∧ (∃ r, r < RW kn ∧ vdct V (A 6) (A 5) (PP 0) (SZ 0) tn (24 * kn + r) = 3 ∧ ∀ p, p < r → vdct V (A 6) (A 5) (PP 0) (SZ 0) tn (24 * kn + p) ≤ 1) ∧ (∀ k, k ≠ 0 → k ≠ 22 → S1 k = S k) ∧ (∀ k, k ≠ 12 → k ≠ 16 → k ≠ 18 → A1 k = A k)) ∨ ((∀ r, r < RW kn → vdct V (A 6) (A 5) (PP 0) (SZ 0) tn (24 * kn + r) ≤ 1) ∧ o = .returned (some (.int (nI (cnt (mMt V (A 6) (A 5) (PP 0) (SZ 0) tn kn) (RW kn))))) ∧ S1 0 = 0 ∧ S1 25 = nI (cnt (mMt V (A 6) (A 5) (PP 0) (SZ 0) tn kn) (RW kn)) ∧ (∀ k, k ≠ 0 → k ≠ 22 → k ≠ 25 → S1 k = S k) ∧ (∀ k, k ≠ 12 → k ≠ 16 → k ≠ 18 → k ≠ 3 → k ≠ 4 → k ≠ 14 → k ≠ 15 → A1 k = A k) ∧ A1 3 = va_up (A 3) kn (nI (max (SC kn) tn)) ∧ (∃ U : Nat → Nat, (∀ v, A1 4 v = nI (U v)) ∧ (∀ v, U v < 256) ∧ ∀ q w, w < 40 → U (40 * q + w) = vMark V (hwq V tn) kn tn (RW kn) q w) ∧ ∀ r, r < RW kn → mMt V (A 6) (A 5) (PP 0) (SZ 0) tn kn r = true → A1 14 (cnt (mMt V (A 6) (A 5) (PP 0) (SZ 0) tn kn) r) = nI r ∧ ∀ c, c < 4 → A1 15 (4 * cnt (mMt V (A 6) (A 5) (PP 0) (SZ 0) tn kn) r + c) = A 5 (4 * (40 * (24 * kn + r) + (hwq V tn (24 * kn + r) - 1)) + c)))
set_option maxRecDepth 100000 in
theorem cM_select {t k : Int32} (hst : l.stackTraces = false) (hm : mOk G h0 m) {bg : Nat} (hb : S 7 = nI bg) (hbg : bg ≤ 40) {RW : Nat → Nat} (hR : ∀ k, A 2 k = nI (RW k)) (hR2 : ∀ k, RW k ≤ 24) {SC : Nat → Nat} (hSC : ∀ k, A 3 k = nI (SC k)) (hSC2 : ∀ k, SC k ≤ 40) {V : Nat → Nat} (hV : ∀ v, A 4 v = nI (V v)) (hV2 : ∀ v, V v < 256) {PP : Nat → Nat → Int32} {SZ : Nat → Nat} (hP : mProg A PP SZ) :
    kx_c G l mM_select (d + 3) 0 0 [.ref m, .int t, .int k] (mH h0 m S A) (selQ h0 m S A V PP SZ RW SC bg t k) := by
  refine kx_in (by decide +kernel) (Nat.le_of_ble_eq_true rfl) hst ?_
  refine kx_rn dM_select 2 2 [(0, .ref m), (1, .int t), (2, .int k)] [.int 0, .ref m] rfl ?_
  refine qM_69 rfl (kx_tk_dec rfl dM_select) (mh_o hm) rfl rfl (Nat.le_of_ble_eq_true rfl) ?_
  rw [mh_p0]
  refine kx_rn dM_select 2 7 [(0, .ref m), (1, .int t), (2, .int k)] [.int t, .ref m] rfl ?_
  refine cM_83 (as := [.int t]) (st := []) (mc := 0) (ms := 0) (kc := 0) (ks := 0) rfl (kx_tk_dec rfl dM_select) (mh_o hm) rfl rfl (Nat.le_of_ble_eq_true rfl) (cM_closed hst hm (S := va_up S 0 0) hb hbg) (fun o h' hq => ?_)
  obtain ⟨bo, rfl, rfl, hbo⟩ := hq
  show kx_w _ _ _ _ _ _ _ _ _ _ _
  refine kx_if (tgt := 21) (kx_tk_dec rfl dM_select) rfl (fun e10 => ?_) (fun e10 => ?_)
  · skip
    replace e10 : ¬ b01 bo = 0 := e10
    replace e10 : bo = true := b01_t e10
    refine kx_rn dM_select 2 23 [(0, .ref m), (1, .int t), (2, .int k)] [.int 1, .ref m] rfl ?_
    refine cM_79 (as := [.int 1]) (st := []) (mc := 0) (ms := 0) (kc := 0) (ks := 0) rfl (kx_tk_dec rfl dM_select) (mh_o hm) rfl rfl (Nat.le_of_ble_eq_true rfl) (cM_fail hst hm) (fun o h' hq => ?_)
    obtain ⟨rfl, rfl⟩ := hq
    show kx_w _ _ _ _ _ _ _ _ _ _ _
    rw [va_upup]
    refine kx_ret (ty := .int) (kx_tk_dec rfl dM_select) rfl rfl ?_
    exact Or.inl ⟨fun z => (hbo.mp e10) z.1, rfl, rfl⟩
  · skip
    replace e10 : b01 bo = 0 := e10
    replace e10 : bo = false := b01_f e10
    obtain ⟨tn, ht1, ht2, rfl, ht4⟩ : mOp A bg t := Classical.byContradiction fun z => absurd (hbo.mpr z) (by rw [e10]; decide)
    refine kx_rn dM_select 2 15 [(0, .ref m), (1, .int (nI tn)), (2, .int k)] [.int k, .ref m] rfl ?_
    refine cM_166 (as := [.int k]) (st := []) (mc := 0) (ms := 0) (kc := 0) (ks := 0) rfl (kx_tk_dec rfl dM_select) (mh_o hm) rfl rfl (Nat.le_of_ble_eq_true rfl) (cM_noTable hst hm) (fun o h' hq => ?_)
    obtain ⟨bt, rfl, rfl, hbt⟩ := hq
    show kx_w _ _ _ _ _ _ _ _ _ _ _
    refine kx_if (tgt := 27) (kx_tk_dec rfl dM_select) rfl (fun e18 => ?_) (fun e18 => ?_)
    · skip
      replace e18 : b01 bt = 0 := e18
      replace e18 : bt = false := b01_f e18
      obtain ⟨kn, hk, rfl, hk3⟩ : mTb A k := Classical.byContradiction fun z => absurd (hbt.mpr z) (by rw [e18]; decide)
      have hRk := hR2 kn
      have hSk := hSC2 kn
      refine kx_rn dM_select 3 30 [(0, .ref m), (1, .int (nI tn)), (2, .int (nI kn))] [.int (nI kn), .int (nI tn), .ref m] rfl ?_
      refine cM_169 (as := [.int (nI tn), .int (nI kn)]) (st := []) (mc := 0) (ms := 0) (kc := 0) (ks := 0) rfl (kx_tk_dec rfl dM_select) (mh_o hm) rfl rfl (Nat.le_of_ble_eq_true rfl) (cM_look (S := va_up S 0 0) (P := PP 0) (sz := SZ 0) hst hm ht1 (by omega) hk (hR kn) hRk hV hV2 (hP 0 (by decide)).1 (hP 0 (by decide)).2.1 (hP 0 (by decide)).2.2) (fun o h' hq => ?_)
      obtain ⟨S1, A1, code, rfl, rfl, hS1, hA1, hcode⟩ := hq
      show kx_w _ _ _ _ _ _ _ _ _ _ _
      have hcd : code ≤ 2 := by rcases hcode with z | z | z <;> omega
      refine kx_rn dM_select 2 35 [(0, .ref m), (1, .int (nI tn)), (2, .int (nI kn)), (3, .int (nI code))] [.int (nI code)] rfl ?_
      refine kx_if (tgt := 46) (kx_tk_dec rfl dM_select) rfl (fun e35 => ?_) (fun e35 => ?_)
      · skip
        replace e35 : nI code ≤ 0 := e35
        replace e35 : code ≤ 0 := (nI_leI (a := code) (b := 0) (by omega) (by omega)).mp e35
        have hspec := (hcode.resolve_right (fun z => by rcases z with z | z <;> omega)).2
        have hV1 : ∀ v, A1 4 v = nI (V v) := fun v => by rw [hA1 4 (by decide) (by decide) (by decide)]; exact hV v
        have hR1 : A1 2 kn = nI (RW kn) := by rw [hA1 2 (by decide) (by decide) (by decide)]; exact hR kn
        refine kx_rn dM_select 3 49 [(0, .ref m), (1, .int (nI tn)), (2, .int (nI kn)), (3, .int (nI code))] [.int (nI kn), .int (nI tn), .ref m] rfl ?_
        refine cM_172 (as := [.int (nI tn), .int (nI kn)]) (st := []) (mc := 0) (ms := 0) (kc := 0) (ks := 0) rfl (kx_tk_dec rfl dM_select) (mh_o hm) rfl rfl (Nat.le_of_ble_eq_true rfl) (cM_mark (sc := SC kn) (W := hwq V tn) hst hm ht1 (by omega) hk hR1 hRk (by rw [hA1 3 (by decide) (by decide) (by decide)]; exact hSC kn) hSk hV1 hV2 (fun r hr => (hspec r hr).2.1) (fun q => Nat.le_trans (hw_le _ _) (by omega))) (fun o h' hq => ?_)
        obtain ⟨rfl, F, U, rfl, hF, hU2, hU⟩ := hq
        show kx_w _ _ _ _ _ _ _ _ _ _ _
        refine kx_rn dM_select 2 54 [(0, .ref m), (1, .int (nI tn)), (2, .int (nI kn)), (3, .int (nI code))] [.int 0, .ref m] rfl ?_
        refine qM_176 rfl (kx_tk_dec rfl dM_select) (mh_o hm) rfl rfl (Nat.le_of_ble_eq_true rfl) ?_
        rw [mh_p25]
        refine kx_rn dM_select 2 60 [(0, .ref m), (1, .int (nI tn)), (2, .int (nI kn)), (3, .int (nI code)), (4, .int 0)] [] rfl ?_
        have loop : ∀ n (j : Nat) (S2 : Nat → Int32) (A2 : Nat → Nat → Int32), j + n = RW kn → (∀ k, k ≠ 25 → S2 k = va_up S1 25 0 k) → S2 25 = nI (cnt (mMt V (A 6) (A 5) (PP 0) (SZ 0) tn kn) j) → (∀ k, k ≠ 14 → k ≠ 15 → A2 k = (va_up (va_up A1 3 (va_up (A1 3) kn (nI (max (SC kn) tn)))) 4 F) k) → (∀ r, r < j → mMt V (A 6) (A 5) (PP 0) (SZ 0) tn kn r = true → A2 14 (cnt (mMt V (A 6) (A 5) (PP 0) (SZ 0) tn kn) r) = nI r ∧ ∀ c, c < 4 → A2 15 (4 * cnt (mMt V (A 6) (A 5) (PP 0) (SZ 0) tn kn) r + c) = A 5 (4 * (40 * (24 * kn + r) + (hwq V tn (24 * kn + r) - 1)) + c)) → kx_w G l mM_select (d + 3) (selQ h0 m S A V PP SZ RW SC bg (nI tn) (nI kn)) 0 0 60 [(0, .ref m), (1, .int (nI tn)), (2, .int (nI kn)), (3, .int (nI code)), (4, .int (nI j))] [] (mH h0 m S2 A2) := by
          intro n
          induction n with
          | zero =>
          intro j S2 A2 hj hS2 h25 hA2 hsp
          have hR2' : A2 2 kn = nI (RW kn) := by rw [hA2 2 (by decide) (by decide)]; exact hR1
          have hcj := cnt_le (mMt V (A 6) (A 5) (PP 0) (SZ 0) tn kn) j
          refine kx_rn dM_select 2 63 [(0, .ref m), (1, .int (nI tn)), (2, .int (nI kn)), (3, .int (nI code)), (4, .int (nI j))] [.ref m, .int (nI j)] rfl ?_
          refine pM_13 (v := .ref (m + 2)) rfl (kx_tk_dec rfl dM_select) (mh_o hm) rfl ?_
          refine kx_rn dM_select 1 67 [(0, .ref m), (1, .int (nI tn)), (2, .int (nI kn)), (3, .int (nI code)), (4, .int (nI j))] [.int (nI kn), .ref (m + 2), .int (nI j)] rfl ?_
          refine mh_ld (k := 2) (x := A2 2 kn) (i := kn) rfl rfl (kx_tk_dec rfl dM_select) hm (by show kn < 3; omega) ?_
          rw [hR2']
          refine kx_ic (tgt := 157) (kx_tk_dec rfl dM_select) rfl (fun e68 => ?_) (fun e68 => ?_)
          · skip
            replace e68 : nI (RW kn) ≤ nI j := e68
            replace e68 : RW kn ≤ j := (nI_leI (a := RW kn) (b := j) (by omega) (by omega)).mp e68
            refine kx_rn dM_select 1 158 [(0, .ref m), (1, .int (nI tn)), (2, .int (nI kn)), (3, .int (nI code)), (4, .int (nI j))] [.ref m] rfl ?_
            refine pM_176 (v := .int (S2 25)) rfl (kx_tk_dec rfl dM_select) (mh_o hm) rfl ?_
            rw [h25]
            refine kx_ret (ty := .int) (kx_tk_dec rfl dM_select) rfl rfl ?_
            refine Or.inr ⟨tn, kn, ht1, ht2, rfl, ht4, hk, rfl, hk3, S2, A2, rfl, Or.inr (Or.inr ⟨fun r hr => (hspec r hr).1, by rw [show j = RW kn by omega], ?_, by rw [h25, show j = RW kn by omega], ?_, ?_, ?_, ⟨U, ?_, hU2, hU⟩, fun r hr => hsp r (by omega)⟩)⟩
            · rw [hS2 0 (by decide)]; show S1 0 = 0; rw [hS1 0 (by decide)]; rfl
            · intro k z0 z22 z25
              rw [hS2 k z25, va_up_ne _ _ z25, hS1 k z22, va_up_ne _ _ z0]
            · intro k z12 z16 z18 z3 z4 z14 z15
              rw [hA2 k z14 z15, va_up_ne _ _ z4, va_up_ne _ _ z3, hA1 k z12 z16 z18]
            · rw [hA2 3 (by decide) (by decide)]; show va_up (A1 3) _ _ = _; rw [hA1 3 (by decide) (by decide) (by decide)]
            · intro v; rw [hA2 4 (by decide) (by decide)]; exact hF v
          · skip
            replace e68 : ¬ nI (RW kn) ≤ nI j := e68
            replace e68 : ¬ RW kn ≤ j := fun z => e68 ((nI_leI (a := RW kn) (b := j) (by omega) (by omega)).mpr z)
            exfalso; omega
          | succ n ih =>
          intro j S2 A2 hj hS2 h25 hA2 hsp
          have hR2' : A2 2 kn = nI (RW kn) := by rw [hA2 2 (by decide) (by decide)]; exact hR1
          have hcj := cnt_le (mMt V (A 6) (A 5) (PP 0) (SZ 0) tn kn) j
          refine kx_rn dM_select 2 63 [(0, .ref m), (1, .int (nI tn)), (2, .int (nI kn)), (3, .int (nI code)), (4, .int (nI j))] [.ref m, .int (nI j)] rfl ?_
          refine pM_13 (v := .ref (m + 2)) rfl (kx_tk_dec rfl dM_select) (mh_o hm) rfl ?_
          refine kx_rn dM_select 1 67 [(0, .ref m), (1, .int (nI tn)), (2, .int (nI kn)), (3, .int (nI code)), (4, .int (nI j))] [.int (nI kn), .ref (m + 2), .int (nI j)] rfl ?_
          refine mh_ld (k := 2) (x := A2 2 kn) (i := kn) rfl rfl (kx_tk_dec rfl dM_select) hm (by show kn < 3; omega) ?_
          rw [hR2']
          refine kx_ic (tgt := 157) (kx_tk_dec rfl dM_select) rfl (fun e68 => ?_) (fun e68 => ?_)
          · skip
            replace e68 : nI (RW kn) ≤ nI j := e68
            replace e68 : RW kn ≤ j := (nI_leI (a := RW kn) (b := j) (by omega) (by omega)).mp e68
            exfalso; omega
          · skip
            replace e68 : ¬ nI (RW kn) ≤ nI j := e68
            replace e68 : ¬ RW kn ≤ j := fun z => e68 ((nI_leI (a := RW kn) (b := j) (by omega) (by omega)).mpr z)
            refine kx_rn dM_select 1 72 [(0, .ref m), (1, .int (nI tn)), (2, .int (nI kn)), (3, .int (nI code)), (4, .int (nI j))] [.ref m] rfl ?_
            refine pM_66 (v := .ref (m + 18)) rfl (kx_tk_dec rfl dM_select) (mh_o hm) rfl ?_
            refine kx_rn dM_select 1 77 [(0, .ref m), (1, .int (nI tn)), (2, .int (nI kn)), (3, .int (nI code)), (4, .int (nI j))] [.int (nI j), .ref (m + 18)] rfl ?_
            refine mh_zl (k := 18) (x := A2 18 j) (i := j) rfl rfl (kx_tk_dec rfl dM_select) hm (by show j < 24; omega) ?_
            rw [show A2 18 j = b01 (mMt V (A 6) (A 5) (PP 0) (SZ 0) tn kn j) from by rw [hA2 18 (by decide) (by decide)]; exact (hspec j (by omega)).2.2]
            refine kx_if (tgt := 84) (kx_tk_dec rfl dM_select) rfl (fun e78 => ?_) (fun e78 => ?_)
            · skip
              replace e78 : ¬ b01 (mMt V (A 6) (A 5) (PP 0) (SZ 0) tn kn j) = 0 := e78
              replace e78 : mMt V (A 6) (A 5) (PP 0) (SZ 0) tn kn j = true := b01_t e78
              refine kx_rn dM_select 1 85 [(0, .ref m), (1, .int (nI tn)), (2, .int (nI kn)), (3, .int (nI code)), (4, .int (nI j))] [.ref m] rfl ?_
              refine pM_54 (v := .ref (m + 14)) rfl (kx_tk_dec rfl dM_select) (mh_o hm) rfl ?_
              refine kx_rn dM_select 1 89 [(0, .ref m), (1, .int (nI tn)), (2, .int (nI kn)), (3, .int (nI code)), (4, .int (nI j))] [.ref m, .ref (m + 14)] rfl ?_
              refine pM_176 (v := .int (S2 25)) rfl (kx_tk_dec rfl dM_select) (mh_o hm) rfl ?_
              rw [h25]
              refine kx_rn dM_select 1 94 [(0, .ref m), (1, .int (nI tn)), (2, .int (nI kn)), (3, .int (nI code)), (4, .int (nI j))] [.int (nI j), .int (nI (cnt (mMt V (A 6) (A 5) (PP 0) (SZ 0) tn kn) j)), .ref (m + 14)] rfl ?_
              refine mh_st (k := 14) (i := cnt (mMt V (A 6) (A 5) (PP 0) (SZ 0) tn kn) j) (A' := va_up A2 14 (va_up (A2 14) (cnt (mMt V (A 6) (A 5) (PP 0) (SZ 0) tn kn) j) (nI j))) rfl (kx_tk_dec rfl dM_select) hm (by show cnt (mMt V (A 6) (A 5) (PP 0) (SZ 0) tn kn) j < 24; omega) rfl ?_
              refine kx_rn dM_select 2 98 [(0, .ref m), (1, .int (nI tn)), (2, .int (nI kn)), (3, .int (nI code)), (4, .int (nI j)), (5, .int 0)] [] rfl ?_
              have hWj := mMt_w e78
              have hWj2 : hwq V tn (24 * kn + j) ≤ tn := hw_le _ _
              obtain ⟨w1, hw1⟩ : ∃ w1, hwq V tn (24 * kn + j) = w1 + 1 := ⟨hwq V tn (24 * kn + j) - 1, by omega⟩
              have inner : ∀ n (c : Nat) (A3 : Nat → Nat → Int32), c + n = 4 → (∀ k, k ≠ 14 → k ≠ 15 → A3 k = A2 k) → A3 14 = va_up (A2 14) (cnt (mMt V (A 6) (A 5) (PP 0) (SZ 0) tn kn) j) (nI j) → (∀ i, A3 15 i = if 4 * cnt (mMt V (A 6) (A 5) (PP 0) (SZ 0) tn kn) j ≤ i ∧ i < 4 * cnt (mMt V (A 6) (A 5) (PP 0) (SZ 0) tn kn) j + c then A 5 (4 * (40 * (24 * kn + j) + w1) + (i - 4 * cnt (mMt V (A 6) (A 5) (PP 0) (SZ 0) tn kn) j)) else A2 15 i) → kx_w G l mM_select (d + 3) (selQ h0 m S A V PP SZ RW SC bg (nI tn) (nI kn)) 0 0 98 [(0, .ref m), (1, .int (nI tn)), (2, .int (nI kn)), (3, .int (nI code)), (4, .int (nI j)), (5, .int (nI c))] [] (mH h0 m S2 A3) := by
                intro n
                induction n with
                | zero =>
                  intro c A3 hc hA3 h14 h15
                  refine kx_rn dM_select 2 101 [(0, .ref m), (1, .int (nI tn)), (2, .int (nI kn)), (3, .int (nI code)), (4, .int (nI j)), (5, .int (nI c))] [.int 4, .int (nI c)] rfl ?_
                  refine kx_ic (tgt := 141) (kx_tk_dec rfl dM_select) rfl (fun e101 => ?_) (fun e101 => ?_)
                  · skip
                    replace e101 : 4 ≤ nI c := e101
                    replace e101 : 4 ≤ c := (nI_leI (a := 4) (b := c) (by omega) (by omega)).mp e101
                    refine kx_rn dM_select 2 143 [(0, .ref m), (1, .int (nI tn)), (2, .int (nI kn)), (3, .int (nI code)), (4, .int (nI j)), (5, .int (nI c))] [.ref m, .ref m] rfl ?_
                    refine pM_176 (v := .int (S2 25)) rfl (kx_tk_dec rfl dM_select) (mh_o hm) rfl ?_
                    rw [h25]
                    refine kx_rn dM_select 2 148 [(0, .ref m), (1, .int (nI tn)), (2, .int (nI kn)), (3, .int (nI code)), (4, .int (nI j)), (5, .int (nI c))] [.int ((nI (cnt (mMt V (A 6) (A 5) (PP 0) (SZ 0) tn kn) j)) + 1), .ref m] rfl ?_
                    rw [show (nI (cnt (mMt V (A 6) (A 5) (PP 0) (SZ 0) tn kn) j)) + 1 = nI ((cnt (mMt V (A 6) (A 5) (PP 0) (SZ 0) tn kn) j) + 1) from kn_ad rfl rfl]
                    refine qM_176 rfl (kx_tk_dec rfl dM_select) (mh_o hm) rfl rfl (Nat.le_of_ble_eq_true rfl) ?_
                    rw [mh_p25]
                    refine kx_rn dM_select 2 60 [(0, .ref m), (1, .int (nI tn)), (2, .int (nI kn)), (3, .int (nI code)), (4, .int ((nI j) + 1)), (5, .int (nI c))] [] rfl ?_
                    rw [show (nI j) + 1 = nI (j + 1) from kn_ad rfl rfl]
                    refine kx_lsub (lv' := [(0, .ref m), (1, .int (nI tn)), (2, .int (nI kn)), (3, .int (nI code)), (4, .int (nI (j + 1)))]) (.cons₂ _ (.cons₂ _ (.cons₂ _ (.cons₂ _ (.cons₂ _ (.cons _ .slnil)))))) ?_
                    refine ih (j + 1) _ A3 (by omega) (fun k z25 => by rw [va_up_ne _ _ z25]; exact hS2 k z25) (by rw [va_up_self, cnt_succ, if_pos e78]) (fun k z14 z15 => by rw [hA3 k z14 z15]; exact hA2 k z14 z15) (fun r hr hm1 => ?_)
                    by_cases z : r = j
                    · rw [z]
                      refine ⟨by rw [h14, va_up_self], fun c2 hc2 => ?_⟩
                      rw [h15, if_pos (by omega), hw1, show 4 * cnt (mMt V (A 6) (A 5) (PP 0) (SZ 0) tn kn) j + c2 - 4 * cnt (mMt V (A 6) (A 5) (PP 0) (SZ 0) tn kn) j = c2 by omega]
                      rfl
                    · have hlt := cnt_lt (p := mMt V (A 6) (A 5) (PP 0) (SZ 0) tn kn) (show r < j by omega) hm1
                      obtain ⟨z1, z2⟩ := hsp r (by omega) hm1
                      refine ⟨by rw [h14, va_up_ne _ _ (by omega)]; exact z1, fun c2 hc2 => ?_⟩
                      rw [h15, if_neg (by omega)]
                      exact z2 c2 hc2
                  · skip
                    replace e101 : ¬ 4 ≤ nI c := e101
                    replace e101 : ¬ 4 ≤ c := fun z => e101 ((nI_leI (a := 4) (b := c) (by omega) (by omega)).mpr z)
                    exfalso; omega
                | succ n ihc =>
                  intro c A3 hc hA3 h14 h15
                  refine kx_rn dM_select 2 101 [(0, .ref m), (1, .int (nI tn)), (2, .int (nI kn)), (3, .int (nI code)), (4, .int (nI j)), (5, .int (nI c))] [.int 4, .int (nI c)] rfl ?_
                  refine kx_ic (tgt := 141) (kx_tk_dec rfl dM_select) rfl (fun e101 => ?_) (fun e101 => ?_)
                  · skip
                    replace e101 : 4 ≤ nI c := e101
                    replace e101 : 4 ≤ c := (nI_leI (a := 4) (b := c) (by omega) (by omega)).mp e101
                    exfalso; omega
                  · skip
                    replace e101 : ¬ 4 ≤ nI c := e101
                    replace e101 : ¬ 4 ≤ c := fun z => e101 ((nI_leI (a := 4) (b := c) (by omega) (by omega)).mpr z)
                    refine kx_rn dM_select 1 105 [(0, .ref m), (1, .int (nI tn)), (2, .int (nI kn)), (3, .int (nI code)), (4, .int (nI j)), (5, .int (nI c))] [.ref m] rfl ?_
                    refine pM_57 (v := .ref (m + 15)) rfl (kx_tk_dec rfl dM_select) (mh_o hm) rfl ?_
                    refine kx_rn dM_select 2 110 [(0, .ref m), (1, .int (nI tn)), (2, .int (nI kn)), (3, .int (nI code)), (4, .int (nI j)), (5, .int (nI c))] [.ref m, .int 4, .ref (m + 15)] rfl ?_
                    refine pM_176 (v := .int (S2 25)) rfl (kx_tk_dec rfl dM_select) (mh_o hm) rfl ?_
                    rw [h25]
                    refine kx_rn dM_select 4 118 [(0, .ref m), (1, .int (nI tn)), (2, .int (nI kn)), (3, .int (nI code)), (4, .int (nI j)), (5, .int (nI c))] [.ref m, .int ((4 * (nI (cnt (mMt V (A 6) (A 5) (PP 0) (SZ 0) tn kn) j))) + (nI c)), .ref (m + 15)] rfl ?_
                    rw [show (4 * (nI (cnt (mMt V (A 6) (A 5) (PP 0) (SZ 0) tn kn) j))) + (nI c) = nI ((4 * (cnt (mMt V (A 6) (A 5) (PP 0) (SZ 0) tn kn) j)) + c) from kn_ad (kn_mu rfl rfl) rfl]
                    refine pM_22 (v := .ref (m + 5)) rfl (kx_tk_dec rfl dM_select) (mh_o hm) rfl ?_
                    refine kx_rn dM_select 2 123 [(0, .ref m), (1, .int (nI tn)), (2, .int (nI kn)), (3, .int (nI code)), (4, .int (nI j)), (5, .int (nI c))] [.ref m, .int 4, .ref (m + 5), .int (nI ((4 * (cnt (mMt V (A 6) (A 5) (PP 0) (SZ 0) tn kn) j)) + c)), .ref (m + 15)] rfl ?_
                    refine pM_60 (v := .ref (m + 16)) rfl (kx_tk_dec rfl dM_select) (mh_o hm) rfl ?_
                    refine kx_rn dM_select 1 128 [(0, .ref m), (1, .int (nI tn)), (2, .int (nI kn)), (3, .int (nI code)), (4, .int (nI j)), (5, .int (nI c))] [.int (nI j), .ref (m + 16), .int 4, .ref (m + 5), .int (nI ((4 * (cnt (mMt V (A 6) (A 5) (PP 0) (SZ 0) tn kn) j)) + c)), .ref (m + 15)] rfl ?_
                    refine mh_ld (k := 16) (x := A3 16 j) (i := j) rfl rfl (kx_tk_dec rfl dM_select) hm (by show j < 24; omega) ?_
                    rw [show A3 16 j = nI (40 * (24 * kn + j) + w1) from by rw [hA3 16 (by decide) (by decide), hA2 16 (by decide) (by decide)]; show A1 16 j = _; rw [(hspec j (by omega)).2.1, hw1]; rfl]
                    refine kx_rn dM_select 3 133 [(0, .ref m), (1, .int (nI tn)), (2, .int (nI kn)), (3, .int (nI code)), (4, .int (nI j)), (5, .int (nI c))] [.int ((4 * (nI (40 * (24 * kn + j) + w1))) + (nI c)), .ref (m + 5), .int (nI ((4 * (cnt (mMt V (A 6) (A 5) (PP 0) (SZ 0) tn kn) j)) + c)), .ref (m + 15)] rfl ?_
                    rw [show (4 * (nI (40 * (24 * kn + j) + w1))) + (nI c) = nI ((4 * (40 * (24 * kn + j) + w1)) + c) from kn_ad (kn_mu rfl rfl) rfl]
                    refine mh_ld (k := 5) (x := A3 5 ((4 * (40 * (24 * kn + j) + w1)) + c)) (i := (4 * (40 * (24 * kn + j) + w1)) + c) rfl rfl (kx_tk_dec rfl dM_select) hm (by show (4 * (40 * (24 * kn + j) + w1)) + c < 11520; omega) ?_
                    refine mh_st (k := 15) (i := (4 * (cnt (mMt V (A 6) (A 5) (PP 0) (SZ 0) tn kn) j)) + c) (A' := va_up A3 15 (va_up (A3 15) ((4 * (cnt (mMt V (A 6) (A 5) (PP 0) (SZ 0) tn kn) j)) + c) (A3 5 ((4 * (40 * (24 * kn + j) + w1)) + c)))) rfl (kx_tk_dec rfl dM_select) hm (by show (4 * (cnt (mMt V (A 6) (A 5) (PP 0) (SZ 0) tn kn) j)) + c < 96; omega) rfl ?_
                    refine kx_rn dM_select 2 98 [(0, .ref m), (1, .int (nI tn)), (2, .int (nI kn)), (3, .int (nI code)), (4, .int (nI j)), (5, .int ((nI c) + 1))] [] rfl ?_
                    rw [show (nI c) + 1 = nI (c + 1) from kn_ad rfl rfl]
                    refine ihc (c + 1) _ (by omega) (fun k z14 z15 => by rw [va_up_ne _ _ z15]; exact hA3 k z14 z15) h14 (fun i => ?_)
                    show va_up (A3 15) _ _ i = _
                    simp only [va_up]
                    by_cases z : i = 4 * cnt (mMt V (A 6) (A 5) (PP 0) (SZ 0) tn kn) j + c
                    · rw [if_pos z, if_pos (by omega), show i - 4 * cnt (mMt V (A 6) (A 5) (PP 0) (SZ 0) tn kn) j = c by omega]
                      rw [hA3 5 (by decide) (by decide), hA2 5 (by decide) (by decide)]
                      show A1 5 _ = _
                      rw [hA1 5 (by decide) (by decide) (by decide)]
                    · rw [if_neg z, h15 i]
                      by_cases z2 : 4 * cnt (mMt V (A 6) (A 5) (PP 0) (SZ 0) tn kn) j ≤ i ∧ i < 4 * cnt (mMt V (A 6) (A 5) (PP 0) (SZ 0) tn kn) j + c
                      · rw [if_pos z2, if_pos (by omega)]
                      · rw [if_neg z2, if_neg (by omega)]
              exact inner 4 0 _ rfl (fun k z14 z15 => by rw [va_up_ne _ _ z14]) rfl (fun i => by rw [if_neg (by omega)]; rfl)
            · skip
              replace e78 : b01 (mMt V (A 6) (A 5) (PP 0) (SZ 0) tn kn j) = 0 := e78
              replace e78 : mMt V (A 6) (A 5) (PP 0) (SZ 0) tn kn j = false := b01_f e78
              refine kx_rn dM_select 3 60 [(0, .ref m), (1, .int (nI tn)), (2, .int (nI kn)), (3, .int (nI code)), (4, .int ((nI j) + 1))] [] rfl ?_
              rw [show (nI j) + 1 = nI (j + 1) from kn_ad rfl rfl]
              refine ih (j + 1) S2 A2 (by omega) hS2 (by rw [h25, cnt_succ, if_neg (by rw [e78]; decide)]; rfl) hA2 (fun r hr hm1 => ?_)
              by_cases z : r = j
              · rw [z, e78] at hm1; cases hm1
              · exact hsp r (by omega) hm1
        exact loop (RW kn) 0 _ _ (by omega) (fun k _ => rfl) rfl (fun k _ _ => rfl) (fun r hr => absurd hr (by omega))
      · skip
        replace e35 : ¬ nI code ≤ 0 := e35
        replace e35 : ¬ code ≤ 0 := fun z => e35 ((nI_leI (a := code) (b := 0) (by omega) (by omega)).mpr z)
        refine kx_rn dM_select 4 42 [(0, .ref m), (1, .int (nI tn)), (2, .int (nI kn)), (3, .int (nI code))] [.int (1 + (nI code)), .ref m] rfl ?_
        rw [show 1 + (nI code) = nI (1 + code) from kn_ad rfl rfl]
        refine cM_79 (as := [.int (nI (1 + code))]) (st := []) (mc := 0) (ms := 0) (kc := 0) (ks := 0) rfl (kx_tk_dec rfl dM_select) (mh_o hm) rfl rfl (Nat.le_of_ble_eq_true rfl) (cM_fail hst hm) (fun o h' hq => ?_)
        obtain ⟨rfl, rfl⟩ := hq
        show kx_w _ _ _ _ _ _ _ _ _ _ _
        refine kx_ret (ty := .int) (kx_tk_dec rfl dM_select) rfl rfl ?_
        refine Or.inr ⟨tn, kn, ht1, ht2, rfl, ht4, hk, rfl, hk3, _, A1, rfl, ?_⟩
        rcases hcode with ⟨z, -⟩ | ⟨z, z2⟩ | ⟨z, z2⟩
        · omega
        · subst z; exact Or.inl ⟨rfl, rfl, z2, fun k z0 z22 => by rw [va_up_ne _ _ z0, hS1 k z22, va_up_ne _ _ z0], hA1⟩
        · subst z; exact Or.inr (Or.inl ⟨rfl, rfl, z2, fun k z0 z22 => by rw [va_up_ne _ _ z0, hS1 k z22, va_up_ne _ _ z0], hA1⟩)
    · skip
      replace e18 : ¬ b01 bt = 0 := e18
      replace e18 : bt = true := b01_t e18
      refine kx_rn dM_select 2 23 [(0, .ref m), (1, .int (nI tn)), (2, .int k)] [.int 1, .ref m] rfl ?_
      refine cM_79 (as := [.int 1]) (st := []) (mc := 0) (ms := 0) (kc := 0) (ks := 0) rfl (kx_tk_dec rfl dM_select) (mh_o hm) rfl rfl (Nat.le_of_ble_eq_true rfl) (cM_fail hst hm) (fun o h' hq => ?_)
      obtain ⟨rfl, rfl⟩ := hq
      show kx_w _ _ _ _ _ _ _ _ _ _ _
      rw [va_upup]
      refine kx_ret (ty := .int) (kx_tk_dec rfl dM_select) rfl rfl ?_
      exact Or.inl ⟨fun z => (hbt.mp e18) z.2, rfl, rfl⟩
end KM9
