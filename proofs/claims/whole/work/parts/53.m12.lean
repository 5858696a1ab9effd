/-! ===== the reference: delete, update ===== -/
section KM12
variable {G : kx_G} {l : Launch} {d : Nat} {h0 : kx_H} {m : Nat} {S : Nat → Int32} {A : Nat → Nat → Int32}
def delQ (h0 : kx_H) (m : Nat) (S : Nat → Int32) (A : Nat → Nat → Int32) (V : Nat → Nat) (PP : Nat → Nat → Int32) (SZ RW SC : Nat → Nat) (bg : Nat) (t k : Int32) : Outcome → kx_H → Prop := fun o h' => (¬ (mOp A bg t ∧ mTb A k) ∧ o = .returned (some (.int 0)) ∧ h' = mH h0 m (va_up S 0 1) A) ∨ ∃ tn kn, 1 ≤ tn ∧ tn ≤ bg ∧ t = nI tn ∧ A 6 tn = 1 ∧ kn < 3 ∧ k = nI kn ∧ ¬ A 1 kn = 0 ∧ ∃ (S1 : Nat → Int32) (A1 : Nat → Nat → Int32), h' = mH h0 m S1 A1 ∧ ((S1 0 = 2 ∧ o = .returned (some (.int 0)) ∧ (∃ r, r < RW kn ∧ vdct V (A 6) (A 5) (PP 0) (SZ 0) tn (24 * kn + r) = 2 ∧ ∀ p, p < r → vdct V (A 6) (A 5) (PP 0) (SZ 0) tn (24 * kn + p) ≤ 1) ∧ (∀ k, k ≠ 0 → k ≠ 22 → S1 k = S k) ∧ (∀ k, k ≠ 12 → k ≠ 16 → k ≠ 17 → k ≠ 18 → A1 k = A k)) ∨ (S1 0 = 3 ∧ o = .returned (some (.int 0)) ∧ (∃ r, r < RW kn ∧ vdct V (A 6) (A 5) (PP 0) (SZ 0) tn (24 * kn + r) = 3 ∧ ∀ p, p < r → vdct V (A 6) (A 5) (PP 0) (SZ 0) tn (24 * kn + p) ≤ 1) ∧ (∀ k, k ≠ 0 → k ≠ 22 → S1 k = S k) ∧ (∀ k, k ≠ 12 → k ≠ 16 → k ≠ 17 → k ≠ 18 → A1 k = A k)) ∨ ((∀ r, r < RW kn → vdct V (A 6) (A 5) (PP 0) (SZ 0) tn (24 * kn + r) ≤ 1) ∧ ((mLate V (mMt V (A 6) (A 5) (PP 0) (SZ 0) tn kn) tn kn (RW kn) ∧ S1 0 = 4 ∧ o = .returned (some (.int 0)) ∧ S1 8 = S 8 + 1 ∧ (∀ k, k ≠ 0 → k ≠ 8 → k ≠ 22 → S1 k = S k) ∧ (∀ k, k ≠ 12 → k ≠ 16 → k ≠ 17 → k ≠ 18 → k ≠ 4 → k ≠ 6 → A1 k = A k) ∧ A1 6 = va_up (A 6) tn 3 ∧ A1 4 = fun v => nI (vBrk V tn v)) ∨ (¬ mLate V (mMt V (A 6) (A 5) (PP 0) (SZ 0) tn kn) tn kn (RW kn) ∧ S1 0 = 0 ∧ o = .returned (some (.int (nI (cnt (mMt V (A 6) (A 5) (PP 0) (SZ 0) tn kn) (RW kn))))) ∧ (∀ k, k ≠ 0 → k ≠ 22 → S1 k = S k) ∧ (∀ k, k ≠ 12 → k ≠ 16 → k ≠ 17 → k ≠ 18 → k ≠ 3 → k ≠ 4 → k ≠ 5 → A1 k = A k) ∧ A1 3 = va_up (A 3) kn (nI (max (SC kn) tn)) ∧ ∃ news : Nat → Int32, vWrote (vMark V (hwq V tn) kn tn (RW kn)) (A 5) news (mMt V (A 6) (A 5) (PP 0) (SZ 0) tn kn) kn tn (RW kn) true (A1 4) (A1 5)))))
def updQ (h0 : kx_H) (m : Nat) (S : Nat → Int32) (A : Nat → Nat → Int32) (V : Nat → Nat) (PP : Nat → Nat → Int32) (SZ RW SC CL : Nat → Nat) (bg : Nat) (t k : Int32) : Outcome → kx_H → Prop := fun o h' => (¬ (mOp A bg t ∧ mTb A k) ∧ o = .returned (some (.int 0)) ∧ h' = mH h0 m (va_up S 0 1) A) ∨ ∃ tn kn, 1 ≤ tn ∧ tn ≤ bg ∧ t = nI tn ∧ A 6 tn = 1 ∧ kn < 3 ∧ k = nI kn ∧ ¬ A 1 kn = 0 ∧ ∃ (S1 : Nat → Int32) (A1 : Nat → Nat → Int32), h' = mH h0 m S1 A1 ∧ (((∃ c, CL kn ≤ c ∧ c < 4 ∧ ¬ A 10 c = 0) ∧ S1 0 = 2 ∧ o = .returned (some (.int 0)) ∧ (∀ k, k ≠ 0 → k ≠ 22 → S1 k = S k) ∧ (∀ k, k ≠ 12 → k ≠ 16 → k ≠ 17 → k ≠ 18 → A1 k = A k)) ∨ (¬ (∃ c, CL kn ≤ c ∧ c < 4 ∧ ¬ A 10 c = 0) ∧ ((S1 0 = 3 ∧ o = .returned (some (.int 0)) ∧ (∃ r, r < RW kn ∧ vdct V (A 6) (A 5) (PP 0) (SZ 0) tn (24 * kn + r) = 2 ∧ ∀ p, p < r → vdct V (A 6) (A 5) (PP 0) (SZ 0) tn (24 * kn + p) ≤ 1) ∧ (∀ k, k ≠ 0 → k ≠ 22 → S1 k = S k) ∧ (∀ k, k ≠ 12 → k ≠ 16 → k ≠ 17 → k ≠ 18 → A1 k = A k)) ∨ (S1 0 = 4 ∧ o = .returned (some (.int 0)) ∧ (∃ r, r < RW kn ∧ vdct V (A 6) (A 5) (PP 0) (SZ 0) tn (24 * kn + r) = 3 ∧ ∀ p, p < r → vdct V (A 6) (A 5) (PP 0) (SZ 0) tn (24 * kn + p) ≤ 1) ∧ (∀ k, k ≠ 0 → k ≠ 22 → S1 k = S k) ∧ (∀ k, k ≠ 12 → k ≠ 16 → k ≠ 17 → k ≠ 18 → A1 k = A k)) ∨ ((∀ r, r < RW kn → vdct V (A 6) (A 5) (PP 0) (SZ 0) tn (24 * kn + r) ≤ 1) ∧ ((¬ (∀ r, r < RW kn → mMt V (A 6) (A 5) (PP 0) (SZ 0) tn kn r = true → ∀ c, c < 4 → mFine V (A 5) (A 10) PP SZ tn kn r c) ∧ S1 0 = 4 ∧ o = .returned (some (.int 0)) ∧ (∀ k, k ≠ 0 → k ≠ 22 → S1 k = S k) ∧ (∀ k, k ≠ 12 → k ≠ 16 → k ≠ 17 → k ≠ 18 → A1 k = A k)) ∨ ((∀ r, r < RW kn → mMt V (A 6) (A 5) (PP 0) (SZ 0) tn kn r = true → ∀ c, c < 4 → mFine V (A 5) (A 10) PP SZ tn kn r c) ∧ ((mLate V (mMt V (A 6) (A 5) (PP 0) (SZ 0) tn kn) tn kn (RW kn) ∧ S1 0 = 5 ∧ o = .returned (some (.int 0)) ∧ S1 8 = S 8 + 1 ∧ (∀ k, k ≠ 0 → k ≠ 8 → k ≠ 22 → S1 k = S k) ∧ (∀ k, k ≠ 12 → k ≠ 16 → k ≠ 17 → k ≠ 18 → k ≠ 4 → k ≠ 6 → A1 k = A k) ∧ A1 6 = va_up (A 6) tn 3 ∧ A1 4 = fun v => nI (vBrk V tn v)) ∨ (¬ mLate V (mMt V (A 6) (A 5) (PP 0) (SZ 0) tn kn) tn kn (RW kn) ∧ S1 0 = 0 ∧ o = .returned (some (.int (nI (cnt (mMt V (A 6) (A 5) (PP 0) (SZ 0) tn kn) (RW kn))))) ∧ (∀ k, k ≠ 0 → k ≠ 22 → S1 k = S k) ∧ (∀ k, k ≠ 12 → k ≠ 16 → k ≠ 17 → k ≠ 18 → k ≠ 3 → k ≠ 4 → k ≠ 5 → A1 k = A k) ∧ A1 3 = va_up (A 3) kn (nI (max (SC kn) tn)) ∧ ∃ news : Nat → Int32, (∀ r, r < RW kn → mMt V (A 6) (A 5) (PP 0) (SZ 0) tn kn r = true → ∀ c, c < 4 → news (4 * r + c) = mNew V (A 5) (A 10) PP SZ tn kn r c) ∧ vWrote (vMark V (hwq V tn) kn tn (RW kn)) (A 5) news (mMt V (A 6) (A 5) (PP 0) (SZ 0) tn kn) kn tn (RW kn) false (A1 4) (A1 5)))))))))
set_option maxRecDepth 100000 in
theorem cM_delete {t k : Int32} (hst : l.stackTraces = false) (hm : mOk G h0 m) {bg : Nat} (hb : S 7 = nI bg) (hbg : bg ≤ 40) {RW : Nat → Nat} (hR : ∀ k, A 2 k = nI (RW k)) (hR2 : ∀ k, RW k ≤ 24) {SC : Nat → Nat} (hSC : ∀ k, A 3 k = nI (SC k)) (hSC2 : ∀ k, SC k ≤ 40) {V : Nat → Nat} (hV : ∀ v, A 4 v = nI (V v)) (hV2 : ∀ v, V v < 256) {PP : Nat → Nat → Int32} {SZ : Nat → Nat} (hP : mProg A PP SZ) :
    kx_c G l mM_delete (d + 3) 0 0 [.ref m, .int t, .int k] (mH h0 m S A) (delQ h0 m S A V PP SZ RW SC bg t k) := by
  refine kx_in (by decide +kernel) (Nat.le_of_ble_eq_true rfl) hst ?_
  refine kx_rn dM_delete 2 2 [(0, .ref m), (1, .int t), (2, .int k)] [.int 0, .ref m] rfl ?_
  refine qM_69 rfl (kx_tk_dec rfl dM_delete) (mh_o hm) rfl rfl (Nat.le_of_ble_eq_true rfl) ?_
  rw [mh_p0]
  refine kx_rn dM_delete 2 7 [(0, .ref m), (1, .int t), (2, .int k)] [.int t, .ref m] rfl ?_
  refine cM_83 (as := [.int t]) (st := []) (mc := 0) (ms := 0) (kc := 0) (ks := 0) rfl (kx_tk_dec rfl dM_delete) (mh_o hm) rfl rfl (Nat.le_of_ble_eq_true rfl) (cM_closed hst hm (S := va_up S 0 0) hb hbg) (fun o h' hq => ?_)
  obtain ⟨bo, rfl, rfl, hbo⟩ := hq
  show kx_w _ _ _ _ _ _ _ _ _ _ _
  refine kx_if (tgt := 21) (kx_tk_dec rfl dM_delete) rfl (fun e10 => ?_) (fun e10 => ?_)
  · skip
    replace e10 : ¬ b01 bo = 0 := e10
    replace e10 : bo = true := b01_t e10
    refine kx_rn dM_delete 2 23 [(0, .ref m), (1, .int t), (2, .int k)] [.int 1, .ref m] rfl ?_
    refine cM_79 (as := [.int 1]) (st := []) (mc := 0) (ms := 0) (kc := 0) (ks := 0) rfl (kx_tk_dec rfl dM_delete) (mh_o hm) rfl rfl (Nat.le_of_ble_eq_true rfl) (cM_fail hst hm) (fun o h' hq => ?_)
    obtain ⟨rfl, rfl⟩ := hq
    show kx_w _ _ _ _ _ _ _ _ _ _ _
    rw [va_upup]
    refine kx_ret (ty := .int) (kx_tk_dec rfl dM_delete) rfl rfl ?_
    exact Or.inl ⟨fun z => (hbo.mp e10) z.1, rfl, rfl⟩
  · skip
    replace e10 : b01 bo = 0 := e10
    replace e10 : bo = false := b01_f e10
    obtain ⟨tn, ht1, ht2, rfl, ht4⟩ : mOp A bg t := Classical.byContradiction fun z => absurd (hbo.mpr z) (by rw [e10]; decide)
    refine kx_rn dM_delete 2 15 [(0, .ref m), (1, .int (nI tn)), (2, .int k)] [.int k, .ref m] rfl ?_
    refine cM_166 (as := [.int k]) (st := []) (mc := 0) (ms := 0) (kc := 0) (ks := 0) rfl (kx_tk_dec rfl dM_delete) (mh_o hm) rfl rfl (Nat.le_of_ble_eq_true rfl) (cM_noTable hst hm) (fun o h' hq => ?_)
    obtain ⟨bt, rfl, rfl, hbt⟩ := hq
    show kx_w _ _ _ _ _ _ _ _ _ _ _
    refine kx_if (tgt := 27) (kx_tk_dec rfl dM_delete) rfl (fun e18 => ?_) (fun e18 => ?_)
    · skip
      replace e18 : b01 bt = 0 := e18
      replace e18 : bt = false := b01_f e18
      obtain ⟨kn, hk, rfl, hk3⟩ : mTb A k := Classical.byContradiction fun z => absurd (hbt.mpr z) (by rw [e18]; decide)
      have hRk := hR2 kn
      have hSk := hSC2 kn
      refine kx_rn dM_delete 3 30 [(0, .ref m), (1, .int (nI tn)), (2, .int (nI kn))] [.int (nI kn), .int (nI tn), .ref m] rfl ?_
      refine cM_169 (as := [.int (nI tn), .int (nI kn)]) (st := []) (mc := 0) (ms := 0) (kc := 0) (ks := 0) rfl (kx_tk_dec rfl dM_delete) (mh_o hm) rfl rfl (Nat.le_of_ble_eq_true rfl) (cM_look (S := va_up S 0 0) (P := PP 0) (sz := SZ 0) hst hm ht1 (by omega) hk (hR kn) hRk hV hV2 (hP 0 (by decide)).1 (hP 0 (by decide)).2.1 (hP 0 (by decide)).2.2) (fun o h' hq => ?_)
      obtain ⟨S1, A1, code, rfl, rfl, hS1, hA1, hcode⟩ := hq
      show kx_w _ _ _ _ _ _ _ _ _ _ _
      have hcd : code ≤ 2 := by rcases hcode with z | z | z <;> omega
      refine kx_rn dM_delete 2 35 [(0, .ref m), (1, .int (nI tn)), (2, .int (nI kn)), (3, .int (nI code))] [.int (nI code)] rfl ?_
      refine kx_if (tgt := 46) (kx_tk_dec rfl dM_delete) rfl (fun e35 => ?_) (fun e35 => ?_)
      · skip
        replace e35 : nI code ≤ 0 := e35
        replace e35 : code ≤ 0 := (nI_leI (a := code) (b := 0) (by omega) (by omega)).mp e35
        have hspec := (hcode.resolve_right (fun z => by rcases z with z | z <;> omega)).2
        have hV1 : ∀ v, A1 4 v = nI (V v) := fun v => by rw [hA1 4 (by decide) (by decide) (by decide)]; exact hV v
        have hR1 : A1 2 kn = nI (RW kn) := by rw [hA1 2 (by decide) (by decide) (by decide)]; exact hR kn
        have hSC1 : A1 3 kn = nI (SC kn) := by rw [hA1 3 (by decide) (by decide) (by decide)]; exact hSC kn
        have hmt1 : ∀ r, r < RW kn → A1 18 r = b01 (mMt V (A 6) (A 5) (PP 0) (SZ 0) tn kn r) := fun r hr => (hspec r hr).2.2
        refine kx_rn dM_delete 5 51 [(0, .ref m), (1, .int (nI tn)), (2, .int (nI kn)), (3, .int (nI code))] [.int 4, .int 1, .int (nI kn), .int (nI tn), .ref m] rfl ?_
        refine cM_195 (as := [.int (nI tn), .int (nI kn), .int 1, .int 4]) (st := []) (mc := 0) (ms := 0) (kc := 0) (ks := 0) rfl (kx_tk_dec rfl dM_delete) (mh_o hm) rfl rfl (Nat.le_of_ble_eq_true rfl) (cM_writeAll (mt := mMt V (A 6) (A 5) (PP 0) (SZ 0) tn kn) (sc := SC kn) (g := true) hst hm ht1 (by omega) hk hR1 hRk hSC1 hSk hV1 hV2 hmt1 (fun r hr => (hspec r hr).2.1) (fun r z => mMt_w z)) (fun o h' hq => ?_)
        rcases hq with ⟨hlt, rfl, rfl⟩ | ⟨hlt, rfl, A3, rfl, hA3, hA33, hw3⟩
        · skip
          show kx_w _ _ _ _ _ _ _ _ _ _ _
          refine kx_ret (ty := .int) (kx_tk_dec rfl dM_delete) rfl rfl ?_
          refine Or.inr ⟨tn, kn, ht1, ht2, rfl, ht4, hk, rfl, hk3, _, _, rfl, Or.inr (Or.inr ⟨fun r hr => (hspec r hr).1, Or.inl ⟨hlt, rfl, rfl, ?_, ?_, ?_, ?_, rfl⟩⟩)⟩
          · show S1 8 + 1 = _; rw [hS1 8 (by decide)]; rfl
          · intro k z0 z8 z22; rw [va_up_ne _ _ z0, va_up_ne _ _ z8, hS1 k z22, va_up_ne _ _ z0]
          · intro k z12 z16 z17 z18 z4 z6; rw [va_up_ne _ _ z4, va_up_ne _ _ z6]; exact hA1 k z12 z16 z18
          · show va_up (A1 6) tn 3 = _; rw [hA1 6 (by decide) (by decide) (by decide)]
        · skip
          show kx_w _ _ _ _ _ _ _ _ _ _ _
          refine kx_ret (ty := .int) (kx_tk_dec rfl dM_delete) rfl rfl ?_
          refine Or.inr ⟨tn, kn, ht1, ht2, rfl, ht4, hk, rfl, hk3, _, _, rfl, Or.inr (Or.inr ⟨fun r hr => (hspec r hr).1, Or.inr ⟨hlt, ?_, rfl, ?_, ?_, ?_, A1 17, ?_⟩⟩)⟩
          · rw [hS1 0 (by decide)]; rfl
          · intro k z0 z22; rw [hS1 k z22, va_up_ne _ _ z0]
          · intro k z12 z16 z17 z18 z3 z4 z5; rw [hA3 k z3 z4 z5]; exact hA1 k z12 z16 z18
          · rw [hA33, hA1 3 (by decide) (by decide) (by decide)]
          · rw [hA1 5 (by decide) (by decide) (by decide)] at hw3; exact hw3
      · skip
        replace e35 : ¬ nI code ≤ 0 := e35
        replace e35 : ¬ code ≤ 0 := fun z => e35 ((nI_leI (a := code) (b := 0) (by omega) (by omega)).mpr z)
        refine kx_rn dM_delete 4 42 [(0, .ref m), (1, .int (nI tn)), (2, .int (nI kn)), (3, .int (nI code))] [.int (1 + (nI code)), .ref m] rfl ?_
        rw [show 1 + (nI code) = nI (1 + code) from kn_ad rfl rfl]
        refine cM_79 (as := [.int (nI (1 + code))]) (st := []) (mc := 0) (ms := 0) (kc := 0) (ks := 0) rfl (kx_tk_dec rfl dM_delete) (mh_o hm) rfl rfl (Nat.le_of_ble_eq_true rfl) (cM_fail hst hm) (fun o h' hq => ?_)
        obtain ⟨rfl, rfl⟩ := hq
        show kx_w _ _ _ _ _ _ _ _ _ _ _
        refine kx_ret (ty := .int) (kx_tk_dec rfl dM_delete) rfl rfl ?_
        refine Or.inr ⟨tn, kn, ht1, ht2, rfl, ht4, hk, rfl, hk3, _, _, rfl, ?_⟩
        rcases hcode with ⟨z, -⟩ | ⟨z, z2⟩ | ⟨z, z2⟩
        · omega
        · subst z; exact Or.inl ⟨rfl, rfl, z2, ⟨fun k z0 z22 => by rw [va_up_ne _ _ z0, hS1 k z22, va_up_ne _ _ z0], fun k z12 z16 z17 z18 => hA1 k z12 z16 z18⟩⟩
        · subst z; exact Or.inr (Or.inl ⟨rfl, rfl, z2, ⟨fun k z0 z22 => by rw [va_up_ne _ _ z0, hS1 k z22, va_up_ne _ _ z0], fun k z12 z16 z17 z18 => hA1 k z12 z16 z18⟩⟩)
    · skip
      replace e18 : ¬ b01 bt = 0 := e18
      replace e18 : bt = true := b01_t e18
      refine kx_rn dM_delete 2 23 [(0, .ref m), (1, .int (nI tn)), (2, .int k)] [.int 1, .ref m] rfl ?_
      refine cM_79 (as := [.int 1]) (st := []) (mc := 0) (ms := 0) (kc := 0) (ks := 0) rfl (kx_tk_dec rfl dM_delete) (mh_o hm) rfl rfl (Nat.le_of_ble_eq_true rfl) (cM_fail hst hm) (fun o h' hq => ?_)
      obtain ⟨rfl, rfl⟩ := hq
      show kx_w _ _ _ _ _ _ _ _ _ _ _
      rw [va_upup]
      refine kx_ret (ty := .int) (kx_tk_dec rfl dM_delete) rfl rfl ?_
      exact Or.inl ⟨fun z => (hbt.mp e18) z.2, rfl, rfl⟩
set_option maxRecDepth 100000 in
theorem cM_update {t k : Int32} (hst : l.stackTraces = false) (hm : mOk G h0 m) {bg : Nat} (hb : S 7 = nI bg) (hbg : bg ≤ 40) {RW : Nat → Nat} (hR : ∀ k, A 2 k = nI (RW k)) (hR2 : ∀ k, RW k ≤ 24) {SC : Nat → Nat} (hSC : ∀ k, A 3 k = nI (SC k)) (hSC2 : ∀ k, SC k ≤ 40) {CL : Nat → Nat} (hCL : ∀ k, A 1 k = nI (CL k)) (hCL2 : ∀ k, CL k ≤ 4) {V : Nat → Nat} (hV : ∀ v, A 4 v = nI (V v)) (hV2 : ∀ v, V v < 256) {PP : Nat → Nat → Int32} {SZ : Nat → Nat} (hP : mProg A PP SZ) :
    kx_c G l mM_update (d + 3) 0 0 [.ref m, .int t, .int k] (mH h0 m S A) (updQ h0 m S A V PP SZ RW SC CL bg t k) := by
  refine kx_in (by decide +kernel) (Nat.le_of_ble_eq_true rfl) hst ?_
  refine kx_rn dM_update 2 2 [(0, .ref m), (1, .int t), (2, .int k)] [.int 0, .ref m] rfl ?_
  refine qM_69 rfl (kx_tk_dec rfl dM_update) (mh_o hm) rfl rfl (Nat.le_of_ble_eq_true rfl) ?_
  rw [mh_p0]
  refine kx_rn dM_update 2 7 [(0, .ref m), (1, .int t), (2, .int k)] [.int t, .ref m] rfl ?_
  refine cM_83 (as := [.int t]) (st := []) (mc := 0) (ms := 0) (kc := 0) (ks := 0) rfl (kx_tk_dec rfl dM_update) (mh_o hm) rfl rfl (Nat.le_of_ble_eq_true rfl) (cM_closed hst hm (S := va_up S 0 0) hb hbg) (fun o h' hq => ?_)
  obtain ⟨bo, rfl, rfl, hbo⟩ := hq
  show kx_w _ _ _ _ _ _ _ _ _ _ _
  refine kx_if (tgt := 21) (kx_tk_dec rfl dM_update) rfl (fun e10 => ?_) (fun e10 => ?_)
  · skip
    replace e10 : ¬ b01 bo = 0 := e10
    replace e10 : bo = true := b01_t e10
    refine kx_rn dM_update 2 23 [(0, .ref m), (1, .int t), (2, .int k)] [.int 1, .ref m] rfl ?_
    refine cM_79 (as := [.int 1]) (st := []) (mc := 0) (ms := 0) (kc := 0) (ks := 0) rfl (kx_tk_dec rfl dM_update) (mh_o hm) rfl rfl (Nat.le_of_ble_eq_true rfl) (cM_fail hst hm) (fun o h' hq => ?_)
    obtain ⟨rfl, rfl⟩ := hq
    show kx_w _ _ _ _ _ _ _ _ _ _ _
    rw [va_upup]
    refine kx_ret (ty := .int) (kx_tk_dec rfl dM_update) rfl rfl ?_
    exact Or.inl ⟨fun z => (hbo.mp e10) z.1, rfl, rfl⟩
  · skip
    replace e10 : b01 bo = 0 := e10
    replace e10 : bo = false := b01_f e10
    obtain ⟨tn, ht1, ht2, rfl, ht4⟩ : mOp A bg t := Classical.byContradiction fun z => absurd (hbo.mpr z) (by rw [e10]; decide)
    refine kx_rn dM_update 2 15 [(0, .ref m), (1, .int (nI tn)), (2, .int k)] [.int k, .ref m] rfl ?_
    refine cM_166 (as := [.int k]) (st := []) (mc := 0) (ms := 0) (kc := 0) (ks := 0) rfl (kx_tk_dec rfl dM_update) (mh_o hm) rfl rfl (Nat.le_of_ble_eq_true rfl) (cM_noTable hst hm) (fun o h' hq => ?_)
    obtain ⟨bt, rfl, rfl, hbt⟩ := hq
    show kx_w _ _ _ _ _ _ _ _ _ _ _
    refine kx_if (tgt := 27) (kx_tk_dec rfl dM_update) rfl (fun e18 => ?_) (fun e18 => ?_)
    · skip
      replace e18 : b01 bt = 0 := e18
      replace e18 : bt = false := b01_f e18
      obtain ⟨kn, hk, rfl, hk3⟩ : mTb A k := Classical.byContradiction fun z => absurd (hbt.mpr z) (by rw [e18]; decide)
      have hRk := hR2 kn
      have hSk := hSC2 kn
      have hCk := hCL2 kn
      refine kx_rn dM_update 1 28 [(0, .ref m), (1, .int (nI tn)), (2, .int (nI kn))] [.ref m] rfl ?_
      refine pM_7 (v := .ref (m + 1)) rfl (kx_tk_dec rfl dM_update) (mh_o hm) rfl ?_
      refine kx_rn dM_update 1 32 [(0, .ref m), (1, .int (nI tn)), (2, .int (nI kn))] [.int (nI kn), .ref (m + 1)] rfl ?_
      refine mh_ld (k := 1) (x := A 1 kn) (i := kn) rfl rfl (kx_tk_dec rfl dM_update) hm (by show kn < 3; omega) ?_
      rw [hCL kn]
      refine kx_rn dM_update 1 34 [(0, .ref m), (1, .int (nI tn)), (2, .int (nI kn)), (3, .int (nI (CL kn)))] [] rfl ?_
      have loop : ∀ n (c : Nat), c + n = 4 → CL kn ≤ c → (∀ x, CL kn ≤ x → x < c → A 10 x = 0) → kx_w G l mM_update (d + 3) (updQ h0 m S A V PP SZ RW SC CL bg (nI tn) (nI kn)) 0 0 34 [(0, .ref m), (1, .int (nI tn)), (2, .int (nI kn)), (3, .int (nI c))] [] (mH h0 m (va_up S 0 0) A) := by
        intro n
        induction n with
        | zero =>
          intro c hc hcl hbe
          refine kx_rn dM_update 2 36 [(0, .ref m), (1, .int (nI tn)), (2, .int (nI kn)), (3, .int (nI c))] [.int 4, .int (nI c)] rfl ?_
          refine kx_ic (tgt := 60) (kx_tk_dec rfl dM_update) rfl (fun e36 => ?_) (fun e36 => ?_)
          · skip
            replace e36 : 4 ≤ nI c := e36
            replace e36 : 4 ≤ c := (nI_leI (a := 4) (b := c) (by omega) (by omega)).mp e36
            have hbey : ¬ (∃ c, CL kn ≤ c ∧ c < 4 ∧ ¬ A 10 c = 0) := fun ⟨x, z1, z2, z3⟩ => z3 (hbe x z1 (by omega))
            refine kx_rn dM_update 3 63 [(0, .ref m), (1, .int (nI tn)), (2, .int (nI kn)), (3, .int (nI c))] [.int (nI kn), .int (nI tn), .ref m] rfl ?_
            refine cM_169 (as := [.int (nI tn), .int (nI kn)]) (st := []) (mc := 0) (ms := 0) (kc := 0) (ks := 0) rfl (kx_tk_dec rfl dM_update) (mh_o hm) rfl rfl (Nat.le_of_ble_eq_true rfl) (cM_look (S := va_up S 0 0) (P := PP 0) (sz := SZ 0) hst hm ht1 (by omega) hk (hR kn) hRk hV hV2 (hP 0 (by decide)).1 (hP 0 (by decide)).2.1 (hP 0 (by decide)).2.2) (fun o h' hq => ?_)
            obtain ⟨S1, A1, code, rfl, rfl, hS1, hA1, hcode⟩ := hq
            show kx_w _ _ _ _ _ _ _ _ _ _ _
            have hcd : code ≤ 2 := by rcases hcode with z | z | z <;> omega
            refine kx_rn dM_update 2 68 [(0, .ref m), (1, .int (nI tn)), (2, .int (nI kn)), (3, .int (nI code))] [.int (nI code)] rfl ?_
            refine kx_if (tgt := 79) (kx_tk_dec rfl dM_update) rfl (fun e68 => ?_) (fun e68 => ?_)
            · skip
              replace e68 : nI code ≤ 0 := e68
              replace e68 : code ≤ 0 := (nI_leI (a := code) (b := 0) (by omega) (by omega)).mp e68
              have hspec := (hcode.resolve_right (fun z => by rcases z with z | z <;> omega)).2
              have hV1 : ∀ v, A1 4 v = nI (V v) := fun v => by rw [hA1 4 (by decide) (by decide) (by decide)]; exact hV v
              have hR1 : A1 2 kn = nI (RW kn) := by rw [hA1 2 (by decide) (by decide) (by decide)]; exact hR kn
              have hSC1 : A1 3 kn = nI (SC kn) := by rw [hA1 3 (by decide) (by decide) (by decide)]; exact hSC kn
              have hmt1 : ∀ r, r < RW kn → A1 18 r = b01 (mMt V (A 6) (A 5) (PP 0) (SZ 0) tn kn r) := fun r hr => (hspec r hr).2.2
              refine kx_rn dM_update 2 81 [(0, .ref m), (1, .int (nI tn)), (2, .int (nI kn)), (3, .int (nI code))] [.int (nI kn), .ref m] rfl ?_
              have hP1 : mProg A1 PP SZ := fun i hi => ⟨by rw [hA1 9 (by decide) (by decide) (by decide)]; exact (hP i hi).1, (hP i hi).2.1, fun k hk => by rw [hA1 8 (by decide) (by decide) (by decide)]; exact (hP i hi).2.2 k hk⟩
              refine cM_192 (as := [.int (nI kn)]) (st := []) (mc := 0) (ms := 0) (kc := 0) (ks := 0) rfl (kx_tk_dec rfl dM_update) (mh_o hm) rfl rfl (Nat.le_of_ble_eq_true rfl) (cM_workSettings (tn := tn) (mt := mMt V (A 6) (A 5) (PP 0) (SZ 0) tn kn) hst hm ht1 (by omega) hk hR1 hRk hmt1 (fun r hr => (hspec r hr).2.1) (fun r z => mMt_w z) hP1) (fun o h' hq => ?_)
              obtain ⟨S4, A4, bf, rfl, rfl, hS4, hA4, hbf, hnew⟩ := hq
              show kx_w _ _ _ _ _ _ _ _ _ _ _
              rw [hA1 5 (by decide) (by decide) (by decide), hA1 10 (by decide) (by decide) (by decide)] at hbf hnew
              refine kx_if (tgt := 93) (kx_tk_dec rfl dM_update) rfl (fun e84 => ?_) (fun e84 => ?_)
              · skip
                replace e84 : ¬ b01 bf = 0 := e84
                replace e84 : bf = true := b01_t e84
                refine kx_rn dM_update 5 98 [(0, .ref m), (1, .int (nI tn)), (2, .int (nI kn)), (3, .int (nI code))] [.int 5, .int 0, .int (nI kn), .int (nI tn), .ref m] rfl ?_
                have hV4 : ∀ v, A4 4 v = nI (V v) := fun v => by rw [hA4 4 (by decide) (by decide)]; exact hV1 v
                have hR4 : A4 2 kn = nI (RW kn) := by rw [hA4 2 (by decide) (by decide)]; exact hR1
                have hSC4 : A4 3 kn = nI (SC kn) := by rw [hA4 3 (by decide) (by decide)]; exact hSC1
                refine cM_195 (as := [.int (nI tn), .int (nI kn), .int 0, .int 5]) (st := []) (mc := 0) (ms := 0) (kc := 0) (ks := 0) rfl (kx_tk_dec rfl dM_update) (mh_o hm) rfl rfl (Nat.le_of_ble_eq_true rfl) (cM_writeAll (mt := mMt V (A 6) (A 5) (PP 0) (SZ 0) tn kn) (sc := SC kn) (g := false) hst hm ht1 (by omega) hk hR4 hRk hSC4 hSk hV4 hV2 (fun r hr => by rw [hA4 18 (by decide) (by decide)]; exact hmt1 r hr) (fun r hr => by rw [hA4 16 (by decide) (by decide)]; exact (hspec r hr).2.1) (fun r z => mMt_w z)) (fun o h' hq => ?_)
                rcases hq with ⟨hlt, rfl, rfl⟩ | ⟨hlt, rfl, A3, rfl, hA3, hA33, hw3⟩
                · skip
                  show kx_w _ _ _ _ _ _ _ _ _ _ _
                  refine kx_ret (ty := .int) (kx_tk_dec rfl dM_update) rfl rfl ?_
                  refine Or.inr ⟨tn, kn, ht1, ht2, rfl, ht4, hk, rfl, hk3, _, _, rfl, Or.inr ⟨hbey, Or.inr (Or.inr ⟨fun r hr => (hspec r hr).1, Or.inr ⟨hbf.mp e84, Or.inl ⟨hlt, rfl, rfl, ?_, ?_, ?_, ?_, rfl⟩⟩⟩)⟩⟩
                  · show S4 8 + 1 = _; rw [hS4 8 (by decide), hS1 8 (by decide)]; rfl
                  · intro k z0 z8 z22; rw [va_up_ne _ _ z0, va_up_ne _ _ z8, hS4 k z22, hS1 k z22, va_up_ne _ _ z0]
                  · intro k z12 z16 z17 z18 z4 z6; rw [va_up_ne _ _ z4, va_up_ne _ _ z6, hA4 k z12 z17]; exact hA1 k z12 z16 z18
                  · show va_up (A4 6) tn 3 = _; rw [hA4 6 (by decide) (by decide), hA1 6 (by decide) (by decide) (by decide)]
                · skip
                  show kx_w _ _ _ _ _ _ _ _ _ _ _
                  refine kx_ret (ty := .int) (kx_tk_dec rfl dM_update) rfl rfl ?_
                  refine Or.inr ⟨tn, kn, ht1, ht2, rfl, ht4, hk, rfl, hk3, _, _, rfl, Or.inr ⟨hbey, Or.inr (Or.inr ⟨fun r hr => (hspec r hr).1, Or.inr ⟨hbf.mp e84, Or.inr ⟨hlt, ?_, rfl, ?_, ?_, ?_, _, hnew, ?_⟩⟩⟩)⟩⟩
                  · rw [hS4 0 (by decide), hS1 0 (by decide)]; rfl
                  · intro k z0 z22; rw [hS4 k z22, hS1 k z22, va_up_ne _ _ z0]
                  · intro k z12 z16 z17 z18 z3 z4 z5; rw [hA3 k z3 z4 z5, hA4 k z12 z17]; exact hA1 k z12 z16 z18
                  · rw [hA33, hA4 3 (by decide) (by decide), hA1 3 (by decide) (by decide) (by decide)]
                  · rw [hA4 5 (by decide) (by decide), hA1 5 (by decide) (by decide) (by decide)] at hw3; exact hw3
              · skip
                replace e84 : b01 bf = 0 := e84
                replace e84 : bf = false := b01_f e84
                refine kx_rn dM_update 2 89 [(0, .ref m), (1, .int (nI tn)), (2, .int (nI kn)), (3, .int (nI code))] [.int 4, .ref m] rfl ?_
                refine cM_79 (as := [.int 4]) (st := []) (mc := 0) (ms := 0) (kc := 0) (ks := 0) rfl (kx_tk_dec rfl dM_update) (mh_o hm) rfl rfl (Nat.le_of_ble_eq_true rfl) (cM_fail hst hm) (fun o h' hq => ?_)
                obtain ⟨rfl, rfl⟩ := hq
                show kx_w _ _ _ _ _ _ _ _ _ _ _
                refine kx_ret (ty := .int) (kx_tk_dec rfl dM_update) rfl rfl ?_
                refine Or.inr ⟨tn, kn, ht1, ht2, rfl, ht4, hk, rfl, hk3, _, _, rfl, Or.inr ⟨hbey, Or.inr (Or.inr ⟨fun r hr => (hspec r hr).1, Or.inl ⟨fun z => absurd (hbf.mpr z) (by rw [e84]; decide), rfl, rfl, ?_, ?_⟩⟩)⟩⟩
                · intro k z0 z22; rw [va_up_ne _ _ z0, hS4 k z22, hS1 k z22, va_up_ne _ _ z0]
                · intro k z12 z16 z17 z18; rw [hA4 k z12 z17]; exact hA1 k z12 z16 z18
            · skip
              replace e68 : ¬ nI code ≤ 0 := e68
              replace e68 : ¬ code ≤ 0 := fun z => e68 ((nI_leI (a := code) (b := 0) (by omega) (by omega)).mpr z)
              refine kx_rn dM_update 4 75 [(0, .ref m), (1, .int (nI tn)), (2, .int (nI kn)), (3, .int (nI code))] [.int (2 + (nI code)), .ref m] rfl ?_
              rw [show 2 + (nI code) = nI (2 + code) from kn_ad rfl rfl]
              refine cM_79 (as := [.int (nI (2 + code))]) (st := []) (mc := 0) (ms := 0) (kc := 0) (ks := 0) rfl (kx_tk_dec rfl dM_update) (mh_o hm) rfl rfl (Nat.le_of_ble_eq_true rfl) (cM_fail hst hm) (fun o h' hq => ?_)
              obtain ⟨rfl, rfl⟩ := hq
              show kx_w _ _ _ _ _ _ _ _ _ _ _
              refine kx_ret (ty := .int) (kx_tk_dec rfl dM_update) rfl rfl ?_
              refine Or.inr ⟨tn, kn, ht1, ht2, rfl, ht4, hk, rfl, hk3, _, _, rfl, Or.inr ⟨hbey, ?_⟩⟩
              rcases hcode with ⟨z, -⟩ | ⟨z, z2⟩ | ⟨z, z2⟩
              · omega
              · subst z; exact Or.inl ⟨rfl, rfl, z2, ⟨fun k z0 z22 => by rw [va_up_ne _ _ z0, hS1 k z22, va_up_ne _ _ z0], fun k z12 z16 z17 z18 => hA1 k z12 z16 z18⟩⟩
              · subst z; exact Or.inr (Or.inl ⟨rfl, rfl, z2, ⟨fun k z0 z22 => by rw [va_up_ne _ _ z0, hS1 k z22, va_up_ne _ _ z0], fun k z12 z16 z17 z18 => hA1 k z12 z16 z18⟩⟩)
          · skip
            replace e36 : ¬ 4 ≤ nI c := e36
            replace e36 : ¬ 4 ≤ c := fun z => e36 ((nI_leI (a := 4) (b := c) (by omega) (by omega)).mpr z)
            exfalso; omega
        | succ n ih =>
          intro c hc hcl hbe
          refine kx_rn dM_update 2 36 [(0, .ref m), (1, .int (nI tn)), (2, .int (nI kn)), (3, .int (nI c))] [.int 4, .int (nI c)] rfl ?_
          refine kx_ic (tgt := 60) (kx_tk_dec rfl dM_update) rfl (fun e36 => ?_) (fun e36 => ?_)
          · skip
            replace e36 : 4 ≤ nI c := e36
            replace e36 : 4 ≤ c := (nI_leI (a := 4) (b := c) (by omega) (by omega)).mp e36
            exfalso; omega
          · skip
            replace e36 : ¬ 4 ≤ nI c := e36
            replace e36 : ¬ 4 ≤ c := fun z => e36 ((nI_leI (a := 4) (b := c) (by omega) (by omega)).mpr z)
            refine kx_rn dM_update 1 40 [(0, .ref m), (1, .int (nI tn)), (2, .int (nI kn)), (3, .int (nI c))] [.ref m] rfl ?_
            refine pM_41 (v := .ref (m + 10)) rfl (kx_tk_dec rfl dM_update) (mh_o hm) rfl ?_
            refine kx_rn dM_update 1 44 [(0, .ref m), (1, .int (nI tn)), (2, .int (nI kn)), (3, .int (nI c))] [.int (nI c), .ref (m + 10)] rfl ?_
            refine mh_zl (k := 10) (x := A 10 c) (i := c) rfl rfl (kx_tk_dec rfl dM_update) hm (by show c < 4; omega) ?_
            refine kx_if (tgt := 54) (kx_tk_dec rfl dM_update) rfl (fun e45 => ?_) (fun e45 => ?_)
            · skip
              replace e45 : A 10 c = 0 := e45
              refine kx_rn dM_update 2 34 [(0, .ref m), (1, .int (nI tn)), (2, .int (nI kn)), (3, .int ((nI c) + 1))] [] rfl ?_
              rw [show (nI c) + 1 = nI (c + 1) from kn_ad rfl rfl]
              exact ih (c + 1) (by omega) (by omega) (fun x h1 h2 => by
                by_cases z : x = c
                · rw [z]; exact e45
                · exact hbe x h1 (by omega))
            · skip
              replace e45 : ¬ A 10 c = 0 := e45
              refine kx_rn dM_update 2 50 [(0, .ref m), (1, .int (nI tn)), (2, .int (nI kn)), (3, .int (nI c))] [.int 2, .ref m] rfl ?_
              refine cM_79 (as := [.int 2]) (st := []) (mc := 0) (ms := 0) (kc := 0) (ks := 0) rfl (kx_tk_dec rfl dM_update) (mh_o hm) rfl rfl (Nat.le_of_ble_eq_true rfl) (cM_fail hst hm) (fun o h' hq => ?_)
              obtain ⟨rfl, rfl⟩ := hq
              show kx_w _ _ _ _ _ _ _ _ _ _ _
              rw [va_upup]
              refine kx_ret (ty := .int) (kx_tk_dec rfl dM_update) rfl rfl ?_
              exact Or.inr ⟨tn, kn, ht1, ht2, rfl, ht4, hk, rfl, hk3, _, _, rfl, Or.inl ⟨⟨c, by omega, by omega, e45⟩, rfl, rfl, fun k z0 z22 => va_up_ne _ _ z0, fun k _ _ _ _ => rfl⟩⟩
      exact loop (4 - CL kn) (CL kn) (by omega) (Nat.le_refl _) (fun x h1 h2 => absurd h2 (by omega))
    · skip
      replace e18 : ¬ b01 bt = 0 := e18
      replace e18 : bt = true := b01_t e18
      refine kx_rn dM_update 2 23 [(0, .ref m), (1, .int (nI tn)), (2, .int k)] [.int 1, .ref m] rfl ?_
      refine cM_79 (as := [.int 1]) (st := []) (mc := 0) (ms := 0) (kc := 0) (ks := 0) rfl (kx_tk_dec rfl dM_update) (mh_o hm) rfl rfl (Nat.le_of_ble_eq_true rfl) (cM_fail hst hm) (fun o h' hq => ?_)
      obtain ⟨rfl, rfl⟩ := hq
      show kx_w _ _ _ _ _ _ _ _ _ _ _
      rw [va_upup]
      refine kx_ret (ty := .int) (kx_tk_dec rfl dM_update) rfl rfl ?_
      exact Or.inl ⟨fun z => (hbt.mp e18) z.2, rfl, rfl⟩
end KM12
