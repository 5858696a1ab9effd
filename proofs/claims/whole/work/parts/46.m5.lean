/-! ===== the reference: insert, vacuum, count, mean ===== -/
section KM5
variable {G : kx_G} {l : Launch} {d : Nat} {h0 : kx_H} {m : Nat} {S : Nat → Int32} {A : Nat → Nat → Int32}
/-- the values that insert lays into its row -/
def vNew (a b c e : Int32) (cl i : Nat) : Int32 := if i = 0 then a else if i = 1 then (if 1 < cl then b else 0) else if i = 2 then (if 2 < cl then c else 0) else (if 3 < cl then e else 0)
/-- news with a row's four values -/
def vNews (f : Nat → Int32) (r : Nat) (g : Nat → Int32) (i : Nat) : Int32 := if 4 * r ≤ i ∧ i < 4 * r + 4 then g (i - 4 * r) else f i
theorem cM_insert {t k a b c e : Int32} (hst : l.stackTraces = false) (hm : mOk G h0 m) {bg : Nat} (hb : S 7 = nI bg) (hbg : bg ≤ 40) {RW : Nat → Nat} (hR : ∀ k, A 2 k = nI (RW k)) (hR2 : ∀ k, RW k ≤ 24) {SC : Nat → Nat} (hSC : ∀ k, A 3 k = nI (SC k)) (hSC2 : ∀ k, SC k ≤ 40) {CL : Nat → Nat} (hCL : ∀ k, A 1 k = nI (CL k)) (hCL2 : ∀ k, CL k ≤ 4) {V : Nat → Nat} (hV : ∀ v, A 4 v = nI (V v)) (hV2 : ∀ v, V v < 256) :
    kx_c G l mM_insert (d + 2) 0 0 [.ref m, .int t, .int k, .int a, .int b, .int c, .int e] (mH h0 m S A) (fun o h' => (¬ (mOp A bg t ∧ mTb A k) ∧ o = .returned (some (.int 0)) ∧ h' = mH h0 m (va_up S 0 1) A) ∨ ∃ tn kn, 1 ≤ tn ∧ tn ≤ bg ∧ t = nI tn ∧ A 6 tn = 1 ∧ kn < 3 ∧ k = nI kn ∧ ¬ A 1 kn = 0 ∧ ((RW kn = 24 ∧ o = .returned (some (.int 0)) ∧ h' = mH h0 m (va_up S 0 2) A) ∨ (RW kn < 24 ∧ tn < SC kn ∧ o = .returned (some (.int 0)) ∧ h' = mH h0 m (va_up (va_up S 8 (S 8 + 1)) 0 3) (va_up (va_up A 6 (va_up (A 6) tn 3)) 4 (fun v => nI (vBrk V tn v)))) ∨ (RW kn < 24 ∧ ¬ tn < SC kn ∧ o = .returned (some (.int (nI (RW kn)))) ∧ h' = mH h0 m (va_up S 0 0) (va_up (va_up (va_up (va_up A 2 (va_up (A 2) kn (nI (RW kn + 1)))) 17 (vNews (A 17) (RW kn) (vNew a b c e (CL kn)))) 4 (va_up (A 4) (40 * (24 * kn + RW kn) + tn - 1) (nI (vWr (V (40 * (24 * kn + RW kn) + tn - 1)) tn false)))) 5 (vVal (A 5) (vNews (A 17) (RW kn) (vNew a b c e (CL kn))) (40 * (24 * kn + RW kn) + tn - 1) (RW kn) false 4))))) := by
  refine kx_in (by decide +kernel) (Nat.le_of_ble_eq_true rfl) hst ?_
  refine kx_rn dM_insert 2 2 [(0, .ref m), (1, .int t), (2, .int k), (3, .int a), (4, .int b), (5, .int c), (6, .int e)] [.int 0, .ref m] rfl ?_
  refine qM_69 rfl (kx_tk_dec rfl dM_insert) (mh_o hm) rfl rfl (Nat.le_of_ble_eq_true rfl) ?_
  rw [mh_p0]
  refine kx_rn dM_insert 2 7 [(0, .ref m), (1, .int t), (2, .int k), (3, .int a), (4, .int b), (5, .int c), (6, .int e)] [.int t, .ref m] rfl ?_
  refine cM_83 (as := [.int t]) (st := []) (mc := 0) (ms := 0) (kc := 0) (ks := 0) rfl (kx_tk_dec rfl dM_insert) (mh_o hm) rfl rfl (Nat.le_of_ble_eq_true rfl) (cM_closed hst hm (S := va_up S 0 0) hb hbg) (fun o h' hq => ?_)
  obtain ⟨bo, rfl, rfl, hbo⟩ := hq
  show kx_w _ _ _ _ _ _ _ _ _ _ _
  refine kx_if (tgt := 21) (kx_tk_dec rfl dM_insert) rfl (fun e10 => ?_) (fun e10 => ?_)
  · skip
    replace e10 : ¬ b01 bo = 0 := e10
    replace e10 : bo = true := b01_t e10
    refine kx_rn dM_insert 2 23 [(0, .ref m), (1, .int t), (2, .int k), (3, .int a), (4, .int b), (5, .int c), (6, .int e)] [.int 1, .ref m] rfl ?_
    refine cM_79 (as := [.int 1]) (st := []) (mc := 0) (ms := 0) (kc := 0) (ks := 0) rfl (kx_tk_dec rfl dM_insert) (mh_o hm) rfl rfl (Nat.le_of_ble_eq_true rfl) (cM_fail hst hm) (fun o h' hq => ?_)
    obtain ⟨rfl, rfl⟩ := hq
    show kx_w _ _ _ _ _ _ _ _ _ _ _
    rw [va_upup]
    refine kx_ret (ty := .int) (kx_tk_dec rfl dM_insert) rfl rfl ?_
    exact Or.inl ⟨fun z => (hbo.mp e10) z.1, rfl, rfl⟩
  · skip
    replace e10 : b01 bo = 0 := e10
    replace e10 : bo = false := b01_f e10
    obtain ⟨tn, ht1, ht2, rfl, ht4⟩ : mOp A bg t := Classical.byContradiction fun z => absurd (hbo.mpr z) (by rw [e10]; decide)
    refine kx_rn dM_insert 2 15 [(0, .ref m), (1, .int (nI tn)), (2, .int k), (3, .int a), (4, .int b), (5, .int c), (6, .int e)] [.int k, .ref m] rfl ?_
    refine cM_166 (as := [.int k]) (st := []) (mc := 0) (ms := 0) (kc := 0) (ks := 0) rfl (kx_tk_dec rfl dM_insert) (mh_o hm) rfl rfl (Nat.le_of_ble_eq_true rfl) (cM_noTable hst hm) (fun o h' hq => ?_)
    obtain ⟨bt, rfl, rfl, hbt⟩ := hq
    show kx_w _ _ _ _ _ _ _ _ _ _ _
    refine kx_if (tgt := 27) (kx_tk_dec rfl dM_insert) rfl (fun e18 => ?_) (fun e18 => ?_)
    · skip
      replace e18 : b01 bt = 0 := e18
      replace e18 : bt = false := b01_f e18
      obtain ⟨kn, hk, rfl, hk3⟩ : mTb A k := Classical.byContradiction fun z => absurd (hbt.mpr z) (by rw [e18]; decide)
      have hRk := hR2 kn
      have hSk := hSC2 kn
      have hCk := hCL2 kn
      refine kx_rn dM_insert 1 28 [(0, .ref m), (1, .int (nI tn)), (2, .int (nI kn)), (3, .int a), (4, .int b), (5, .int c), (6, .int e)] [.ref m] rfl ?_
      refine pM_13 (v := .ref (m + 2)) rfl (kx_tk_dec rfl dM_insert) (mh_o hm) rfl ?_
      refine kx_rn dM_insert 1 32 [(0, .ref m), (1, .int (nI tn)), (2, .int (nI kn)), (3, .int a), (4, .int b), (5, .int c), (6, .int e)] [.int (nI kn), .ref (m + 2)] rfl ?_
      refine mh_ld (k := 2) (x := A 2 kn) (i := kn) rfl rfl (kx_tk_dec rfl dM_insert) hm (by show kn < 3; omega) ?_
      rw [hR kn]
      refine kx_rn dM_insert 1 35 [(0, .ref m), (1, .int (nI tn)), (2, .int (nI kn)), (3, .int a), (4, .int b), (5, .int c), (6, .int e)] [.int 24, .int (nI (RW kn))] rfl ?_
      refine kx_ic (tgt := 44) (kx_tk_dec rfl dM_insert) rfl (fun e35 => ?_) (fun e35 => ?_)
      · skip
        replace e35 : ¬ nI (RW kn) = 24 := e35
        replace e35 : ¬ RW kn = 24 := fun z => e35 ((nI_eq (a := RW kn) (b := 24) (by omega) (by omega)).mpr z)
        refine kx_rn dM_insert 1 45 [(0, .ref m), (1, .int (nI tn)), (2, .int (nI kn)), (3, .int a), (4, .int b), (5, .int c), (6, .int e)] [.ref m] rfl ?_
        refine pM_16 (v := .ref (m + 3)) rfl (kx_tk_dec rfl dM_insert) (mh_o hm) rfl ?_
        refine kx_rn dM_insert 1 49 [(0, .ref m), (1, .int (nI tn)), (2, .int (nI kn)), (3, .int a), (4, .int b), (5, .int c), (6, .int e)] [.int (nI kn), .ref (m + 3)] rfl ?_
        refine mh_ld (k := 3) (x := A 3 kn) (i := kn) rfl rfl (kx_tk_dec rfl dM_insert) hm (by show kn < 3; omega) ?_
        rw [hSC kn]
        refine kx_rn dM_insert 1 51 [(0, .ref m), (1, .int (nI tn)), (2, .int (nI kn)), (3, .int a), (4, .int b), (5, .int c), (6, .int e)] [.int (nI tn), .int (nI (SC kn))] rfl ?_
        refine kx_ic (tgt := 61) (kx_tk_dec rfl dM_insert) rfl (fun e51 => ?_) (fun e51 => ?_)
        · skip
          replace e51 : nI (SC kn) ≤ nI tn := e51
          replace e51 : SC kn ≤ tn := (nI_leI (a := SC kn) (b := tn) (by omega) (by omega)).mp e51
          refine kx_rn dM_insert 1 62 [(0, .ref m), (1, .int (nI tn)), (2, .int (nI kn)), (3, .int a), (4, .int b), (5, .int c), (6, .int e)] [.ref m] rfl ?_
          refine pM_13 (v := .ref (m + 2)) rfl (kx_tk_dec rfl dM_insert) (mh_o hm) rfl ?_
          refine kx_rn dM_insert 1 66 [(0, .ref m), (1, .int (nI tn)), (2, .int (nI kn)), (3, .int a), (4, .int b), (5, .int c), (6, .int e)] [.int (nI kn), .ref (m + 2)] rfl ?_
          refine mh_ld (k := 2) (x := A 2 kn) (i := kn) rfl rfl (kx_tk_dec rfl dM_insert) hm (by show kn < 3; omega) ?_
          rw [hR kn]
          refine kx_rn dM_insert 2 70 [(0, .ref m), (1, .int (nI tn)), (2, .int (nI kn)), (3, .int a), (4, .int b), (5, .int c), (6, .int e), (7, .int (nI (RW kn)))] [.ref m] rfl ?_
          refine pM_13 (v := .ref (m + 2)) rfl (kx_tk_dec rfl dM_insert) (mh_o hm) rfl ?_
          refine kx_rn dM_insert 2 75 [(0, .ref m), (1, .int (nI tn)), (2, .int (nI kn)), (3, .int a), (4, .int b), (5, .int c), (6, .int e), (7, .int (nI (RW kn)))] [.int (nI kn), .ref (m + 2), .int (nI kn), .ref (m + 2)] rfl ?_
          refine mh_ld (k := 2) (x := A 2 kn) (i := kn) rfl rfl (kx_tk_dec rfl dM_insert) hm (by show kn < 3; omega) ?_
          rw [hR kn]
          refine kx_rn dM_insert 2 78 [(0, .ref m), (1, .int (nI tn)), (2, .int (nI kn)), (3, .int a), (4, .int b), (5, .int c), (6, .int e), (7, .int (nI (RW kn)))] [.int ((nI (RW kn)) + 1), .int (nI kn), .ref (m + 2)] rfl ?_
          rw [show (nI (RW kn)) + 1 = nI ((RW kn) + 1) from kn_ad rfl rfl]
          refine mh_st (k := 2) (i := kn) (A' := va_up A 2 (va_up (A 2) kn (nI ((RW kn) + 1)))) rfl (kx_tk_dec rfl dM_insert) hm (by show kn < 3; omega) rfl ?_
          refine kx_rn dM_insert 1 80 [(0, .ref m), (1, .int (nI tn)), (2, .int (nI kn)), (3, .int a), (4, .int b), (5, .int c), (6, .int e), (7, .int (nI (RW kn)))] [.ref m] rfl ?_
          refine pM_63 (v := .ref (m + 17)) rfl (kx_tk_dec rfl dM_insert) (mh_o hm) rfl ?_
          refine kx_rn dM_insert 4 88 [(0, .ref m), (1, .int (nI tn)), (2, .int (nI kn)), (3, .int a), (4, .int b), (5, .int c), (6, .int e), (7, .int (nI (RW kn)))] [.int a, .int (4 * (nI (RW kn))), .ref (m + 17)] rfl ?_
          rw [show 4 * (nI (RW kn)) = nI (4 * (RW kn)) from kn_mu rfl rfl]
          refine mh_st (k := 17) (i := 4 * (RW kn)) (A' := va_up (va_up A 2 (va_up (A 2) kn (nI ((RW kn) + 1)))) 17 (va_up (A 17) (4 * (RW kn)) a)) rfl (kx_tk_dec rfl dM_insert) hm (by show 4 * (RW kn) < 96; omega) rfl ?_
          refine kx_rn dM_insert 1 90 [(0, .ref m), (1, .int (nI tn)), (2, .int (nI kn)), (3, .int a), (4, .int b), (5, .int c), (6, .int e), (7, .int (nI (RW kn)))] [.ref m] rfl ?_
          refine pM_63 (v := .ref (m + 17)) rfl (kx_tk_dec rfl dM_insert) (mh_o hm) rfl ?_
          refine kx_rn dM_insert 6 100 [(0, .ref m), (1, .int (nI tn)), (2, .int (nI kn)), (3, .int a), (4, .int b), (5, .int c), (6, .int e), (7, .int (nI (RW kn)))] [.ref m, .int ((4 * (nI (RW kn))) + 1), .ref (m + 17)] rfl ?_
          rw [show (4 * (nI (RW kn))) + 1 = nI ((4 * (RW kn)) + 1) from kn_ad (kn_mu rfl rfl) rfl]
          refine pM_7 (v := .ref (m + 1)) rfl (kx_tk_dec rfl dM_insert) (mh_o hm) rfl ?_
          refine kx_rn dM_insert 1 104 [(0, .ref m), (1, .int (nI tn)), (2, .int (nI kn)), (3, .int a), (4, .int b), (5, .int c), (6, .int e), (7, .int (nI (RW kn)))] [.int (nI kn), .ref (m + 1), .int (nI ((4 * (RW kn)) + 1)), .ref (m + 17)] rfl ?_
          refine mh_ld (k := 1) (x := A 1 kn) (i := kn) rfl rfl (kx_tk_dec rfl dM_insert) hm (by show kn < 3; omega) ?_
          rw [hCL kn]
          refine kx_rn dM_insert 1 106 [(0, .ref m), (1, .int (nI tn)), (2, .int (nI kn)), (3, .int a), (4, .int b), (5, .int c), (6, .int e), (7, .int (nI (RW kn)))] [.int 1, .int (nI (CL kn)), .int (nI ((4 * (RW kn)) + 1)), .ref (m + 17)] rfl ?_
          refine kx_ic (tgt := 114) (kx_tk_dec rfl dM_insert) rfl (fun e106 => ?_) (fun e106 => ?_)
          · skip
            replace e106 : nI (CL kn) ≤ 1 := e106
            replace e106 : CL kn ≤ 1 := (nI_leI (a := CL kn) (b := 1) (by omega) (by omega)).mp e106
            refine kx_rn dM_insert 1 115 [(0, .ref m), (1, .int (nI tn)), (2, .int (nI kn)), (3, .int a), (4, .int b), (5, .int c), (6, .int e), (7, .int (nI (RW kn)))] [.int 0, .int (nI ((4 * (RW kn)) + 1)), .ref (m + 17)] rfl ?_
            refine mh_st (k := 17) (i := (4 * (RW kn)) + 1) (A' := va_up (va_up A 2 (va_up (A 2) kn (nI ((RW kn) + 1)))) 17 (va_up (va_up (A 17) (4 * (RW kn)) a) ((4 * (RW kn)) + 1) 0)) rfl (kx_tk_dec rfl dM_insert) hm (by show (4 * (RW kn)) + 1 < 96; omega) (va_upup _ _ _ _) ?_
            refine kx_rn dM_insert 1 117 [(0, .ref m), (1, .int (nI tn)), (2, .int (nI kn)), (3, .int a), (4, .int b), (5, .int c), (6, .int e), (7, .int (nI (RW kn)))] [.ref m] rfl ?_
            refine pM_63 (v := .ref (m + 17)) rfl (kx_tk_dec rfl dM_insert) (mh_o hm) rfl ?_
            refine kx_rn dM_insert 6 127 [(0, .ref m), (1, .int (nI tn)), (2, .int (nI kn)), (3, .int a), (4, .int b), (5, .int c), (6, .int e), (7, .int (nI (RW kn)))] [.ref m, .int ((4 * (nI (RW kn))) + 2), .ref (m + 17)] rfl ?_
            rw [show (4 * (nI (RW kn))) + 2 = nI ((4 * (RW kn)) + 2) from kn_ad (kn_mu rfl rfl) rfl]
            refine pM_7 (v := .ref (m + 1)) rfl (kx_tk_dec rfl dM_insert) (mh_o hm) rfl ?_
            refine kx_rn dM_insert 1 131 [(0, .ref m), (1, .int (nI tn)), (2, .int (nI kn)), (3, .int a), (4, .int b), (5, .int c), (6, .int e), (7, .int (nI (RW kn)))] [.int (nI kn), .ref (m + 1), .int (nI ((4 * (RW kn)) + 2)), .ref (m + 17)] rfl ?_
            refine mh_ld (k := 1) (x := A 1 kn) (i := kn) rfl rfl (kx_tk_dec rfl dM_insert) hm (by show kn < 3; omega) ?_
            rw [hCL kn]
            refine kx_rn dM_insert 1 133 [(0, .ref m), (1, .int (nI tn)), (2, .int (nI kn)), (3, .int a), (4, .int b), (5, .int c), (6, .int e), (7, .int (nI (RW kn)))] [.int 2, .int (nI (CL kn)), .int (nI ((4 * (RW kn)) + 2)), .ref (m + 17)] rfl ?_
            refine kx_ic (tgt := 141) (kx_tk_dec rfl dM_insert) rfl (fun e133 => ?_) (fun e133 => ?_)
            · skip
              replace e133 : nI (CL kn) ≤ 2 := e133
              replace e133 : CL kn ≤ 2 := (nI_leI (a := CL kn) (b := 2) (by omega) (by omega)).mp e133
              refine kx_rn dM_insert 1 142 [(0, .ref m), (1, .int (nI tn)), (2, .int (nI kn)), (3, .int a), (4, .int b), (5, .int c), (6, .int e), (7, .int (nI (RW kn)))] [.int 0, .int (nI ((4 * (RW kn)) + 2)), .ref (m + 17)] rfl ?_
              refine mh_st (k := 17) (i := (4 * (RW kn)) + 2) (A' := va_up (va_up A 2 (va_up (A 2) kn (nI ((RW kn) + 1)))) 17 (va_up (va_up (va_up (A 17) (4 * (RW kn)) a) ((4 * (RW kn)) + 1) 0) ((4 * (RW kn)) + 2) 0)) rfl (kx_tk_dec rfl dM_insert) hm (by show (4 * (RW kn)) + 2 < 96; omega) (va_upup _ _ _ _) ?_
              refine kx_rn dM_insert 1 144 [(0, .ref m), (1, .int (nI tn)), (2, .int (nI kn)), (3, .int a), (4, .int b), (5, .int c), (6, .int e), (7, .int (nI (RW kn)))] [.ref m] rfl ?_
              refine pM_63 (v := .ref (m + 17)) rfl (kx_tk_dec rfl dM_insert) (mh_o hm) rfl ?_
              refine kx_rn dM_insert 6 154 [(0, .ref m), (1, .int (nI tn)), (2, .int (nI kn)), (3, .int a), (4, .int b), (5, .int c), (6, .int e), (7, .int (nI (RW kn)))] [.ref m, .int ((4 * (nI (RW kn))) + 3), .ref (m + 17)] rfl ?_
              rw [show (4 * (nI (RW kn))) + 3 = nI ((4 * (RW kn)) + 3) from kn_ad (kn_mu rfl rfl) rfl]
              refine pM_7 (v := .ref (m + 1)) rfl (kx_tk_dec rfl dM_insert) (mh_o hm) rfl ?_
              refine kx_rn dM_insert 1 158 [(0, .ref m), (1, .int (nI tn)), (2, .int (nI kn)), (3, .int a), (4, .int b), (5, .int c), (6, .int e), (7, .int (nI (RW kn)))] [.int (nI kn), .ref (m + 1), .int (nI ((4 * (RW kn)) + 3)), .ref (m + 17)] rfl ?_
              refine mh_ld (k := 1) (x := A 1 kn) (i := kn) rfl rfl (kx_tk_dec rfl dM_insert) hm (by show kn < 3; omega) ?_
              rw [hCL kn]
              refine kx_rn dM_insert 1 160 [(0, .ref m), (1, .int (nI tn)), (2, .int (nI kn)), (3, .int a), (4, .int b), (5, .int c), (6, .int e), (7, .int (nI (RW kn)))] [.int 3, .int (nI (CL kn)), .int (nI ((4 * (RW kn)) + 3)), .ref (m + 17)] rfl ?_
              refine kx_ic (tgt := 168) (kx_tk_dec rfl dM_insert) rfl (fun e160 => ?_) (fun e160 => ?_)
              · skip
                replace e160 : nI (CL kn) ≤ 3 := e160
                replace e160 : CL kn ≤ 3 := (nI_leI (a := CL kn) (b := 3) (by omega) (by omega)).mp e160
                refine kx_rn dM_insert 1 169 [(0, .ref m), (1, .int (nI tn)), (2, .int (nI kn)), (3, .int a), (4, .int b), (5, .int c), (6, .int e), (7, .int (nI (RW kn)))] [.int 0, .int (nI ((4 * (RW kn)) + 3)), .ref (m + 17)] rfl ?_
                refine mh_st (k := 17) (i := (4 * (RW kn)) + 3) (A' := va_up (va_up A 2 (va_up (A 2) kn (nI ((RW kn) + 1)))) 17 (va_up (va_up (va_up (va_up (A 17) (4 * (RW kn)) a) ((4 * (RW kn)) + 1) 0) ((4 * (RW kn)) + 2) 0) ((4 * (RW kn)) + 3) 0)) rfl (kx_tk_dec rfl dM_insert) hm (by show (4 * (RW kn)) + 3 < 96; omega) (va_upup _ _ _ _) ?_
                have hnw : va_up (va_up (va_up (va_up (A 17) (4 * (RW kn)) a) ((4 * (RW kn)) + 1) 0) ((4 * (RW kn)) + 2) 0) ((4 * (RW kn)) + 3) 0 = vNews (A 17) (RW kn) (vNew a b c e (CL kn)) := by
                  funext i
                  simp only [va_up, vNews, vNew]
                  by_cases z3 : i = 4 * RW kn + 3
                  · subst z3; rw [if_pos rfl, if_pos (by omega), show 4 * RW kn + 3 - 4 * RW kn = 3 by omega]; simp only [Nat.reduceEqDiff, if_false]; simp <;> omega
                  · rw [if_neg z3]
                    by_cases z2 : i = 4 * RW kn + 2
                    · subst z2; rw [if_pos rfl, if_pos (by omega), show 4 * RW kn + 2 - 4 * RW kn = 2 by omega]; simp <;> omega
                    · rw [if_neg z2]
                      by_cases z1 : i = 4 * RW kn + 1
                      · subst z1; rw [if_pos rfl, if_pos (by omega), show 4 * RW kn + 1 - 4 * RW kn = 1 by omega]; simp <;> omega
                      · rw [if_neg z1]
                        by_cases z0 : i = 4 * RW kn
                        · subst z0; rw [if_pos rfl, if_pos (by omega), Nat.sub_self]; simp
                        · rw [if_neg z0, if_neg (by omega)]
                refine kx_heq (congrArg (fun z => mH h0 m (va_up S 0 0) (va_up (va_up A 2 (va_up (A 2) kn (nI ((RW kn) + 1)))) 17 z)) hnw) ?_
                refine kx_rn dM_insert 5 176 [(0, .ref m), (1, .int (nI tn)), (2, .int (nI kn)), (3, .int a), (4, .int b), (5, .int c), (6, .int e), (7, .int (nI (RW kn)))] [.int 0, .int (nI (RW kn)), .int (nI kn), .int (nI tn), .ref m] rfl ?_
                refine cM_188 (as := [.int (nI tn), .int (nI kn), .int (nI (RW kn)), .int 0]) (st := []) (mc := 0) (ms := 0) (kc := 0) (ks := 0) rfl (kx_tk_dec rfl dM_insert) (mh_o hm) rfl rfl (Nat.le_of_ble_eq_true rfl) (cM_write (g := false) hst hm ht1 (by omega) hk (by omega) hV hV2) (fun o h' hq => ?_)
                obtain ⟨rfl, rfl⟩ := hq
                show kx_w _ _ _ _ _ _ _ _ _ _ _
                refine kx_rn dM_insert 1 181 [(0, .ref m), (1, .int (nI tn)), (2, .int (nI kn)), (3, .int a), (4, .int b), (5, .int c), (6, .int e), (7, .int (nI (RW kn)))] [.int (nI (RW kn))] rfl ?_
                refine kx_ret (ty := .int) (kx_tk_dec rfl dM_insert) rfl rfl ?_
                exact Or.inr ⟨tn, kn, ht1, ht2, rfl, ht4, hk, rfl, hk3, Or.inr (Or.inr ⟨by omega, by omega, rfl, rfl⟩)⟩
              · skip
                replace e160 : ¬ nI (CL kn) ≤ 3 := e160
                replace e160 : ¬ CL kn ≤ 3 := fun z => e160 ((nI_leI (a := CL kn) (b := 3) (by omega) (by omega)).mpr z)
                refine kx_rn dM_insert 2 169 [(0, .ref m), (1, .int (nI tn)), (2, .int (nI kn)), (3, .int a), (4, .int b), (5, .int c), (6, .int e), (7, .int (nI (RW kn)))] [.int e, .int (nI ((4 * (RW kn)) + 3)), .ref (m + 17)] rfl ?_
                refine mh_st (k := 17) (i := (4 * (RW kn)) + 3) (A' := va_up (va_up A 2 (va_up (A 2) kn (nI ((RW kn) + 1)))) 17 (va_up (va_up (va_up (va_up (A 17) (4 * (RW kn)) a) ((4 * (RW kn)) + 1) 0) ((4 * (RW kn)) + 2) 0) ((4 * (RW kn)) + 3) e)) rfl (kx_tk_dec rfl dM_insert) hm (by show (4 * (RW kn)) + 3 < 96; omega) (va_upup _ _ _ _) ?_
                have hnw : va_up (va_up (va_up (va_up (A 17) (4 * (RW kn)) a) ((4 * (RW kn)) + 1) 0) ((4 * (RW kn)) + 2) 0) ((4 * (RW kn)) + 3) e = vNews (A 17) (RW kn) (vNew a b c e (CL kn)) := by
                  funext i
                  simp only [va_up, vNews, vNew]
                  by_cases z3 : i = 4 * RW kn + 3
                  · subst z3; rw [if_pos rfl, if_pos (by omega), show 4 * RW kn + 3 - 4 * RW kn = 3 by omega]; simp only [Nat.reduceEqDiff, if_false]; simp <;> omega
                  · rw [if_neg z3]
                    by_cases z2 : i = 4 * RW kn + 2
                    · subst z2; rw [if_pos rfl, if_pos (by omega), show 4 * RW kn + 2 - 4 * RW kn = 2 by omega]; simp <;> omega
                    · rw [if_neg z2]
                      by_cases z1 : i = 4 * RW kn + 1
                      · subst z1; rw [if_pos rfl, if_pos (by omega), show 4 * RW kn + 1 - 4 * RW kn = 1 by omega]; simp <;> omega
                      · rw [if_neg z1]
                        by_cases z0 : i = 4 * RW kn
                        · subst z0; rw [if_pos rfl, if_pos (by omega), Nat.sub_self]; simp
                        · rw [if_neg z0, if_neg (by omega)]
                refine kx_heq (congrArg (fun z => mH h0 m (va_up S 0 0) (va_up (va_up A 2 (va_up (A 2) kn (nI ((RW kn) + 1)))) 17 z)) hnw) ?_
                refine kx_rn dM_insert 5 176 [(0, .ref m), (1, .int (nI tn)), (2, .int (nI kn)), (3, .int a), (4, .int b), (5, .int c), (6, .int e), (7, .int (nI (RW kn)))] [.int 0, .int (nI (RW kn)), .int (nI kn), .int (nI tn), .ref m] rfl ?_
                refine cM_188 (as := [.int (nI tn), .int (nI kn), .int (nI (RW kn)), .int 0]) (st := []) (mc := 0) (ms := 0) (kc := 0) (ks := 0) rfl (kx_tk_dec rfl dM_insert) (mh_o hm) rfl rfl (Nat.le_of_ble_eq_true rfl) (cM_write (g := false) hst hm ht1 (by omega) hk (by omega) hV hV2) (fun o h' hq => ?_)
                obtain ⟨rfl, rfl⟩ := hq
                show kx_w _ _ _ _ _ _ _ _ _ _ _
                refine kx_rn dM_insert 1 181 [(0, .ref m), (1, .int (nI tn)), (2, .int (nI kn)), (3, .int a), (4, .int b), (5, .int c), (6, .int e), (7, .int (nI (RW kn)))] [.int (nI (RW kn))] rfl ?_
                refine kx_ret (ty := .int) (kx_tk_dec rfl dM_insert) rfl rfl ?_
                exact Or.inr ⟨tn, kn, ht1, ht2, rfl, ht4, hk, rfl, hk3, Or.inr (Or.inr ⟨by omega, by omega, rfl, rfl⟩)⟩
            · skip
              replace e133 : ¬ nI (CL kn) ≤ 2 := e133
              replace e133 : ¬ CL kn ≤ 2 := fun z => e133 ((nI_leI (a := CL kn) (b := 2) (by omega) (by omega)).mpr z)
              refine kx_rn dM_insert 2 142 [(0, .ref m), (1, .int (nI tn)), (2, .int (nI kn)), (3, .int a), (4, .int b), (5, .int c), (6, .int e), (7, .int (nI (RW kn)))] [.int c, .int (nI ((4 * (RW kn)) + 2)), .ref (m + 17)] rfl ?_
              refine mh_st (k := 17) (i := (4 * (RW kn)) + 2) (A' := va_up (va_up A 2 (va_up (A 2) kn (nI ((RW kn) + 1)))) 17 (va_up (va_up (va_up (A 17) (4 * (RW kn)) a) ((4 * (RW kn)) + 1) 0) ((4 * (RW kn)) + 2) c)) rfl (kx_tk_dec rfl dM_insert) hm (by show (4 * (RW kn)) + 2 < 96; omega) (va_upup _ _ _ _) ?_
              refine kx_rn dM_insert 1 144 [(0, .ref m), (1, .int (nI tn)), (2, .int (nI kn)), (3, .int a), (4, .int b), (5, .int c), (6, .int e), (7, .int (nI (RW kn)))] [.ref m] rfl ?_
              refine pM_63 (v := .ref (m + 17)) rfl (kx_tk_dec rfl dM_insert) (mh_o hm) rfl ?_
              refine kx_rn dM_insert 6 154 [(0, .ref m), (1, .int (nI tn)), (2, .int (nI kn)), (3, .int a), (4, .int b), (5, .int c), (6, .int e), (7, .int (nI (RW kn)))] [.ref m, .int ((4 * (nI (RW kn))) + 3), .ref (m + 17)] rfl ?_
              rw [show (4 * (nI (RW kn))) + 3 = nI ((4 * (RW kn)) + 3) from kn_ad (kn_mu rfl rfl) rfl]
              refine pM_7 (v := .ref (m + 1)) rfl (kx_tk_dec rfl dM_insert) (mh_o hm) rfl ?_
              refine kx_rn dM_insert 1 158 [(0, .ref m), (1, .int (nI tn)), (2, .int (nI kn)), (3, .int a), (4, .int b), (5, .int c), (6, .int e), (7, .int (nI (RW kn)))] [.int (nI kn), .ref (m + 1), .int (nI ((4 * (RW kn)) + 3)), .ref (m + 17)] rfl ?_
              refine mh_ld (k := 1) (x := A 1 kn) (i := kn) rfl rfl (kx_tk_dec rfl dM_insert) hm (by show kn < 3; omega) ?_
              rw [hCL kn]
              refine kx_rn dM_insert 1 160 [(0, .ref m), (1, .int (nI tn)), (2, .int (nI kn)), (3, .int a), (4, .int b), (5, .int c), (6, .int e), (7, .int (nI (RW kn)))] [.int 3, .int (nI (CL kn)), .int (nI ((4 * (RW kn)) + 3)), .ref (m + 17)] rfl ?_
              refine kx_ic (tgt := 168) (kx_tk_dec rfl dM_insert) rfl (fun e160 => ?_) (fun e160 => ?_)
              · skip
                replace e160 : nI (CL kn) ≤ 3 := e160
                replace e160 : CL kn ≤ 3 := (nI_leI (a := CL kn) (b := 3) (by omega) (by omega)).mp e160
                refine kx_rn dM_insert 1 169 [(0, .ref m), (1, .int (nI tn)), (2, .int (nI kn)), (3, .int a), (4, .int b), (5, .int c), (6, .int e), (7, .int (nI (RW kn)))] [.int 0, .int (nI ((4 * (RW kn)) + 3)), .ref (m + 17)] rfl ?_
                refine mh_st (k := 17) (i := (4 * (RW kn)) + 3) (A' := va_up (va_up A 2 (va_up (A 2) kn (nI ((RW kn) + 1)))) 17 (va_up (va_up (va_up (va_up (A 17) (4 * (RW kn)) a) ((4 * (RW kn)) + 1) 0) ((4 * (RW kn)) + 2) c) ((4 * (RW kn)) + 3) 0)) rfl (kx_tk_dec rfl dM_insert) hm (by show (4 * (RW kn)) + 3 < 96; omega) (va_upup _ _ _ _) ?_
                have hnw : va_up (va_up (va_up (va_up (A 17) (4 * (RW kn)) a) ((4 * (RW kn)) + 1) 0) ((4 * (RW kn)) + 2) c) ((4 * (RW kn)) + 3) 0 = vNews (A 17) (RW kn) (vNew a b c e (CL kn)) := by
                  funext i
                  simp only [va_up, vNews, vNew]
                  by_cases z3 : i = 4 * RW kn + 3
                  · subst z3; rw [if_pos rfl, if_pos (by omega), show 4 * RW kn + 3 - 4 * RW kn = 3 by omega]; simp only [Nat.reduceEqDiff, if_false]; simp <;> omega
                  · rw [if_neg z3]
                    by_cases z2 : i = 4 * RW kn + 2
                    · subst z2; rw [if_pos rfl, if_pos (by omega), show 4 * RW kn + 2 - 4 * RW kn = 2 by omega]; simp <;> omega
                    · rw [if_neg z2]
                      by_cases z1 : i = 4 * RW kn + 1
                      · subst z1; rw [if_pos rfl, if_pos (by omega), show 4 * RW kn + 1 - 4 * RW kn = 1 by omega]; simp <;> omega
                      · rw [if_neg z1]
                        by_cases z0 : i = 4 * RW kn
                        · subst z0; rw [if_pos rfl, if_pos (by omega), Nat.sub_self]; simp
                        · rw [if_neg z0, if_neg (by omega)]
                refine kx_heq (congrArg (fun z => mH h0 m (va_up S 0 0) (va_up (va_up A 2 (va_up (A 2) kn (nI ((RW kn) + 1)))) 17 z)) hnw) ?_
                refine kx_rn dM_insert 5 176 [(0, .ref m), (1, .int (nI tn)), (2, .int (nI kn)), (3, .int a), (4, .int b), (5, .int c), (6, .int e), (7, .int (nI (RW kn)))] [.int 0, .int (nI (RW kn)), .int (nI kn), .int (nI tn), .ref m] rfl ?_
                refine cM_188 (as := [.int (nI tn), .int (nI kn), .int (nI (RW kn)), .int 0]) (st := []) (mc := 0) (ms := 0) (kc := 0) (ks := 0) rfl (kx_tk_dec rfl dM_insert) (mh_o hm) rfl rfl (Nat.le_of_ble_eq_true rfl) (cM_write (g := false) hst hm ht1 (by omega) hk (by omega) hV hV2) (fun o h' hq => ?_)
                obtain ⟨rfl, rfl⟩ := hq
                show kx_w _ _ _ _ _ _ _ _ _ _ _
                refine kx_rn dM_insert 1 181 [(0, .ref m), (1, .int (nI tn)), (2, .int (nI kn)), (3, .int a), (4, .int b), (5, .int c), (6, .int e), (7, .int (nI (RW kn)))] [.int (nI (RW kn))] rfl ?_
                refine kx_ret (ty := .int) (kx_tk_dec rfl dM_insert) rfl rfl ?_
                exact Or.inr ⟨tn, kn, ht1, ht2, rfl, ht4, hk, rfl, hk3, Or.inr (Or.inr ⟨by omega, by omega, rfl, rfl⟩)⟩
              · skip
                replace e160 : ¬ nI (CL kn) ≤ 3 := e160
                replace e160 : ¬ CL kn ≤ 3 := fun z => e160 ((nI_leI (a := CL kn) (b := 3) (by omega) (by omega)).mpr z)
                refine kx_rn dM_insert 2 169 [(0, .ref m), (1, .int (nI tn)), (2, .int (nI kn)), (3, .int a), (4, .int b), (5, .int c), (6, .int e), (7, .int (nI (RW kn)))] [.int e, .int (nI ((4 * (RW kn)) + 3)), .ref (m + 17)] rfl ?_
                refine mh_st (k := 17) (i := (4 * (RW kn)) + 3) (A' := va_up (va_up A 2 (va_up (A 2) kn (nI ((RW kn) + 1)))) 17 (va_up (va_up (va_up (va_up (A 17) (4 * (RW kn)) a) ((4 * (RW kn)) + 1) 0) ((4 * (RW kn)) + 2) c) ((4 * (RW kn)) + 3) e)) rfl (kx_tk_dec rfl dM_insert) hm (by show (4 * (RW kn)) + 3 < 96; omega) (va_upup _ _ _ _) ?_
                have hnw : va_up (va_up (va_up (va_up (A 17) (4 * (RW kn)) a) ((4 * (RW kn)) + 1) 0) ((4 * (RW kn)) + 2) c) ((4 * (RW kn)) + 3) e = vNews (A 17) (RW kn) (vNew a b c e (CL kn)) := by
                  funext i
                  simp only [va_up, vNews, vNew]
                  by_cases z3 : i = 4 * RW kn + 3
                  · subst z3; rw [if_pos rfl, if_pos (by omega), show 4 * RW kn + 3 - 4 * RW kn = 3 by omega]; simp only [Nat.reduceEqDiff, if_false]; simp <;> omega
                  · rw [if_neg z3]
                    by_cases z2 : i = 4 * RW kn + 2
                    · subst z2; rw [if_pos rfl, if_pos (by omega), show 4 * RW kn + 2 - 4 * RW kn = 2 by omega]; simp <;> omega
                    · rw [if_neg z2]
                      by_cases z1 : i = 4 * RW kn + 1
                      · subst z1; rw [if_pos rfl, if_pos (by omega), show 4 * RW kn + 1 - 4 * RW kn = 1 by omega]; simp <;> omega
                      · rw [if_neg z1]
                        by_cases z0 : i = 4 * RW kn
                        · subst z0; rw [if_pos rfl, if_pos (by omega), Nat.sub_self]; simp
                        · rw [if_neg z0, if_neg (by omega)]
                refine kx_heq (congrArg (fun z => mH h0 m (va_up S 0 0) (va_up (va_up A 2 (va_up (A 2) kn (nI ((RW kn) + 1)))) 17 z)) hnw) ?_
                refine kx_rn dM_insert 5 176 [(0, .ref m), (1, .int (nI tn)), (2, .int (nI kn)), (3, .int a), (4, .int b), (5, .int c), (6, .int e), (7, .int (nI (RW kn)))] [.int 0, .int (nI (RW kn)), .int (nI kn), .int (nI tn), .ref m] rfl ?_
                refine cM_188 (as := [.int (nI tn), .int (nI kn), .int (nI (RW kn)), .int 0]) (st := []) (mc := 0) (ms := 0) (kc := 0) (ks := 0) rfl (kx_tk_dec rfl dM_insert) (mh_o hm) rfl rfl (Nat.le_of_ble_eq_true rfl) (cM_write (g := false) hst hm ht1 (by omega) hk (by omega) hV hV2) (fun o h' hq => ?_)
                obtain ⟨rfl, rfl⟩ := hq
                show kx_w _ _ _ _ _ _ _ _ _ _ _
                refine kx_rn dM_insert 1 181 [(0, .ref m), (1, .int (nI tn)), (2, .int (nI kn)), (3, .int a), (4, .int b), (5, .int c), (6, .int e), (7, .int (nI (RW kn)))] [.int (nI (RW kn))] rfl ?_
                refine kx_ret (ty := .int) (kx_tk_dec rfl dM_insert) rfl rfl ?_
                exact Or.inr ⟨tn, kn, ht1, ht2, rfl, ht4, hk, rfl, hk3, Or.inr (Or.inr ⟨by omega, by omega, rfl, rfl⟩)⟩
          · skip
            replace e106 : ¬ nI (CL kn) ≤ 1 := e106
            replace e106 : ¬ CL kn ≤ 1 := fun z => e106 ((nI_leI (a := CL kn) (b := 1) (by omega) (by omega)).mpr z)
            refine kx_rn dM_insert 2 115 [(0, .ref m), (1, .int (nI tn)), (2, .int (nI kn)), (3, .int a), (4, .int b), (5, .int c), (6, .int e), (7, .int (nI (RW kn)))] [.int b, .int (nI ((4 * (RW kn)) + 1)), .ref (m + 17)] rfl ?_
            refine mh_st (k := 17) (i := (4 * (RW kn)) + 1) (A' := va_up (va_up A 2 (va_up (A 2) kn (nI ((RW kn) + 1)))) 17 (va_up (va_up (A 17) (4 * (RW kn)) a) ((4 * (RW kn)) + 1) b)) rfl (kx_tk_dec rfl dM_insert) hm (by show (4 * (RW kn)) + 1 < 96; omega) (va_upup _ _ _ _) ?_
            refine kx_rn dM_insert 1 117 [(0, .ref m), (1, .int (nI tn)), (2, .int (nI kn)), (3, .int a), (4, .int b), (5, .int c), (6, .int e), (7, .int (nI (RW kn)))] [.ref m] rfl ?_
            refine pM_63 (v := .ref (m + 17)) rfl (kx_tk_dec rfl dM_insert) (mh_o hm) rfl ?_
            refine kx_rn dM_insert 6 127 [(0, .ref m), (1, .int (nI tn)), (2, .int (nI kn)), (3, .int a), (4, .int b), (5, .int c), (6, .int e), (7, .int (nI (RW kn)))] [.ref m, .int ((4 * (nI (RW kn))) + 2), .ref (m + 17)] rfl ?_
            rw [show (4 * (nI (RW kn))) + 2 = nI ((4 * (RW kn)) + 2) from kn_ad (kn_mu rfl rfl) rfl]
            refine pM_7 (v := .ref (m + 1)) rfl (kx_tk_dec rfl dM_insert) (mh_o hm) rfl ?_
            refine kx_rn dM_insert 1 131 [(0, .ref m), (1, .int (nI tn)), (2, .int (nI kn)), (3, .int a), (4, .int b), (5, .int c), (6, .int e), (7, .int (nI (RW kn)))] [.int (nI kn), .ref (m + 1), .int (nI ((4 * (RW kn)) + 2)), .ref (m + 17)] rfl ?_
            refine mh_ld (k := 1) (x := A 1 kn) (i := kn) rfl rfl (kx_tk_dec rfl dM_insert) hm (by show kn < 3; omega) ?_
            rw [hCL kn]
            refine kx_rn dM_insert 1 133 [(0, .ref m), (1, .int (nI tn)), (2, .int (nI kn)), (3, .int a), (4, .int b), (5, .int c), (6, .int e), (7, .int (nI (RW kn)))] [.int 2, .int (nI (CL kn)), .int (nI ((4 * (RW kn)) + 2)), .ref (m + 17)] rfl ?_
            refine kx_ic (tgt := 141) (kx_tk_dec rfl dM_insert) rfl (fun e133 => ?_) (fun e133 => ?_)
            · skip
              replace e133 : nI (CL kn) ≤ 2 := e133
              replace e133 : CL kn ≤ 2 := (nI_leI (a := CL kn) (b := 2) (by omega) (by omega)).mp e133
              refine kx_rn dM_insert 1 142 [(0, .ref m), (1, .int (nI tn)), (2, .int (nI kn)), (3, .int a), (4, .int b), (5, .int c), (6, .int e), (7, .int (nI (RW kn)))] [.int 0, .int (nI ((4 * (RW kn)) + 2)), .ref (m + 17)] rfl ?_
              refine mh_st (k := 17) (i := (4 * (RW kn)) + 2) (A' := va_up (va_up A 2 (va_up (A 2) kn (nI ((RW kn) + 1)))) 17 (va_up (va_up (va_up (A 17) (4 * (RW kn)) a) ((4 * (RW kn)) + 1) b) ((4 * (RW kn)) + 2) 0)) rfl (kx_tk_dec rfl dM_insert) hm (by show (4 * (RW kn)) + 2 < 96; omega) (va_upup _ _ _ _) ?_
              refine kx_rn dM_insert 1 144 [(0, .ref m), (1, .int (nI tn)), (2, .int (nI kn)), (3, .int a), (4, .int b), (5, .int c), (6, .int e), (7, .int (nI (RW kn)))] [.ref m] rfl ?_
              refine pM_63 (v := .ref (m + 17)) rfl (kx_tk_dec rfl dM_insert) (mh_o hm) rfl ?_
              refine kx_rn dM_insert 6 154 [(0, .ref m), (1, .int (nI tn)), (2, .int (nI kn)), (3, .int a), (4, .int b), (5, .int c), (6, .int e), (7, .int (nI (RW kn)))] [.ref m, .int ((4 * (nI (RW kn))) + 3), .ref (m + 17)] rfl ?_
              rw [show (4 * (nI (RW kn))) + 3 = nI ((4 * (RW kn)) + 3) from kn_ad (kn_mu rfl rfl) rfl]
              refine pM_7 (v := .ref (m + 1)) rfl (kx_tk_dec rfl dM_insert) (mh_o hm) rfl ?_
              refine kx_rn dM_insert 1 158 [(0, .ref m), (1, .int (nI tn)), (2, .int (nI kn)), (3, .int a), (4, .int b), (5, .int c), (6, .int e), (7, .int (nI (RW kn)))] [.int (nI kn), .ref (m + 1), .int (nI ((4 * (RW kn)) + 3)), .ref (m + 17)] rfl ?_
              refine mh_ld (k := 1) (x := A 1 kn) (i := kn) rfl rfl (kx_tk_dec rfl dM_insert) hm (by show kn < 3; omega) ?_
              rw [hCL kn]
              refine kx_rn dM_insert 1 160 [(0, .ref m), (1, .int (nI tn)), (2, .int (nI kn)), (3, .int a), (4, .int b), (5, .int c), (6, .int e), (7, .int (nI (RW kn)))] [.int 3, .int (nI (CL kn)), .int (nI ((4 * (RW kn)) + 3)), .ref (m + 17)] rfl ?_
              refine kx_ic (tgt := 168) (kx_tk_dec rfl dM_insert) rfl (fun e160 => ?_) (fun e160 => ?_)
              · skip
                replace e160 : nI (CL kn) ≤ 3 := e160
                replace e160 : CL kn ≤ 3 := (nI_leI (a := CL kn) (b := 3) (by omega) (by omega)).mp e160
                refine kx_rn dM_insert 1 169 [(0, .ref m), (1, .int (nI tn)), (2, .int (nI kn)), (3, .int a), (4, .int b), (5, .int c), (6, .int e), (7, .int (nI (RW kn)))] [.int 0, .int (nI ((4 * (RW kn)) + 3)), .ref (m + 17)] rfl ?_
                refine mh_st (k := 17) (i := (4 * (RW kn)) + 3) (A' := va_up (va_up A 2 (va_up (A 2) kn (nI ((RW kn) + 1)))) 17 (va_up (va_up (va_up (va_up (A 17) (4 * (RW kn)) a) ((4 * (RW kn)) + 1) b) ((4 * (RW kn)) + 2) 0) ((4 * (RW kn)) + 3) 0)) rfl (kx_tk_dec rfl dM_insert) hm (by show (4 * (RW kn)) + 3 < 96; omega) (va_upup _ _ _ _) ?_
                have hnw : va_up (va_up (va_up (va_up (A 17) (4 * (RW kn)) a) ((4 * (RW kn)) + 1) b) ((4 * (RW kn)) + 2) 0) ((4 * (RW kn)) + 3) 0 = vNews (A 17) (RW kn) (vNew a b c e (CL kn)) := by
                  funext i
                  simp only [va_up, vNews, vNew]
                  by_cases z3 : i = 4 * RW kn + 3
                  · subst z3; rw [if_pos rfl, if_pos (by omega), show 4 * RW kn + 3 - 4 * RW kn = 3 by omega]; simp only [Nat.reduceEqDiff, if_false]; simp <;> omega
                  · rw [if_neg z3]
                    by_cases z2 : i = 4 * RW kn + 2
                    · subst z2; rw [if_pos rfl, if_pos (by omega), show 4 * RW kn + 2 - 4 * RW kn = 2 by omega]; simp <;> omega
                    · rw [if_neg z2]
                      by_cases z1 : i = 4 * RW kn + 1
                      · subst z1; rw [if_pos rfl, if_pos (by omega), show 4 * RW kn + 1 - 4 * RW kn = 1 by omega]; simp <;> omega
                      · rw [if_neg z1]
                        by_cases z0 : i = 4 * RW kn
                        · subst z0; rw [if_pos rfl, if_pos (by omega), Nat.sub_self]; simp
                        · rw [if_neg z0, if_neg (by omega)]
                refine kx_heq (congrArg (fun z => mH h0 m (va_up S 0 0) (va_up (va_up A 2 (va_up (A 2) kn (nI ((RW kn) + 1)))) 17 z)) hnw) ?_
                refine kx_rn dM_insert 5 176 [(0, .ref m), (1, .int (nI tn)), (2, .int (nI kn)), (3, .int a), (4, .int b), (5, .int c), (6, .int e), (7, .int (nI (RW kn)))] [.int 0, .int (nI (RW kn)), .int (nI kn), .int (nI tn), .ref m] rfl ?_
                refine cM_188 (as := [.int (nI tn), .int (nI kn), .int (nI (RW kn)), .int 0]) (st := []) (mc := 0) (ms := 0) (kc := 0) (ks := 0) rfl (kx_tk_dec rfl dM_insert) (mh_o hm) rfl rfl (Nat.le_of_ble_eq_true rfl) (cM_write (g := false) hst hm ht1 (by omega) hk (by omega) hV hV2) (fun o h' hq => ?_)
                obtain ⟨rfl, rfl⟩ := hq
                show kx_w _ _ _ _ _ _ _ _ _ _ _
                refine kx_rn dM_insert 1 181 [(0, .ref m), (1, .int (nI tn)), (2, .int (nI kn)), (3, .int a), (4, .int b), (5, .int c), (6, .int e), (7, .int (nI (RW kn)))] [.int (nI (RW kn))] rfl ?_
                refine kx_ret (ty := .int) (kx_tk_dec rfl dM_insert) rfl rfl ?_
                exact Or.inr ⟨tn, kn, ht1, ht2, rfl, ht4, hk, rfl, hk3, Or.inr (Or.inr ⟨by omega, by omega, rfl, rfl⟩)⟩
              · skip
                replace e160 : ¬ nI (CL kn) ≤ 3 := e160
                replace e160 : ¬ CL kn ≤ 3 := fun z => e160 ((nI_leI (a := CL kn) (b := 3) (by omega) (by omega)).mpr z)
                refine kx_rn dM_insert 2 169 [(0, .ref m), (1, .int (nI tn)), (2, .int (nI kn)), (3, .int a), (4, .int b), (5, .int c), (6, .int e), (7, .int (nI (RW kn)))] [.int e, .int (nI ((4 * (RW kn)) + 3)), .ref (m + 17)] rfl ?_
                refine mh_st (k := 17) (i := (4 * (RW kn)) + 3) (A' := va_up (va_up A 2 (va_up (A 2) kn (nI ((RW kn) + 1)))) 17 (va_up (va_up (va_up (va_up (A 17) (4 * (RW kn)) a) ((4 * (RW kn)) + 1) b) ((4 * (RW kn)) + 2) 0) ((4 * (RW kn)) + 3) e)) rfl (kx_tk_dec rfl dM_insert) hm (by show (4 * (RW kn)) + 3 < 96; omega) (va_upup _ _ _ _) ?_
                have hnw : va_up (va_up (va_up (va_up (A 17) (4 * (RW kn)) a) ((4 * (RW kn)) + 1) b) ((4 * (RW kn)) + 2) 0) ((4 * (RW kn)) + 3) e = vNews (A 17) (RW kn) (vNew a b c e (CL kn)) := by
                  funext i
                  simp only [va_up, vNews, vNew]
                  by_cases z3 : i = 4 * RW kn + 3
                  · subst z3; rw [if_pos rfl, if_pos (by omega), show 4 * RW kn + 3 - 4 * RW kn = 3 by omega]; simp only [Nat.reduceEqDiff, if_false]; simp <;> omega
                  · rw [if_neg z3]
                    by_cases z2 : i = 4 * RW kn + 2
                    · subst z2; rw [if_pos rfl, if_pos (by omega), show 4 * RW kn + 2 - 4 * RW kn = 2 by omega]; simp <;> omega
                    · rw [if_neg z2]
                      by_cases z1 : i = 4 * RW kn + 1
                      · subst z1; rw [if_pos rfl, if_pos (by omega), show 4 * RW kn + 1 - 4 * RW kn = 1 by omega]; simp <;> omega
                      · rw [if_neg z1]
                        by_cases z0 : i = 4 * RW kn
                        · subst z0; rw [if_pos rfl, if_pos (by omega), Nat.sub_self]; simp
                        · rw [if_neg z0, if_neg (by omega)]
                refine kx_heq (congrArg (fun z => mH h0 m (va_up S 0 0) (va_up (va_up A 2 (va_up (A 2) kn (nI ((RW kn) + 1)))) 17 z)) hnw) ?_
                refine kx_rn dM_insert 5 176 [(0, .ref m), (1, .int (nI tn)), (2, .int (nI kn)), (3, .int a), (4, .int b), (5, .int c), (6, .int e), (7, .int (nI (RW kn)))] [.int 0, .int (nI (RW kn)), .int (nI kn), .int (nI tn), .ref m] rfl ?_
                refine cM_188 (as := [.int (nI tn), .int (nI kn), .int (nI (RW kn)), .int 0]) (st := []) (mc := 0) (ms := 0) (kc := 0) (ks := 0) rfl (kx_tk_dec rfl dM_insert) (mh_o hm) rfl rfl (Nat.le_of_ble_eq_true rfl) (cM_write (g := false) hst hm ht1 (by omega) hk (by omega) hV hV2) (fun o h' hq => ?_)
                obtain ⟨rfl, rfl⟩ := hq
                show kx_w _ _ _ _ _ _ _ _ _ _ _
                refine kx_rn dM_insert 1 181 [(0, .ref m), (1, .int (nI tn)), (2, .int (nI kn)), (3, .int a), (4, .int b), (5, .int c), (6, .int e), (7, .int (nI (RW kn)))] [.int (nI (RW kn))] rfl ?_
                refine kx_ret (ty := .int) (kx_tk_dec rfl dM_insert) rfl rfl ?_
                exact Or.inr ⟨tn, kn, ht1, ht2, rfl, ht4, hk, rfl, hk3, Or.inr (Or.inr ⟨by omega, by omega, rfl, rfl⟩)⟩
            · skip
              replace e133 : ¬ nI (CL kn) ≤ 2 := e133
              replace e133 : ¬ CL kn ≤ 2 := fun z => e133 ((nI_leI (a := CL kn) (b := 2) (by omega) (by omega)).mpr z)
              refine kx_rn dM_insert 2 142 [(0, .ref m), (1, .int (nI tn)), (2, .int (nI kn)), (3, .int a), (4, .int b), (5, .int c), (6, .int e), (7, .int (nI (RW kn)))] [.int c, .int (nI ((4 * (RW kn)) + 2)), .ref (m + 17)] rfl ?_
              refine mh_st (k := 17) (i := (4 * (RW kn)) + 2) (A' := va_up (va_up A 2 (va_up (A 2) kn (nI ((RW kn) + 1)))) 17 (va_up (va_up (va_up (A 17) (4 * (RW kn)) a) ((4 * (RW kn)) + 1) b) ((4 * (RW kn)) + 2) c)) rfl (kx_tk_dec rfl dM_insert) hm (by show (4 * (RW kn)) + 2 < 96; omega) (va_upup _ _ _ _) ?_
              refine kx_rn dM_insert 1 144 [(0, .ref m), (1, .int (nI tn)), (2, .int (nI kn)), (3, .int a), (4, .int b), (5, .int c), (6, .int e), (7, .int (nI (RW kn)))] [.ref m] rfl ?_
              refine pM_63 (v := .ref (m + 17)) rfl (kx_tk_dec rfl dM_insert) (mh_o hm) rfl ?_
              refine kx_rn dM_insert 6 154 [(0, .ref m), (1, .int (nI tn)), (2, .int (nI kn)), (3, .int a), (4, .int b), (5, .int c), (6, .int e), (7, .int (nI (RW kn)))] [.ref m, .int ((4 * (nI (RW kn))) + 3), .ref (m + 17)] rfl ?_
              rw [show (4 * (nI (RW kn))) + 3 = nI ((4 * (RW kn)) + 3) from kn_ad (kn_mu rfl rfl) rfl]
              refine pM_7 (v := .ref (m + 1)) rfl (kx_tk_dec rfl dM_insert) (mh_o hm) rfl ?_
              refine kx_rn dM_insert 1 158 [(0, .ref m), (1, .int (nI tn)), (2, .int (nI kn)), (3, .int a), (4, .int b), (5, .int c), (6, .int e), (7, .int (nI (RW kn)))] [.int (nI kn), .ref (m + 1), .int (nI ((4 * (RW kn)) + 3)), .ref (m + 17)] rfl ?_
              refine mh_ld (k := 1) (x := A 1 kn) (i := kn) rfl rfl (kx_tk_dec rfl dM_insert) hm (by show kn < 3; omega) ?_
              rw [hCL kn]
              refine kx_rn dM_insert 1 160 [(0, .ref m), (1, .int (nI tn)), (2, .int (nI kn)), (3, .int a), (4, .int b), (5, .int c), (6, .int e), (7, .int (nI (RW kn)))] [.int 3, .int (nI (CL kn)), .int (nI ((4 * (RW kn)) + 3)), .ref (m + 17)] rfl ?_
              refine kx_ic (tgt := 168) (kx_tk_dec rfl dM_insert) rfl (fun e160 => ?_) (fun e160 => ?_)
              · skip
                replace e160 : nI (CL kn) ≤ 3 := e160
                replace e160 : CL kn ≤ 3 := (nI_leI (a := CL kn) (b := 3) (by omega) (by omega)).mp e160
                refine kx_rn dM_insert 1 169 [(0, .ref m), (1, .int (nI tn)), (2, .int (nI kn)), (3, .int a), (4, .int b), (5, .int c), (6, .int e), (7, .int (nI (RW kn)))] [.int 0, .int (nI ((4 * (RW kn)) + 3)), .ref (m + 17)] rfl ?_
                refine mh_st (k := 17) (i := (4 * (RW kn)) + 3) (A' := va_up (va_up A 2 (va_up (A 2) kn (nI ((RW kn) + 1)))) 17 (va_up (va_up (va_up (va_up (A 17) (4 * (RW kn)) a) ((4 * (RW kn)) + 1) b) ((4 * (RW kn)) + 2) c) ((4 * (RW kn)) + 3) 0)) rfl (kx_tk_dec rfl dM_insert) hm (by show (4 * (RW kn)) + 3 < 96; omega) (va_upup _ _ _ _) ?_
                have hnw : va_up (va_up (va_up (va_up (A 17) (4 * (RW kn)) a) ((4 * (RW kn)) + 1) b) ((4 * (RW kn)) + 2) c) ((4 * (RW kn)) + 3) 0 = vNews (A 17) (RW kn) (vNew a b c e (CL kn)) := by
                  funext i
                  simp only [va_up, vNews, vNew]
                  by_cases z3 : i = 4 * RW kn + 3
                  · subst z3; rw [if_pos rfl, if_pos (by omega), show 4 * RW kn + 3 - 4 * RW kn = 3 by omega]; simp only [Nat.reduceEqDiff, if_false]; simp <;> omega
                  · rw [if_neg z3]
                    by_cases z2 : i = 4 * RW kn + 2
                    · subst z2; rw [if_pos rfl, if_pos (by omega), show 4 * RW kn + 2 - 4 * RW kn = 2 by omega]; simp <;> omega
                    · rw [if_neg z2]
                      by_cases z1 : i = 4 * RW kn + 1
                      · subst z1; rw [if_pos rfl, if_pos (by omega), show 4 * RW kn + 1 - 4 * RW kn = 1 by omega]; simp <;> omega
                      · rw [if_neg z1]
                        by_cases z0 : i = 4 * RW kn
                        · subst z0; rw [if_pos rfl, if_pos (by omega), Nat.sub_self]; simp
                        · rw [if_neg z0, if_neg (by omega)]
                refine kx_heq (congrArg (fun z => mH h0 m (va_up S 0 0) (va_up (va_up A 2 (va_up (A 2) kn (nI ((RW kn) + 1)))) 17 z)) hnw) ?_
                refine kx_rn dM_insert 5 176 [(0, .ref m), (1, .int (nI tn)), (2, .int (nI kn)), (3, .int a), (4, .int b), (5, .int c), (6, .int e), (7, .int (nI (RW kn)))] [.int 0, .int (nI (RW kn)), .int (nI kn), .int (nI tn), .ref m] rfl ?_
                refine cM_188 (as := [.int (nI tn), .int (nI kn), .int (nI (RW kn)), .int 0]) (st := []) (mc := 0) (ms := 0) (kc := 0) (ks := 0) rfl (kx_tk_dec rfl dM_insert) (mh_o hm) rfl rfl (Nat.le_of_ble_eq_true rfl) (cM_write (g := false) hst hm ht1 (by omega) hk (by omega) hV hV2) (fun o h' hq => ?_)
                obtain ⟨rfl, rfl⟩ := hq
                show kx_w _ _ _ _ _ _ _ _ _ _ _
                refine kx_rn dM_insert 1 181 [(0, .ref m), (1, .int (nI tn)), (2, .int (nI kn)), (3, .int a), (4, .int b), (5, .int c), (6, .int e), (7, .int (nI (RW kn)))] [.int (nI (RW kn))] rfl ?_
                refine kx_ret (ty := .int) (kx_tk_dec rfl dM_insert) rfl rfl ?_
                exact Or.inr ⟨tn, kn, ht1, ht2, rfl, ht4, hk, rfl, hk3, Or.inr (Or.inr ⟨by omega, by omega, rfl, rfl⟩)⟩
              · skip
                replace e160 : ¬ nI (CL kn) ≤ 3 := e160
                replace e160 : ¬ CL kn ≤ 3 := fun z => e160 ((nI_leI (a := CL kn) (b := 3) (by omega) (by omega)).mpr z)
                refine kx_rn dM_insert 2 169 [(0, .ref m), (1, .int (nI tn)), (2, .int (nI kn)), (3, .int a), (4, .int b), (5, .int c), (6, .int e), (7, .int (nI (RW kn)))] [.int e, .int (nI ((4 * (RW kn)) + 3)), .ref (m + 17)] rfl ?_
                refine mh_st (k := 17) (i := (4 * (RW kn)) + 3) (A' := va_up (va_up A 2 (va_up (A 2) kn (nI ((RW kn) + 1)))) 17 (va_up (va_up (va_up (va_up (A 17) (4 * (RW kn)) a) ((4 * (RW kn)) + 1) b) ((4 * (RW kn)) + 2) c) ((4 * (RW kn)) + 3) e)) rfl (kx_tk_dec rfl dM_insert) hm (by show (4 * (RW kn)) + 3 < 96; omega) (va_upup _ _ _ _) ?_
                have hnw : va_up (va_up (va_up (va_up (A 17) (4 * (RW kn)) a) ((4 * (RW kn)) + 1) b) ((4 * (RW kn)) + 2) c) ((4 * (RW kn)) + 3) e = vNews (A 17) (RW kn) (vNew a b c e (CL kn)) := by
                  funext i
                  simp only [va_up, vNews, vNew]
                  by_cases z3 : i = 4 * RW kn + 3
                  · subst z3; rw [if_pos rfl, if_pos (by omega), show 4 * RW kn + 3 - 4 * RW kn = 3 by omega]; simp only [Nat.reduceEqDiff, if_false]; simp <;> omega
                  · rw [if_neg z3]
                    by_cases z2 : i = 4 * RW kn + 2
                    · subst z2; rw [if_pos rfl, if_pos (by omega), show 4 * RW kn + 2 - 4 * RW kn = 2 by omega]; simp <;> omega
                    · rw [if_neg z2]
                      by_cases z1 : i = 4 * RW kn + 1
                      · subst z1; rw [if_pos rfl, if_pos (by omega), show 4 * RW kn + 1 - 4 * RW kn = 1 by omega]; simp <;> omega
                      · rw [if_neg z1]
                        by_cases z0 : i = 4 * RW kn
                        · subst z0; rw [if_pos rfl, if_pos (by omega), Nat.sub_self]; simp
                        · rw [if_neg z0, if_neg (by omega)]
                refine kx_heq (congrArg (fun z => mH h0 m (va_up S 0 0) (va_up (va_up A 2 (va_up (A 2) kn (nI ((RW kn) + 1)))) 17 z)) hnw) ?_
                refine kx_rn dM_insert 5 176 [(0, .ref m), (1, .int (nI tn)), (2, .int (nI kn)), (3, .int a), (4, .int b), (5, .int c), (6, .int e), (7, .int (nI (RW kn)))] [.int 0, .int (nI (RW kn)), .int (nI kn), .int (nI tn), .ref m] rfl ?_
                refine cM_188 (as := [.int (nI tn), .int (nI kn), .int (nI (RW kn)), .int 0]) (st := []) (mc := 0) (ms := 0) (kc := 0) (ks := 0) rfl (kx_tk_dec rfl dM_insert) (mh_o hm) rfl rfl (Nat.le_of_ble_eq_true rfl) (cM_write (g := false) hst hm ht1 (by omega) hk (by omega) hV hV2) (fun o h' hq => ?_)
                obtain ⟨rfl, rfl⟩ := hq
                show kx_w _ _ _ _ _ _ _ _ _ _ _
                refine kx_rn dM_insert 1 181 [(0, .ref m), (1, .int (nI tn)), (2, .int (nI kn)), (3, .int a), (4, .int b), (5, .int c), (6, .int e), (7, .int (nI (RW kn)))] [.int (nI (RW kn))] rfl ?_
                refine kx_ret (ty := .int) (kx_tk_dec rfl dM_insert) rfl rfl ?_
                exact Or.inr ⟨tn, kn, ht1, ht2, rfl, ht4, hk, rfl, hk3, Or.inr (Or.inr ⟨by omega, by omega, rfl, rfl⟩)⟩
        · skip
          replace e51 : ¬ nI (SC kn) ≤ nI tn := e51
          replace e51 : ¬ SC kn ≤ tn := fun z => e51 ((nI_leI (a := SC kn) (b := tn) (by omega) (by omega)).mpr z)
          refine kx_rn dM_insert 3 57 [(0, .ref m), (1, .int (nI tn)), (2, .int (nI kn)), (3, .int a), (4, .int b), (5, .int c), (6, .int e)] [.int 3, .int (nI tn), .ref m] rfl ?_
          refine cM_185 (as := [.int (nI tn), .int 3]) (st := []) (mc := 0) (ms := 0) (kc := 0) (ks := 0) rfl (kx_tk_dec rfl dM_insert) (mh_o hm) rfl rfl (Nat.le_of_ble_eq_true rfl) (cM_broken hst hm (S := va_up S 0 0) ht1 (by omega) hV hV2) (fun o h' hq => ?_)
          obtain ⟨rfl, rfl⟩ := hq
          show kx_w _ _ _ _ _ _ _ _ _ _ _
          refine kx_heq (congrArg (fun z => mH h0 m z (va_up (va_up A 6 (va_up (A 6) tn 3)) 4 (fun v => nI (vBrk V tn v)))) (show va_up (va_up (va_up S 0 0) 8 (S 8 + 1)) 0 3 = va_up (va_up S 8 (S 8 + 1)) 0 3 from funext fun z => by simp only [va_up]; split <;> (try split) <;> rfl)) ?_
          refine kx_ret (ty := .int) (kx_tk_dec rfl dM_insert) rfl rfl ?_
          exact Or.inr ⟨tn, kn, ht1, ht2, rfl, ht4, hk, rfl, hk3, Or.inr (Or.inl ⟨by omega, by omega, rfl, rfl⟩)⟩
      · skip
        replace e35 : nI (RW kn) = 24 := e35
        replace e35 : RW kn = 24 := (nI_eq (a := RW kn) (b := 24) (by omega) (by omega)).mp e35
        refine kx_rn dM_insert 2 40 [(0, .ref m), (1, .int (nI tn)), (2, .int (nI kn)), (3, .int a), (4, .int b), (5, .int c), (6, .int e)] [.int 2, .ref m] rfl ?_
        refine cM_79 (as := [.int 2]) (st := []) (mc := 0) (ms := 0) (kc := 0) (ks := 0) rfl (kx_tk_dec rfl dM_insert) (mh_o hm) rfl rfl (Nat.le_of_ble_eq_true rfl) (cM_fail hst hm) (fun o h' hq => ?_)
        obtain ⟨rfl, rfl⟩ := hq
        show kx_w _ _ _ _ _ _ _ _ _ _ _
        rw [va_upup]
        refine kx_ret (ty := .int) (kx_tk_dec rfl dM_insert) rfl rfl ?_
        exact Or.inr ⟨tn, kn, ht1, ht2, rfl, ht4, hk, rfl, hk3, Or.inl ⟨e35, rfl, rfl⟩⟩
    · skip
      replace e18 : ¬ b01 bt = 0 := e18
      replace e18 : bt = true := b01_t e18
      refine kx_rn dM_insert 2 23 [(0, .ref m), (1, .int (nI tn)), (2, .int k), (3, .int a), (4, .int b), (5, .int c), (6, .int e)] [.int 1, .ref m] rfl ?_
      refine cM_79 (as := [.int 1]) (st := []) (mc := 0) (ms := 0) (kc := 0) (ks := 0) rfl (kx_tk_dec rfl dM_insert) (mh_o hm) rfl rfl (Nat.le_of_ble_eq_true rfl) (cM_fail hst hm) (fun o h' hq => ?_)
      obtain ⟨rfl, rfl⟩ := hq
      show kx_w _ _ _ _ _ _ _ _ _ _ _
      rw [va_upup]
      refine kx_ret (ty := .int) (kx_tk_dec rfl dM_insert) rfl rfl ?_
      exact Or.inl ⟨fun z => (hbt.mp e18) z.2, rfl, rfl⟩
end KM5
