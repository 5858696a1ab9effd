/-! ===== the reference: marks, writes ===== -/
section KM3
variable {G : kx_G} {l : Launch} {d : Nat} {h0 : kx_H} {m : Nat} {S : Nat → Int32} {A : Nat → Nat → Int32}
theorem kw_shr {x : Nat} (h : x < 256) : nI x >>> (2 &&& 31) = nI (x / 4) := by
  have : ∀ x : Fin 256, nI x.val >>> (2 &&& 31) = nI (x.val / 4) := by decide +kernel
  exact this ⟨x, h⟩
theorem kw_and3 {x : Nat} (h : x < 256) : nI x &&& 3 = nI (x % 4) := by
  have : ∀ x : Fin 256, nI x.val &&& 3 = nI (x.val % 4) := by decide +kernel
  exact this ⟨x, h⟩
theorem kw_gone {x : Nat} (h : x < 256) : nI x &&& 2 = 2 ↔ x / 2 % 2 = 1 := by
  have : ∀ x : Fin 256, nI x.val &&& 2 = 2 ↔ x.val / 2 % 2 = 1 := by decide +kernel
  exact this ⟨x, h⟩
theorem kw_shl {x : Nat} (h : x < 64) : nI x <<< (2 &&& 31) = nI (4 * x) := by
  have : ∀ x : Fin 64, nI x.val <<< (2 &&& 31) = nI (4 * x.val) := by decide +kernel
  exact this ⟨x, h⟩
theorem kw_or {a x : Nat} (ha : a < 4) (h : x < 64) : nI a ||| nI (4 * x) = nI (a + 4 * x) := by
  have : ∀ (a : Fin 4) (x : Fin 64), nI a.val ||| nI (4 * x.val) = nI (a.val + 4 * x.val) := by decide +kernel
  exact this ⟨a, ha⟩ ⟨x, h⟩
theorem kw_mark {x t : Nat} (h : x < 256) (ht : t < 64) : (nI x &&& 3) ||| (nI t <<< ((2 : Int32) &&& 31)) = nI (x % 4 + 4 * t) := by
  rw [kw_and3 h, kw_shl ht, kw_or (by omega) ht]
theorem cM_abort {t : Int32} (hst : l.stackTraces = false) (hm : mOk G h0 m) {bg : Nat} (hb : S 7 = nI bg) (hbg : bg ≤ 40) {V : Nat → Nat} (hV : ∀ v, A 4 v = nI (V v)) (hV2 : ∀ v, V v < 256) :
    kx_c G l mM_abort (d + 1) 0 0 [.ref m, .int t] (mH h0 m S A) (fun o h' => (¬ mOp A bg t ∧ o = .returned (some (.int 0)) ∧ h' = mH h0 m (va_up S 0 1) A) ∨ ∃ tn, 1 ≤ tn ∧ tn ≤ bg ∧ t = nI tn ∧ A 6 tn = 1 ∧ o = .returned (some (.int (nI (cnt (fun j => decide (¬ V (40 * j + (tn - 1)) = 0)) 72)))) ∧ h' = mH h0 m (va_up S 0 0) (va_up (va_up A 6 (va_up (A 6) tn 3)) 4 (fun v => nI (vBrk V tn v)))) := by
  refine kx_in (by decide +kernel) (Nat.le_of_ble_eq_true rfl) hst ?_
  refine kx_rn dM_abort 2 2 [(0, .ref m), (1, .int t)] [.int 0, .ref m] rfl ?_
  refine qM_69 rfl (kx_tk_dec rfl dM_abort) (mh_o hm) rfl rfl (Nat.le_of_ble_eq_true rfl) ?_
  rw [mh_p0]
  refine kx_rn dM_abort 2 7 [(0, .ref m), (1, .int t)] [.int t, .ref m] rfl ?_
  refine cM_83 (as := [.int t]) (st := []) (mc := 0) (ms := 0) (kc := 0) (ks := 0) rfl (kx_tk_dec rfl dM_abort) (mh_o hm) rfl rfl (Nat.le_of_ble_eq_true rfl) (cM_closed hst hm (S := va_up S 0 0) hb hbg) (fun o h' hq => ?_)
  obtain ⟨bo, rfl, rfl, hbo⟩ := hq
  show kx_w _ _ _ _ _ _ _ _ _ _ _
  refine kx_if (tgt := 21) (kx_tk_dec rfl dM_abort) rfl (fun e10 => ?_) (fun e10 => ?_)
  · skip
    replace e10 : b01 bo = 0 := e10
    replace e10 : bo = false := b01_f e10
    obtain ⟨tn, ht1, ht2, rfl, ht4⟩ : mOp A bg t := Classical.byContradiction fun z => absurd (hbo.mpr z) (by rw [e10]; decide)
    refine kx_rn dM_abort 2 23 [(0, .ref m), (1, .int (nI tn))] [.int (nI tn), .ref m] rfl ?_
    refine cM_87 (as := [.int (nI tn)]) (st := []) (mc := 0) (ms := 0) (kc := 0) (ks := 0) rfl (kx_tk_dec rfl dM_abort) (mh_o hm) rfl rfl (Nat.le_of_ble_eq_true rfl) (cM_breakUp hst hm ht1 (by omega) hV hV2) (fun o h' hq => ?_)
    obtain ⟨rfl, rfl⟩ := hq
    show kx_w _ _ _ _ _ _ _ _ _ _ _
    refine kx_ret (ty := .int) (kx_tk_dec rfl dM_abort) rfl rfl ?_
    exact Or.inr ⟨tn, ht1, ht2, rfl, ht4, rfl, rfl⟩
  · skip
    replace e10 : ¬ b01 bo = 0 := e10
    replace e10 : bo = true := b01_t e10
    refine kx_rn dM_abort 2 15 [(0, .ref m), (1, .int t)] [.int 1, .ref m] rfl ?_
    refine cM_79 (as := [.int 1]) (st := []) (mc := 0) (ms := 0) (kc := 0) (ks := 0) rfl (kx_tk_dec rfl dM_abort) (mh_o hm) rfl rfl (Nat.le_of_ble_eq_true rfl) (cM_fail hst hm) (fun o h' hq => ?_)
    obtain ⟨rfl, rfl⟩ := hq
    show kx_w _ _ _ _ _ _ _ _ _ _ _
    rw [va_upup]
    refine kx_rn dM_abort 1 26 [(0, .ref m), (1, .int t)] [.int 0] rfl ?_
    refine kx_ret (ty := .int) (kx_tk_dec rfl dM_abort) rfl rfl ?_
    exact Or.inl ⟨hbo.mp e10, rfl, rfl⟩
theorem cM_broken {c : Int32} {tn : Nat} (hst : l.stackTraces = false) (hm : mOk G h0 m) (ht1 : 1 ≤ tn) (ht2 : tn ≤ 40) {V : Nat → Nat} (hV : ∀ v, A 4 v = nI (V v)) (hV2 : ∀ v, V v < 256) :
    kx_c G l mM_broken (d + 1) 0 0 [.ref m, .int (nI tn), .int c] (mH h0 m S A) (fun o h' => o = .returned (some (.int 0)) ∧ h' = mH h0 m (va_up (va_up S 8 (S 8 + 1)) 0 c) (va_up (va_up A 6 (va_up (A 6) tn 3)) 4 (fun v => nI (vBrk V tn v)))) := by
  refine kx_in (by decide +kernel) (Nat.le_of_ble_eq_true rfl) hst ?_
  refine kx_rn dM_broken 2 2 [(0, .ref m), (1, .int (nI tn)), (2, .int c)] [.int (nI tn), .ref m] rfl ?_
  refine cM_87 (as := [.int (nI tn)]) (st := []) (mc := 0) (ms := 0) (kc := 0) (ks := 0) rfl (kx_tk_dec rfl dM_broken) (mh_o hm) rfl rfl (Nat.le_of_ble_eq_true rfl) (cM_breakUp hst hm ht1 (by omega) hV hV2) (fun o h' hq => ?_)
  obtain ⟨rfl, rfl⟩ := hq
  show kx_w _ _ _ _ _ _ _ _ _ _ _
  refine kx_rn dM_broken 3 8 [(0, .ref m), (1, .int (nI tn)), (2, .int c)] [.ref m, .ref m] rfl ?_
  refine pM_179 (v := .int (S 8)) rfl (kx_tk_dec rfl dM_broken) (mh_o hm) rfl ?_
  refine kx_rn dM_broken 2 13 [(0, .ref m), (1, .int (nI tn)), (2, .int c)] [.int ((S 8) + 1), .ref m] rfl ?_
  refine qM_179 rfl (kx_tk_dec rfl dM_broken) (mh_o hm) rfl rfl (Nat.le_of_ble_eq_true rfl) ?_
  rw [mh_p8]
  refine kx_rn dM_broken 2 18 [(0, .ref m), (1, .int (nI tn)), (2, .int c)] [.int c, .ref m] rfl ?_
  refine cM_79 (as := [.int c]) (st := []) (mc := 0) (ms := 0) (kc := 0) (ks := 0) rfl (kx_tk_dec rfl dM_broken) (mh_o hm) rfl rfl (Nat.le_of_ble_eq_true rfl) (cM_fail hst hm) (fun o h' hq => ?_)
  obtain ⟨rfl, rfl⟩ := hq
  show kx_w _ _ _ _ _ _ _ _ _ _ _
  refine kx_ret (ty := .int) (kx_tk_dec rfl dM_broken) rfl rfl ?_
  exact ⟨rfl, rfl⟩
/-- the marks of the rows 24 kn .. 24 kn + r - 1 -/
def vMark (V W : Nat → Nat) (kn tn r q w : Nat) : Nat := if 24 * kn ≤ q ∧ q < 24 * kn + r ∧ w + 1 = W q ∧ V (40 * q + w) / 4 < tn then V (40 * q + w) % 4 + 4 * tn else V (40 * q + w)
theorem vMark_lt {V W : Nat → Nat} {kn tn r q w : Nat} (h : ∀ v, V v < 256) (ht : tn ≤ 40) : vMark V W kn tn r q w < 256 := by
  unfold vMark
  split
  · omega
  · exact h _
theorem cM_mark {tn kn rw sc : Nat} (hst : l.stackTraces = false) (hm : mOk G h0 m) (ht1 : 1 ≤ tn) (ht2 : tn ≤ 40) (hk : kn < 3) (hrw : A 2 kn = nI rw) (hrw2 : rw ≤ 24) (hs : A 3 kn = nI sc) (hs2 : sc ≤ 40) {V : Nat → Nat} (hV : ∀ v, A 4 v = nI (V v)) (hV2 : ∀ v, V v < 256) {W : Nat → Nat} (hW : ∀ r, r < rw → A 16 r = heldR (40 * (24 * kn + r)) (W (24 * kn + r))) (hW2 : ∀ q, W q ≤ 40) :
    kx_c G l mM_mark d 0 0 [.ref m, .int (nI tn), .int (nI kn)] (mH h0 m S A) (fun o h' => o = .returned none ∧ ∃ (F : Nat → Int32) (U : Nat → Nat), h' = mH h0 m S (va_up (va_up A 3 (va_up (A 3) kn (nI (max sc tn)))) 4 F) ∧ (∀ v, F v = nI (U v)) ∧ (∀ v, U v < 256) ∧ ∀ q w, w < 40 → U (40 * q + w) = vMark V W kn tn rw q w) := by
  refine kx_in (by decide +kernel) (Nat.le_of_ble_eq_true rfl) hst ?_
  have loop : ∀ n (j : Nat) (F : Nat → Int32) (U : Nat → Nat), j + n = rw → (∀ v, F v = nI (U v)) → (∀ v, U v < 256) → (∀ q w, w < 40 → U (40 * q + w) = vMark V W kn tn j q w) → kx_w G l mM_mark d (fun o h' => o = .returned none ∧ ∃ (F : Nat → Int32) (U : Nat → Nat), h' = mH h0 m S (va_up (va_up A 3 (va_up (A 3) kn (nI (max sc tn)))) 4 F) ∧ (∀ v, F v = nI (U v)) ∧ (∀ v, U v < 256) ∧ ∀ q w, w < 40 → U (40 * q + w) = vMark V W kn tn rw q w) 0 0 19 [(0, .ref m), (1, .int (nI tn)), (2, .int (nI kn)), (3, .int (nI j))] [] (mH h0 m S (va_up (va_up A 3 (va_up (A 3) kn (nI (max sc tn)))) 4 F)) := by
    intro n
    induction n with
    | zero =>
      intro j F U hj hF hU2 hU
      refine kx_rn dM_mark 2 21 [(0, .ref m), (1, .int (nI tn)), (2, .int (nI kn)), (3, .int (nI j))] [.ref m, .int (nI j)] rfl ?_
      refine pM_13 (v := .ref (m + 2)) rfl (kx_tk_dec rfl dM_mark) (mh_o hm) rfl ?_
      refine kx_rn dM_mark 1 25 [(0, .ref m), (1, .int (nI tn)), (2, .int (nI kn)), (3, .int (nI j))] [.int (nI kn), .ref (m + 2), .int (nI j)] rfl ?_
      refine mh_ld (k := 2) (x := A 2 kn) (i := kn) rfl rfl (kx_tk_dec rfl dM_mark) hm (by show kn < 3; omega) ?_
      rw [hrw]
      refine kx_ic (tgt := 81) (kx_tk_dec rfl dM_mark) rfl (fun e26 => ?_) (fun e26 => ?_)
      · skip
        replace e26 : nI rw ≤ nI j := e26
        replace e26 : rw ≤ j := (nI_leI (a := rw) (b := j) (by omega) (by omega)).mp e26
        refine kx_retv (kx_tk_dec rfl dM_mark) rfl ?_
        refine ⟨rfl, F, U, rfl, hF, hU2, fun q w hw => ?_⟩
        rw [hU q w hw, show j = rw by omega]
      · skip
        replace e26 : ¬ nI rw ≤ nI j := e26
        replace e26 : ¬ rw ≤ j := fun z => e26 ((nI_leI (a := rw) (b := j) (by omega) (by omega)).mpr z)
        exfalso; omega
    | succ n ih =>
      intro j F U hj hF hU2 hU
      refine kx_rn dM_mark 2 21 [(0, .ref m), (1, .int (nI tn)), (2, .int (nI kn)), (3, .int (nI j))] [.ref m, .int (nI j)] rfl ?_
      refine pM_13 (v := .ref (m + 2)) rfl (kx_tk_dec rfl dM_mark) (mh_o hm) rfl ?_
      refine kx_rn dM_mark 1 25 [(0, .ref m), (1, .int (nI tn)), (2, .int (nI kn)), (3, .int (nI j))] [.int (nI kn), .ref (m + 2), .int (nI j)] rfl ?_
      refine mh_ld (k := 2) (x := A 2 kn) (i := kn) rfl rfl (kx_tk_dec rfl dM_mark) hm (by show kn < 3; omega) ?_
      rw [hrw]
      refine kx_ic (tgt := 81) (kx_tk_dec rfl dM_mark) rfl (fun e26 => ?_) (fun e26 => ?_)
      · skip
        replace e26 : nI rw ≤ nI j := e26
        replace e26 : rw ≤ j := (nI_leI (a := rw) (b := j) (by omega) (by omega)).mp e26
        exfalso; omega
      · skip
        replace e26 : ¬ nI rw ≤ nI j := e26
        replace e26 : ¬ rw ≤ j := fun z => e26 ((nI_leI (a := rw) (b := j) (by omega) (by omega)).mpr z)
        refine kx_rn dM_mark 1 30 [(0, .ref m), (1, .int (nI tn)), (2, .int (nI kn)), (3, .int (nI j))] [.ref m] rfl ?_
        refine pM_60 (v := .ref (m + 16)) rfl (kx_tk_dec rfl dM_mark) (mh_o hm) rfl ?_
        refine kx_rn dM_mark 1 34 [(0, .ref m), (1, .int (nI tn)), (2, .int (nI kn)), (3, .int (nI j))] [.int (nI j), .ref (m + 16)] rfl ?_
        refine mh_ld (k := 16) (x := A 16 j) (i := j) rfl rfl (kx_tk_dec rfl dM_mark) hm (by show j < 24; omega) ?_
        rw [hW j (by omega)]
        have hW2j := hW2 (24 * kn + j)
        cases hWj : W (24 * kn + j) with
        | zero =>
          refine kx_rn dM_mark 2 39 [(0, .ref m), (1, .int (nI tn)), (2, .int (nI kn)), (3, .int (nI j)), (4, .int ((-1)))] [.int ((-1))] rfl ?_
          refine kx_if (tgt := 75) (kx_tk_dec rfl dM_mark) rfl (fun e39 => ?_) (fun e39 => ?_)
          · skip
            replace e39 : ((-1) : Int32) < 0 := e39
            refine kx_rn dM_mark 2 19 [(0, .ref m), (1, .int (nI tn)), (2, .int (nI kn)), (3, .int ((nI j) + 1)), (4, .int ((-1)))] [] rfl ?_
            rw [show (nI j) + 1 = nI (j + 1) from kn_ad rfl rfl]
            refine kx_lsub (lv' := [(0, .ref m), (1, .int (nI tn)), (2, .int (nI kn)), (3, .int (nI (j + 1)))]) (.cons₂ _ (.cons₂ _ (.cons₂ _ (.cons₂ _ (.cons _ .slnil))))) ?_
            refine ih (j + 1) F U (by omega) hF hU2 (fun q w hw => ?_)
            rw [hU q w hw]
            unfold vMark
            by_cases z : q = 24 * kn + j
            · subst z
              rw [if_neg (by omega), if_neg (by omega)]
            · by_cases z2 : 24 * kn ≤ q ∧ q < 24 * kn + j ∧ w + 1 = W q ∧ V (40 * q + w) / 4 < tn
              · rw [if_pos z2, if_pos (by omega)]
              · rw [if_neg z2, if_neg (by omega)]
          · skip
            replace e39 : ¬ ((-1) : Int32) < 0 := e39
            exact absurd (by decide) e39
        | succ w1 =>
          refine kx_rn dM_mark 2 39 [(0, .ref m), (1, .int (nI tn)), (2, .int (nI kn)), (3, .int (nI j)), (4, .int (nI (40 * (24 * kn + j) + w1)))] [.int (nI (40 * (24 * kn + j) + w1))] rfl ?_
          refine kx_if (tgt := 75) (kx_tk_dec rfl dM_mark) rfl (fun e39 => ?_) (fun e39 => ?_)
          · skip
            replace e39 : nI (40 * (24 * kn + j) + w1) < 0 := e39
            replace e39 : 40 * (24 * kn + j) + w1 < 0 := (nI_ltI (a := 40 * (24 * kn + j) + w1) (b := 0) (by omega) (by omega)).mp e39
            refine kx_rn dM_mark 2 19 [(0, .ref m), (1, .int (nI tn)), (2, .int (nI kn)), (3, .int ((nI j) + 1)), (4, .int (nI (40 * (24 * kn + j) + w1)))] [] rfl ?_
            rw [show (nI j) + 1 = nI (j + 1) from kn_ad rfl rfl]
            refine kx_lsub (lv' := [(0, .ref m), (1, .int (nI tn)), (2, .int (nI kn)), (3, .int (nI (j + 1)))]) (.cons₂ _ (.cons₂ _ (.cons₂ _ (.cons₂ _ (.cons _ .slnil))))) ?_
            refine ih (j + 1) F U (by omega) hF hU2 (fun q w hw => ?_)
            rw [hU q w hw]
            unfold vMark
            by_cases z : q = 24 * kn + j
            · subst z
              rw [if_neg (by omega), if_neg (by omega)]
            · by_cases z2 : 24 * kn ≤ q ∧ q < 24 * kn + j ∧ w + 1 = W q ∧ V (40 * q + w) / 4 < tn
              · rw [if_pos z2, if_pos (by omega)]
              · rw [if_neg z2, if_neg (by omega)]
          · skip
            replace e39 : ¬ nI (40 * (24 * kn + j) + w1) < 0 := e39
            replace e39 : ¬ 40 * (24 * kn + j) + w1 < 0 := fun z => e39 ((nI_ltI (a := 40 * (24 * kn + j) + w1) (b := 0) (by omega) (by omega)).mpr z)
            refine kx_rn dM_mark 1 43 [(0, .ref m), (1, .int (nI tn)), (2, .int (nI kn)), (3, .int (nI j)), (4, .int (nI (40 * (24 * kn + j) + w1)))] [.ref m] rfl ?_
            refine pM_19 (v := .ref (m + 4)) rfl (kx_tk_dec rfl dM_mark) (mh_o hm) rfl ?_
            refine kx_rn dM_mark 1 48 [(0, .ref m), (1, .int (nI tn)), (2, .int (nI kn)), (3, .int (nI j)), (4, .int (nI (40 * (24 * kn + j) + w1)))] [.int (nI (40 * (24 * kn + j) + w1)), .ref (m + 4)] rfl ?_
            refine mh_ld (k := 4) (x := F (40 * (24 * kn + j) + w1)) (i := 40 * (24 * kn + j) + w1) rfl rfl (kx_tk_dec rfl dM_mark) hm (by show 40 * (24 * kn + j) + w1 < 2880; omega) ?_
            rw [hF (40 * (24 * kn + j) + w1)]
            have := hU2 (40 * (24 * kn + j) + w1)
            refine kx_rn dM_mark 2 51 [(0, .ref m), (1, .int (nI tn)), (2, .int (nI kn)), (3, .int (nI j)), (4, .int (nI (40 * (24 * kn + j) + w1)))] [.int ((nI (U (40 * (24 * kn + j) + w1))) >>> ((2 : Int32) &&& 31))] rfl ?_
            rw [kw_shr (hU2 _)]
            refine kx_rn dM_mark 1 52 [(0, .ref m), (1, .int (nI tn)), (2, .int (nI kn)), (3, .int (nI j)), (4, .int (nI (40 * (24 * kn + j) + w1)))] [.int (nI tn), .int (nI ((U (40 * (24 * kn + j) + w1)) / 4))] rfl ?_
            refine kx_ic (tgt := 75) (kx_tk_dec rfl dM_mark) rfl (fun e52 => ?_) (fun e52 => ?_)
            · skip
              replace e52 : nI tn ≤ nI ((U (40 * (24 * kn + j) + w1)) / 4) := e52
              replace e52 : tn ≤ (U (40 * (24 * kn + j) + w1)) / 4 := (nI_leI (a := tn) (b := (U (40 * (24 * kn + j) + w1)) / 4) (by omega) (by omega)).mp e52
              refine kx_rn dM_mark 2 19 [(0, .ref m), (1, .int (nI tn)), (2, .int (nI kn)), (3, .int ((nI j) + 1)), (4, .int (nI (40 * (24 * kn + j) + w1)))] [] rfl ?_
              rw [show (nI j) + 1 = nI (j + 1) from kn_ad rfl rfl]
              refine kx_lsub (lv' := [(0, .ref m), (1, .int (nI tn)), (2, .int (nI kn)), (3, .int (nI (j + 1)))]) (.cons₂ _ (.cons₂ _ (.cons₂ _ (.cons₂ _ (.cons _ .slnil))))) ?_
              have z0 : U (40 * (24 * kn + j) + w1) = V (40 * (24 * kn + j) + w1) := by
                rw [hU _ _ (by omega)]; unfold vMark; rw [if_neg (by omega)]
              refine ih (j + 1) F U (by omega) hF hU2 (fun q w hw => ?_)
              rw [hU q w hw]
              unfold vMark
              by_cases z : q = 24 * kn + j ∧ w = w1
              · obtain ⟨rfl, rfl⟩ := z
                rw [if_neg (by omega), if_neg (by omega)]
              · by_cases z2 : 24 * kn ≤ q ∧ q < 24 * kn + j ∧ w + 1 = W q ∧ V (40 * q + w) / 4 < tn
                · rw [if_pos z2, if_pos (by omega)]
                · rw [if_neg z2, if_neg]
                  rintro ⟨y1, y2, y3, y4⟩
                  by_cases y5 : q = 24 * kn + j
                  · subst y5; omega
                  · omega
            · skip
              replace e52 : ¬ nI tn ≤ nI ((U (40 * (24 * kn + j) + w1)) / 4) := e52
              replace e52 : ¬ tn ≤ (U (40 * (24 * kn + j) + w1)) / 4 := fun z => e52 ((nI_leI (a := tn) (b := (U (40 * (24 * kn + j) + w1)) / 4) (by omega) (by omega)).mpr z)
              refine kx_rn dM_mark 1 56 [(0, .ref m), (1, .int (nI tn)), (2, .int (nI kn)), (3, .int (nI j)), (4, .int (nI (40 * (24 * kn + j) + w1)))] [.ref m] rfl ?_
              refine pM_19 (v := .ref (m + 4)) rfl (kx_tk_dec rfl dM_mark) (mh_o hm) rfl ?_
              refine kx_rn dM_mark 2 62 [(0, .ref m), (1, .int (nI tn)), (2, .int (nI kn)), (3, .int (nI j)), (4, .int (nI (40 * (24 * kn + j) + w1)))] [.ref m, .int (nI (40 * (24 * kn + j) + w1)), .ref (m + 4)] rfl ?_
              refine pM_19 (v := .ref (m + 4)) rfl (kx_tk_dec rfl dM_mark) (mh_o hm) rfl ?_
              refine kx_rn dM_mark 1 67 [(0, .ref m), (1, .int (nI tn)), (2, .int (nI kn)), (3, .int (nI j)), (4, .int (nI (40 * (24 * kn + j) + w1)))] [.int (nI (40 * (24 * kn + j) + w1)), .ref (m + 4), .int (nI (40 * (24 * kn + j) + w1)), .ref (m + 4)] rfl ?_
              refine mh_ld (k := 4) (x := F (40 * (24 * kn + j) + w1)) (i := 40 * (24 * kn + j) + w1) rfl rfl (kx_tk_dec rfl dM_mark) hm (by show 40 * (24 * kn + j) + w1 < 2880; omega) ?_
              rw [hF (40 * (24 * kn + j) + w1)]
              have := hU2 (40 * (24 * kn + j) + w1)
              refine kx_rn dM_mark 6 74 [(0, .ref m), (1, .int (nI tn)), (2, .int (nI kn)), (3, .int (nI j)), (4, .int (nI (40 * (24 * kn + j) + w1)))] [.int (((nI (U (40 * (24 * kn + j) + w1))) &&& (3 : Int32)) ||| ((nI tn) <<< ((2 : Int32) &&& 31))), .int (nI (40 * (24 * kn + j) + w1)), .ref (m + 4)] rfl ?_
              rw [kw_mark (hU2 _) (by omega)]
              refine mh_st (k := 4) (i := 40 * (24 * kn + j) + w1) (A' := va_up (va_up A 3 (va_up (A 3) kn (nI (max sc tn)))) 4 (va_up F (40 * (24 * kn + j) + w1) (nI (U (40 * (24 * kn + j) + w1) % 4 + 4 * tn)))) rfl (kx_tk_dec rfl dM_mark) hm (by show 40 * (24 * kn + j) + w1 < 2880; omega) (va_upup _ _ _ _) ?_
              refine kx_rn dM_mark 2 19 [(0, .ref m), (1, .int (nI tn)), (2, .int (nI kn)), (3, .int ((nI j) + 1)), (4, .int (nI (40 * (24 * kn + j) + w1)))] [] rfl ?_
              rw [show (nI j) + 1 = nI (j + 1) from kn_ad rfl rfl]
              refine kx_lsub (lv' := [(0, .ref m), (1, .int (nI tn)), (2, .int (nI kn)), (3, .int (nI (j + 1)))]) (.cons₂ _ (.cons₂ _ (.cons₂ _ (.cons₂ _ (.cons _ .slnil))))) ?_
              have z0 : U (40 * (24 * kn + j) + w1) = V (40 * (24 * kn + j) + w1) := by
                rw [hU _ _ (by omega)]; unfold vMark; rw [if_neg (by omega)]
              refine ih (j + 1) _ (va_up U (40 * (24 * kn + j) + w1) (U (40 * (24 * kn + j) + w1) % 4 + 4 * tn)) (by omega) (va_nIp hF _ _) (fun v => ?_) (fun q w hw => ?_)
              · simp only [va_up]
                split
                · have := hU2 (40 * (24 * kn + j) + w1); omega
                · exact hU2 v
              · by_cases z : q = 24 * kn + j ∧ w = w1
                · obtain ⟨rfl, rfl⟩ := z
                  rw [va_up_self, z0]
                  unfold vMark
                  rw [if_pos (by omega)]
                · rw [va_up_ne _ _ (by omega), hU q w hw]
                  unfold vMark
                  by_cases z2 : 24 * kn ≤ q ∧ q < 24 * kn + j ∧ w + 1 = W q ∧ V (40 * q + w) / 4 < tn
                  · rw [if_pos z2, if_pos (by omega)]
                  · rw [if_neg z2, if_neg]
                    rintro ⟨y1, y2, y3, y4⟩
                    by_cases y5 : q = 24 * kn + j
                    · subst y5; omega
                    · omega
  refine kx_rn dM_mark 1 1 [(0, .ref m), (1, .int (nI tn)), (2, .int (nI kn))] [.ref m] rfl ?_
  refine pM_16 (v := .ref (m + 3)) rfl (kx_tk_dec rfl dM_mark) (mh_o hm) rfl ?_
  refine kx_rn dM_mark 1 5 [(0, .ref m), (1, .int (nI tn)), (2, .int (nI kn))] [.int (nI kn), .ref (m + 3)] rfl ?_
  refine mh_ld (k := 3) (x := A 3 kn) (i := kn) rfl rfl (kx_tk_dec rfl dM_mark) hm (by show kn < 3; omega) ?_
  rw [hs]
  refine kx_rn dM_mark 1 7 [(0, .ref m), (1, .int (nI tn)), (2, .int (nI kn))] [.int (nI tn), .int (nI sc)] rfl ?_
  refine kx_ic (tgt := 17) (kx_tk_dec rfl dM_mark) rfl (fun e7 => ?_) (fun e7 => ?_)
  · skip
    replace e7 : nI tn ≤ nI sc := e7
    replace e7 : tn ≤ sc := (nI_leI (a := tn) (b := sc) (by omega) (by omega)).mp e7
    refine kx_rn dM_mark 2 19 [(0, .ref m), (1, .int (nI tn)), (2, .int (nI kn)), (3, .int 0)] [] rfl ?_
    refine kx_heq (congrArg (mH h0 m S) (show A = va_up A 3 (va_up (A 3) kn (nI (max sc tn))) by rw [show max sc tn = sc by omega, ← hs, va_upsame, va_upsame])) ?_
    refine kx_heq (congrArg (mH h0 m S) (va_upsame (va_up A 3 (va_up (A 3) kn (nI (max sc tn)))) 4).symm) ?_
    exact loop rw 0 _ V (by omega) hV hV2 (fun q w hw => by unfold vMark; rw [if_neg (by omega)])
  · skip
    replace e7 : ¬ nI tn ≤ nI sc := e7
    replace e7 : ¬ tn ≤ sc := fun z => e7 ((nI_leI (a := tn) (b := sc) (by omega) (by omega)).mpr z)
    refine kx_rn dM_mark 1 11 [(0, .ref m), (1, .int (nI tn)), (2, .int (nI kn))] [.ref m] rfl ?_
    refine pM_16 (v := .ref (m + 3)) rfl (kx_tk_dec rfl dM_mark) (mh_o hm) rfl ?_
    refine kx_rn dM_mark 2 16 [(0, .ref m), (1, .int (nI tn)), (2, .int (nI kn))] [.int (nI tn), .int (nI kn), .ref (m + 3)] rfl ?_
    refine mh_st (k := 3) (i := kn) (A' := va_up A 3 (va_up (A 3) kn (nI tn))) rfl (kx_tk_dec rfl dM_mark) hm (by show kn < 3; omega) rfl ?_
    refine kx_rn dM_mark 2 19 [(0, .ref m), (1, .int (nI tn)), (2, .int (nI kn)), (3, .int 0)] [] rfl ?_
    refine kx_heq (congrArg (mH h0 m S) (show va_up A 3 (va_up (A 3) kn (nI tn)) = va_up A 3 (va_up (A 3) kn (nI (max sc tn))) by rw [show max sc tn = tn by omega])) ?_
    refine kx_heq (congrArg (mH h0 m S) (va_upsame (va_up A 3 (va_up (A 3) kn (nI (max sc tn)))) 4).symm) ?_
    exact loop rw 0 _ V (by omega) hV hV2 (fun q w hw => by unfold vMark; rw [if_neg (by omega)])
end KM3
