/-! ===== the law: its cases ===== -/
section KL1
variable {G : kx_G} {l : Launch} {Q : Outcome → kx_H → Prop} {kc ks i : Nat} {h : kx_H} {m : Nat} {S : Nat → Int32} {A : Nat → Nat → Int32} {Z : cZ}
set_option maxRecDepth 100000 in
theorem law_0 (hst : l.stackTraces = false) (hN : gN G ≤ 3584) (hi : i + 7 ≤ gN G) (hZ : cOk G m S A h Z) (hs : sim Z S A) (K : ∀ (Z' : cZ) (S1 : Nat → Int32) (A1 : Nat → Nat → Int32) (h' : kx_H), Z'.ad rV = Z.ad rV → cOk G m S1 A1 h' Z' → sim Z' S1 A1 → kx_w G l mL_law 20 Q kc ks 1039 [(0, .ref (gS G)), (1, .ref (Z.ad rV)), (2, .ref m), (3, .ref (m + 19)), (4, .ref (m + 20)), (5, .int (nI i))] [] h') : kx_w G l mL_law 20 Q (kc + 50) (ks + 1036) 132 [(0, .ref (gS G)), (1, .ref (Z.ad rV)), (2, .ref m), (3, .ref (m + 19)), (4, .ref (m + 20)), (5, .int (nI i))] [] h := by
  obtain ⟨mc, ms, ⟨b1, b2⟩, hC⟩ := stp_create (k := gF G (i + 1)) (c := gF G (i + 2)) hst hZ hs
  refine kx_low (kc' := kc + mc) (ks' := ks + ms) (by omega) (by omega) ?_
  refine kx_rn dL_law00 5 138 [(0, .ref (gS G)), (1, .ref (Z.ad rV)), (2, .ref m), (3, .ref (m + 19)), (4, .ref (m + 20)), (5, .int (nI i))] [.int ((nI i) + 1), .ref (gS G), .ref (Z.ad rV)] rfl ?_
  rw [show (nI i) + 1 = nI (i + 1) from kn_ad rfl rfl]
  refine kx_sldN (i := i + 1) (kx_tk_dec rfl dL_law00) hN (by omega) ?_
  refine kx_rn dL_law00 4 144 [(0, .ref (gS G)), (1, .ref (Z.ad rV)), (2, .ref m), (3, .ref (m + 19)), (4, .ref (m + 20)), (5, .int (nI i))] [.int ((nI i) + 2), .ref (gS G), .int (gF G (i + 1)), .ref (Z.ad rV)] rfl ?_
  rw [show (nI i) + 2 = nI (i + 2) from kn_ad rfl rfl]
  refine kx_sldN (i := i + 2) (kx_tk_dec rfl dL_law00) hN (by omega) ?_
  refine cL_74 (as := [.ref (Z.ad rV), .int (gF G (i + 1)), .int (gF G (i + 2))]) (st := []) (mc := mc) (ms := ms) (kc := kc) (ks := ks) rfl (kx_tk_dec rfl dL_law00) rfl rfl (Nat.le_of_ble_eq_true rfl) (hC) (fun o h' hq => ?_)
  obtain ⟨k, Z', rfl, hk10, had, hz, hr⟩ := hq
  show kx_w _ _ _ _ _ _ _ _ _ _ _
  refine kx_rn dL_law01 6 156 [(0, .ref (gS G)), (1, .ref (Z.ad rV)), (2, .ref m), (3, .ref (m + 19)), (4, .ref (m + 20)), (5, .int (nI i)), (6, .int (nI k))] [.int ((nI i) + 1), .ref (gS G), .ref m] rfl ?_
  rw [show (nI i) + 1 = nI (i + 1) from kn_ad rfl rfl]
  refine kx_sldN (i := i + 1) (kx_tk_dec rfl dL_law01) hN (by omega) ?_
  refine kx_rn dL_law01 4 162 [(0, .ref (gS G)), (1, .ref (Z.ad rV)), (2, .ref m), (3, .ref (m + 19)), (4, .ref (m + 20)), (5, .int (nI i)), (6, .int (nI k))] [.int ((nI i) + 2), .ref (gS G), .int (gF G (i + 1)), .ref m] rfl ?_
  rw [show (nI i) + 2 = nI (i + 2) from kn_ad rfl rfl]
  refine kx_sldN (i := i + 2) (kx_tk_dec rfl dL_law01) hN (by omega) ?_
  refine cL_79 (as := [.int (gF G (i + 1)), .int (gF G (i + 2))]) (st := []) (mc := 0) (ms := 0) (kc := kc) (ks := ks) rfl (kx_tk_dec rfl dL_law01) (a0 hz) rfl rfl (Nat.le_of_ble_eq_true rfl) (hr _ hz) (fun o h' hq => ?_)
  obtain ⟨S1, A1, rfl, eh, hS0, hs'⟩ := hq
  have hz2 := cz_ref (S1 := S1) (A1 := A1) hz
  rw [← eh] at hz2
  show kx_w _ _ _ _ _ _ _ _ _ _ _
  refine kx_rn dL_law01 1 167 [(0, .ref (gS G)), (1, .ref (Z.ad rV)), (2, .ref m), (3, .ref (m + 19)), (4, .ref (m + 20)), (5, .int (nI i)), (6, .int (nI k))] [.ref m] rfl ?_
  refine cL_80 (as := []) (st := []) (mc := 0) (ms := 0) (kc := kc) (ks := ks) rfl (kx_tk_dec rfl dL_law01) (a0 hz2) rfl rfl (Nat.le_of_ble_eq_true rfl) (thr_at hst hz2) (fun o h' hq => ?_)
  obtain ⟨rfl, e3⟩ := hq
  subst e3
  show kx_w _ _ _ _ _ _ _ _ _ _ _
  rw [hS0]
  refine kx_rn dL_law01 1 172 [(0, .ref (gS G)), (1, .ref (Z.ad rV)), (2, .ref m), (3, .ref (m + 19)), (4, .ref (m + 20)), (5, .int (nI i)), (6, .int (nI k))] [.int (nI k), .int (nI k)] rfl ?_
  refine kx_ic (tgt := 177) (kx_tk_dec rfl dL_law01) rfl (fun e172 => ?_) (fun e172 => ?_)
  · skip
    replace e172 : nI k = nI k := e172
    replace e172 : k = k := (nI_eq (a := k) (b := k) (by omega) (by omega)).mp e172
    refine kx_rn dL_law01 1 1039 [(0, .ref (gS G)), (1, .ref (Z.ad rV)), (2, .ref m), (3, .ref (m + 19)), (4, .ref (m + 20)), (5, .int (nI i)), (6, .int (nI k))] [] rfl ?_
    refine kx_lsub (lv' := [(0, .ref (gS G)), (1, .ref (Z.ad rV)), (2, .ref m), (3, .ref (m + 19)), (4, .ref (m + 20)), (5, .int (nI i))]) (.cons₂ _ (.cons₂ _ (.cons₂ _ (.cons₂ _ (.cons₂ _ (.cons₂ _ (.cons _ .slnil))))))) ?_
    exact K _ _ _ _ had hz2 hs'
  · skip
    replace e172 : ¬ nI k = nI k := e172
    replace e172 : ¬ k = k := fun z => e172 ((nI_eq (a := k) (b := k) (by omega) (by omega)).mpr z)
    exfalso; omega
set_option maxRecDepth 100000 in
theorem law_1 (hst : l.stackTraces = false) (hN : gN G ≤ 3584) (hi : i + 7 ≤ gN G) (hZ : cOk G m S A h Z) (hs : sim Z S A) (K : ∀ (Z' : cZ) (S1 : Nat → Int32) (A1 : Nat → Nat → Int32) (h' : kx_H), Z'.ad rV = Z.ad rV → cOk G m S1 A1 h' Z' → sim Z' S1 A1 → kx_w G l mL_law 20 Q kc ks 1039 [(0, .ref (gS G)), (1, .ref (Z.ad rV)), (2, .ref m), (3, .ref (m + 19)), (4, .ref (m + 20)), (5, .int (nI i))] [] h') : kx_w G l mL_law 20 Q (kc + 50) (ks + 1036) 180 [(0, .ref (gS G)), (1, .ref (Z.ad rV)), (2, .ref m), (3, .ref (m + 19)), (4, .ref (m + 20)), (5, .int (nI i))] [] h := by
  obtain ⟨mc, ms, ⟨b1, b2⟩, hC⟩ := stp_type (c := gF G (i + 1)) hst hZ hs
  refine kx_low (kc' := kc + mc) (ks' := ks + ms) (by omega) (by omega) ?_
  refine kx_rn dL_law01 5 186 [(0, .ref (gS G)), (1, .ref (Z.ad rV)), (2, .ref m), (3, .ref (m + 19)), (4, .ref (m + 20)), (5, .int (nI i))] [.int ((nI i) + 1), .ref (gS G), .ref (Z.ad rV)] rfl ?_
  rw [show (nI i) + 1 = nI (i + 1) from kn_ad rfl rfl]
  refine kx_sldN (i := i + 1) (kx_tk_dec rfl dL_law01) hN (by omega) ?_
  refine kx_rn dL_law01 1 188 [(0, .ref (gS G)), (1, .ref (Z.ad rV)), (2, .ref m), (3, .ref (m + 19)), (4, .ref (m + 20)), (5, .int (nI i))] [.ref (m + 19), .int (gF G (i + 1)), .ref (Z.ad rV)] rfl ?_
  refine cL_83 (as := [.ref (Z.ad rV), .int (gF G (i + 1)), .ref (m + 19)]) (st := []) (mc := mc) (ms := ms) (kc := kc) (ks := ks) rfl (kx_tk_dec rfl dL_law01) rfl rfl (Nat.le_of_ble_eq_true rfl) (hC) (fun o h' hq => ?_)
  obtain ⟨k, v, Z', f, rfl, hk10, had, hz, hf, hfv, hr⟩ := hq
  show kx_w _ _ _ _ _ _ _ _ _ _ _
  refine kx_rn dL_law01 6 199 [(0, .ref (gS G)), (1, .ref (Z.ad rV)), (2, .ref m), (3, .ref (m + 19)), (4, .ref (m + 20)), (5, .int (nI i)), (6, .int (nI k))] [.int ((nI i) + 1), .ref (gS G), .ref m] rfl ?_
  rw [show (nI i) + 1 = nI (i + 1) from kn_ad rfl rfl]
  refine kx_sldN (i := i + 1) (kx_tk_dec rfl dL_law01) hN (by omega) ?_
  refine cL_86 (as := [.int (gF G (i + 1))]) (st := []) (mc := 0) (ms := 0) (kc := kc) (ks := ks) rfl (kx_tk_dec rfl dL_law01) (a0 hz) rfl rfl (Nat.le_of_ble_eq_true rfl) (hr _ hz) (fun o h' hq => ?_)
  obtain ⟨b, S1, A1, rfl, eh, hS0, hb, hs'⟩ := hq
  have hz2 := cz_ref (S1 := S1) (A1 := A1) hz
  rw [← eh] at hz2
  have hf2 : h'.2 (m + 19) = kLa f := by rw [eh]; exact mH_19.trans hf
  show kx_w _ _ _ _ _ _ _ _ _ _ _
  refine kx_rn dL_law01 2 206 [(0, .ref (gS G)), (1, .ref (Z.ad rV)), (2, .ref m), (3, .ref (m + 19)), (4, .ref (m + 20)), (5, .int (nI i)), (6, .int (nI k)), (7, .int b)] [.ref m] rfl ?_
  refine cL_80 (as := []) (st := []) (mc := 0) (ms := 0) (kc := kc) (ks := ks) rfl (kx_tk_dec rfl dL_law01) (a0 hz2) rfl rfl (Nat.le_of_ble_eq_true rfl) (thr_at hst hz2) (fun o h' hq => ?_)
  obtain ⟨rfl, e3⟩ := hq
  subst e3
  show kx_w _ _ _ _ _ _ _ _ _ _ _
  rw [hS0]
  refine kx_rn dL_law01 1 211 [(0, .ref (gS G)), (1, .ref (Z.ad rV)), (2, .ref m), (3, .ref (m + 19)), (4, .ref (m + 20)), (5, .int (nI i)), (6, .int (nI k)), (7, .int b)] [.int (nI k), .int (nI k)] rfl ?_
  refine kx_ic (tgt := 216) (kx_tk_dec rfl dL_law02) rfl (fun e211 => ?_) (fun e211 => ?_)
  · skip
    replace e211 : nI k = nI k := e211
    replace e211 : k = k := (nI_eq (a := k) (b := k) (by omega) (by omega)).mp e211
    refine kx_rn dL_law02 1 218 [(0, .ref (gS G)), (1, .ref (Z.ad rV)), (2, .ref m), (3, .ref (m + 19)), (4, .ref (m + 20)), (5, .int (nI i)), (6, .int (nI k)), (7, .int b)] [.int (nI k)] rfl ?_
    refine kx_if (tgt := 233) (kx_tk_dec rfl dL_law02) rfl (fun e218 => ?_) (fun e218 => ?_)
    · skip
      replace e218 : ¬ nI k = 0 := e218
      replace e218 : ¬ k = 0 := fun z => e218 ((nI_eq (a := k) (b := 0) (by omega) (by omega)).mpr z)
      refine kx_rn dL_law02 1 1039 [(0, .ref (gS G)), (1, .ref (Z.ad rV)), (2, .ref m), (3, .ref (m + 19)), (4, .ref (m + 20)), (5, .int (nI i)), (6, .int (nI k)), (7, .int b)] [] rfl ?_
      refine kx_lsub (lv' := [(0, .ref (gS G)), (1, .ref (Z.ad rV)), (2, .ref m), (3, .ref (m + 19)), (4, .ref (m + 20)), (5, .int (nI i))]) (.cons₂ _ (.cons₂ _ (.cons₂ _ (.cons₂ _ (.cons₂ _ (.cons₂ _ (.cons _ (.cons _ .slnil)))))))) ?_
      exact K _ _ _ _ had hz2 hs'
    · skip
      replace e218 : nI k = 0 := e218
      replace e218 : k = 0 := (nI_eq (a := k) (b := 0) (by omega) (by omega)).mp e218
      have hbv := hb e218
      subst hbv
      refine kx_rn dL_law02 2 223 [(0, .ref (gS G)), (1, .ref (Z.ad rV)), (2, .ref m), (3, .ref (m + 19)), (4, .ref (m + 20)), (5, .int (nI i)), (6, .int (nI k)), (7, .int b)] [.int 0, .ref (m + 19)] rfl ?_
      refine kx_lldN (kx_tk_dec rfl dL_law02) (i19 hz2 hf2) (hfv e218) ?_
      refine kx_rn dL_law02 2 227 [(0, .ref (gS G)), (1, .ref (Z.ad rV)), (2, .ref m), (3, .ref (m + 19)), (4, .ref (m + 20)), (5, .int (nI i)), (6, .int (nI k)), (7, .int b)] [.long b.toInt64, .long b.toInt64] rfl ?_
      refine kx_lcmpE (kx_tk_dec rfl dL_law02) ?_
      refine kx_if (tgt := 233) (kx_tk_dec rfl dL_law02) rfl (fun e228 => ?_) (fun e228 => ?_)
      · skip
        replace e228 : (0 : Int32) = 0 := e228
        refine kx_rn dL_law02 1 1039 [(0, .ref (gS G)), (1, .ref (Z.ad rV)), (2, .ref m), (3, .ref (m + 19)), (4, .ref (m + 20)), (5, .int (nI i)), (6, .int (nI k)), (7, .int b)] [] rfl ?_
        refine kx_lsub (lv' := [(0, .ref (gS G)), (1, .ref (Z.ad rV)), (2, .ref m), (3, .ref (m + 19)), (4, .ref (m + 20)), (5, .int (nI i))]) (.cons₂ _ (.cons₂ _ (.cons₂ _ (.cons₂ _ (.cons₂ _ (.cons₂ _ (.cons _ (.cons _ .slnil)))))))) ?_
        exact K _ _ _ _ had hz2 hs'
      · skip
        replace e228 : ¬ (0 : Int32) = 0 := e228
        exact absurd (by decide) e228
  · skip
    replace e211 : ¬ nI k = nI k := e211
    replace e211 : ¬ k = k := fun z => e211 ((nI_eq (a := k) (b := k) (by omega) (by omega)).mpr z)
    exfalso; omega
set_option maxRecDepth 100000 in
theorem law_2 (hst : l.stackTraces = false) (hN : gN G ≤ 3584) (hi : i + 7 ≤ gN G) (hZ : cOk G m S A h Z) (hs : sim Z S A) (K : ∀ (Z' : cZ) (S1 : Nat → Int32) (A1 : Nat → Nat → Int32) (h' : kx_H), Z'.ad rV = Z.ad rV → cOk G m S1 A1 h' Z' → sim Z' S1 A1 → kx_w G l mL_law 20 Q kc ks 1039 [(0, .ref (gS G)), (1, .ref (Z.ad rV)), (2, .ref m), (3, .ref (m + 19)), (4, .ref (m + 20)), (5, .int (nI i))] [] h') : kx_w G l mL_law 20 Q (kc + 50) (ks + 1036) 236 [(0, .ref (gS G)), (1, .ref (Z.ad rV)), (2, .ref m), (3, .ref (m + 19)), (4, .ref (m + 20)), (5, .int (nI i))] [] h := by
  obtain ⟨mc, ms, ⟨b1, b2⟩, hC⟩ := stp_where  hst hZ hs
  refine kx_low (kc' := kc + mc) (ks' := ks + ms) (by omega) (by omega) ?_
  refine kx_rn dL_law02 1 237 [(0, .ref (gS G)), (1, .ref (Z.ad rV)), (2, .ref m), (3, .ref (m + 19)), (4, .ref (m + 20)), (5, .int (nI i))] [.ref (Z.ad rV)] rfl ?_
  refine cL_87 (as := [.ref (Z.ad rV)]) (st := []) (mc := mc) (ms := ms) (kc := kc) (ks := ks) rfl (kx_tk_dec rfl dL_law02) rfl rfl (Nat.le_of_ble_eq_true rfl) (hC) (fun o h' hq => ?_)
  obtain ⟨k, Z', rfl, hk10, had, hz, hr⟩ := hq
  show kx_w _ _ _ _ _ _ _ _ _ _ _
  refine kx_rn dL_law02 2 243 [(0, .ref (gS G)), (1, .ref (Z.ad rV)), (2, .ref m), (3, .ref (m + 19)), (4, .ref (m + 20)), (5, .int (nI i)), (6, .int (nI k))] [.ref m] rfl ?_
  refine cL_90 (as := []) (st := []) (mc := 0) (ms := 0) (kc := kc) (ks := ks) rfl (kx_tk_dec rfl dL_law02) (a0 hz) rfl rfl (Nat.le_of_ble_eq_true rfl) (hr _ hz) (fun o h' hq => ?_)
  obtain ⟨S1, A1, rfl, eh, hS0, hs'⟩ := hq
  have hz2 := cz_ref (S1 := S1) (A1 := A1) hz
  rw [← eh] at hz2
  show kx_w _ _ _ _ _ _ _ _ _ _ _
  refine kx_rn dL_law02 1 247 [(0, .ref (gS G)), (1, .ref (Z.ad rV)), (2, .ref m), (3, .ref (m + 19)), (4, .ref (m + 20)), (5, .int (nI i)), (6, .int (nI k))] [.ref m] rfl ?_
  refine cL_80 (as := []) (st := []) (mc := 0) (ms := 0) (kc := kc) (ks := ks) rfl (kx_tk_dec rfl dL_law02) (a0 hz2) rfl rfl (Nat.le_of_ble_eq_true rfl) (thr_at hst hz2) (fun o h' hq => ?_)
  obtain ⟨rfl, e3⟩ := hq
  subst e3
  show kx_w _ _ _ _ _ _ _ _ _ _ _
  rw [hS0]
  refine kx_rn dL_law02 1 252 [(0, .ref (gS G)), (1, .ref (Z.ad rV)), (2, .ref m), (3, .ref (m + 19)), (4, .ref (m + 20)), (5, .int (nI i)), (6, .int (nI k))] [.int (nI k), .int (nI k)] rfl ?_
  refine kx_ic (tgt := 257) (kx_tk_dec rfl dL_law02) rfl (fun e252 => ?_) (fun e252 => ?_)
  · skip
    replace e252 : nI k = nI k := e252
    replace e252 : k = k := (nI_eq (a := k) (b := k) (by omega) (by omega)).mp e252
    refine kx_rn dL_law02 1 1039 [(0, .ref (gS G)), (1, .ref (Z.ad rV)), (2, .ref m), (3, .ref (m + 19)), (4, .ref (m + 20)), (5, .int (nI i)), (6, .int (nI k))] [] rfl ?_
    refine kx_lsub (lv' := [(0, .ref (gS G)), (1, .ref (Z.ad rV)), (2, .ref m), (3, .ref (m + 19)), (4, .ref (m + 20)), (5, .int (nI i))]) (.cons₂ _ (.cons₂ _ (.cons₂ _ (.cons₂ _ (.cons₂ _ (.cons₂ _ (.cons _ .slnil))))))) ?_
    exact K _ _ _ _ had hz2 hs'
  · skip
    replace e252 : ¬ nI k = nI k := e252
    replace e252 : ¬ k = k := fun z => e252 ((nI_eq (a := k) (b := k) (by omega) (by omega)).mpr z)
    exfalso; omega
set_option maxRecDepth 100000 in
theorem law_3 (hst : l.stackTraces = false) (hN : gN G ≤ 3584) (hi : i + 7 ≤ gN G) (hZ : cOk G m S A h Z) (hs : sim Z S A) (K : ∀ (Z' : cZ) (S1 : Nat → Int32) (A1 : Nat → Nat → Int32) (h' : kx_H), Z'.ad rV = Z.ad rV → cOk G m S1 A1 h' Z' → sim Z' S1 A1 → kx_w G l mL_law 20 Q kc ks 1039 [(0, .ref (gS G)), (1, .ref (Z.ad rV)), (2, .ref m), (3, .ref (m + 19)), (4, .ref (m + 20)), (5, .int (nI i))] [] h') : kx_w G l mL_law 20 Q (kc + 50) (ks + 1036) 260 [(0, .ref (gS G)), (1, .ref (Z.ad rV)), (2, .ref m), (3, .ref (m + 19)), (4, .ref (m + 20)), (5, .int (nI i))] [] h := by
  obtain ⟨mc, ms, ⟨b1, b2⟩, hC⟩ := stp_setting  hst hZ hs
  refine kx_low (kc' := kc + mc) (ks' := ks + ms) (by omega) (by omega) ?_
  refine kx_rn dL_law02 2 262 [(0, .ref (gS G)), (1, .ref (Z.ad rV)), (2, .ref m), (3, .ref (m + 19)), (4, .ref (m + 20)), (5, .int (nI i))] [.ref (m + 19), .ref (Z.ad rV)] rfl ?_
  refine cL_91 (as := [.ref (Z.ad rV), .ref (m + 19)]) (st := []) (mc := mc) (ms := ms) (kc := kc) (ks := ks) rfl (kx_tk_dec rfl dL_law02) rfl rfl (Nat.le_of_ble_eq_true rfl) (hC) (fun o h' hq => ?_)
  obtain ⟨k, v, Z', f, rfl, hk10, had, hz, hf, hfv, hr⟩ := hq
  show kx_w _ _ _ _ _ _ _ _ _ _ _
  refine kx_rn dL_law02 2 268 [(0, .ref (gS G)), (1, .ref (Z.ad rV)), (2, .ref m), (3, .ref (m + 19)), (4, .ref (m + 20)), (5, .int (nI i)), (6, .int (nI k))] [.ref m] rfl ?_
  refine cL_94 (as := []) (st := []) (mc := 0) (ms := 0) (kc := kc) (ks := ks) rfl (kx_tk_dec rfl dL_law02) (a0 hz) rfl rfl (Nat.le_of_ble_eq_true rfl) (hr _ hz) (fun o h' hq => ?_)
  obtain ⟨b, S1, A1, rfl, eh, hS0, hb, hs'⟩ := hq
  have hz2 := cz_ref (S1 := S1) (A1 := A1) hz
  rw [← eh] at hz2
  have hf2 : h'.2 (m + 19) = kLa f := by rw [eh]; exact mH_19.trans hf
  show kx_w _ _ _ _ _ _ _ _ _ _ _
  refine kx_rn dL_law02 2 274 [(0, .ref (gS G)), (1, .ref (Z.ad rV)), (2, .ref m), (3, .ref (m + 19)), (4, .ref (m + 20)), (5, .int (nI i)), (6, .int (nI k)), (7, .int b)] [.ref m] rfl ?_
  refine cL_80 (as := []) (st := []) (mc := 0) (ms := 0) (kc := kc) (ks := ks) rfl (kx_tk_dec rfl dL_law02) (a0 hz2) rfl rfl (Nat.le_of_ble_eq_true rfl) (thr_at hst hz2) (fun o h' hq => ?_)
  obtain ⟨rfl, e3⟩ := hq
  subst e3
  show kx_w _ _ _ _ _ _ _ _ _ _ _
  rw [hS0]
  refine kx_rn dL_law02 1 279 [(0, .ref (gS G)), (1, .ref (Z.ad rV)), (2, .ref m), (3, .ref (m + 19)), (4, .ref (m + 20)), (5, .int (nI i)), (6, .int (nI k)), (7, .int b)] [.int (nI k), .int (nI k)] rfl ?_
  refine kx_ic (tgt := 284) (kx_tk_dec rfl dL_law02) rfl (fun e279 => ?_) (fun e279 => ?_)
  · skip
    replace e279 : nI k = nI k := e279
    replace e279 : k = k := (nI_eq (a := k) (b := k) (by omega) (by omega)).mp e279
    refine kx_rn dL_law03 1 286 [(0, .ref (gS G)), (1, .ref (Z.ad rV)), (2, .ref m), (3, .ref (m + 19)), (4, .ref (m + 20)), (5, .int (nI i)), (6, .int (nI k)), (7, .int b)] [.int (nI k)] rfl ?_
    refine kx_if (tgt := 301) (kx_tk_dec rfl dL_law03) rfl (fun e286 => ?_) (fun e286 => ?_)
    · skip
      replace e286 : ¬ nI k = 0 := e286
      replace e286 : ¬ k = 0 := fun z => e286 ((nI_eq (a := k) (b := 0) (by omega) (by omega)).mpr z)
      refine kx_rn dL_law03 1 1039 [(0, .ref (gS G)), (1, .ref (Z.ad rV)), (2, .ref m), (3, .ref (m + 19)), (4, .ref (m + 20)), (5, .int (nI i)), (6, .int (nI k)), (7, .int b)] [] rfl ?_
      refine kx_lsub (lv' := [(0, .ref (gS G)), (1, .ref (Z.ad rV)), (2, .ref m), (3, .ref (m + 19)), (4, .ref (m + 20)), (5, .int (nI i))]) (.cons₂ _ (.cons₂ _ (.cons₂ _ (.cons₂ _ (.cons₂ _ (.cons₂ _ (.cons _ (.cons _ .slnil)))))))) ?_
      exact K _ _ _ _ had hz2 hs'
    · skip
      replace e286 : nI k = 0 := e286
      replace e286 : k = 0 := (nI_eq (a := k) (b := 0) (by omega) (by omega)).mp e286
      have hbv := hb e286
      subst hbv
      refine kx_rn dL_law03 2 291 [(0, .ref (gS G)), (1, .ref (Z.ad rV)), (2, .ref m), (3, .ref (m + 19)), (4, .ref (m + 20)), (5, .int (nI i)), (6, .int (nI k)), (7, .int b)] [.int 0, .ref (m + 19)] rfl ?_
      refine kx_lldN (kx_tk_dec rfl dL_law03) (i19 hz2 hf2) (hfv e286) ?_
      refine kx_rn dL_law03 2 295 [(0, .ref (gS G)), (1, .ref (Z.ad rV)), (2, .ref m), (3, .ref (m + 19)), (4, .ref (m + 20)), (5, .int (nI i)), (6, .int (nI k)), (7, .int b)] [.long b.toInt64, .long b.toInt64] rfl ?_
      refine kx_lcmpE (kx_tk_dec rfl dL_law03) ?_
      refine kx_if (tgt := 301) (kx_tk_dec rfl dL_law03) rfl (fun e296 => ?_) (fun e296 => ?_)
      · skip
        replace e296 : (0 : Int32) = 0 := e296
        refine kx_rn dL_law03 1 1039 [(0, .ref (gS G)), (1, .ref (Z.ad rV)), (2, .ref m), (3, .ref (m + 19)), (4, .ref (m + 20)), (5, .int (nI i)), (6, .int (nI k)), (7, .int b)] [] rfl ?_
        refine kx_lsub (lv' := [(0, .ref (gS G)), (1, .ref (Z.ad rV)), (2, .ref m), (3, .ref (m + 19)), (4, .ref (m + 20)), (5, .int (nI i))]) (.cons₂ _ (.cons₂ _ (.cons₂ _ (.cons₂ _ (.cons₂ _ (.cons₂ _ (.cons _ (.cons _ .slnil)))))))) ?_
        exact K _ _ _ _ had hz2 hs'
      · skip
        replace e296 : ¬ (0 : Int32) = 0 := e296
        exact absurd (by decide) e296
  · skip
    replace e279 : ¬ nI k = nI k := e279
    replace e279 : ¬ k = k := fun z => e279 ((nI_eq (a := k) (b := k) (by omega) (by omega)).mpr z)
    exfalso; omega
set_option maxRecDepth 100000 in
theorem law_4 (hst : l.stackTraces = false) (hN : gN G ≤ 3584) (hi : i + 7 ≤ gN G) (hZ : cOk G m S A h Z) (hs : sim Z S A) (K : ∀ (Z' : cZ) (S1 : Nat → Int32) (A1 : Nat → Nat → Int32) (h' : kx_H), Z'.ad rV = Z.ad rV → cOk G m S1 A1 h' Z' → sim Z' S1 A1 → kx_w G l mL_law 20 Q kc ks 1039 [(0, .ref (gS G)), (1, .ref (Z.ad rV)), (2, .ref m), (3, .ref (m + 19)), (4, .ref (m + 20)), (5, .int (nI i))] [] h') : kx_w G l mL_law 20 Q (kc + 50) (ks + 1036) 304 [(0, .ref (gS G)), (1, .ref (Z.ad rV)), (2, .ref m), (3, .ref (m + 19)), (4, .ref (m + 20)), (5, .int (nI i))] [] h := by
  obtain ⟨mc, ms, ⟨b1, b2⟩, hC⟩ := stp_clear  hst hZ hs
  refine kx_low (kc' := kc + mc) (ks' := ks + ms) (by omega) (by omega) ?_
  refine kx_rn dL_law03 1 305 [(0, .ref (gS G)), (1, .ref (Z.ad rV)), (2, .ref m), (3, .ref (m + 19)), (4, .ref (m + 20)), (5, .int (nI i))] [.ref (Z.ad rV)] rfl ?_
  refine cL_95 (as := []) (st := []) (mc := mc) (ms := ms) (kc := kc) (ks := ks) rfl (kx_tk_dec rfl dL_law03) (hZ.is rV rfl) rfl rfl (Nat.le_of_ble_eq_true rfl) (hC) (fun o h' hq => ?_)
  obtain ⟨v, Z', rfl, had, hz, hr⟩ := hq
  show kx_w _ _ _ _ _ _ _ _ _ _ _
  refine kx_rn dL_law03 1 309 [(0, .ref (gS G)), (1, .ref (Z.ad rV)), (2, .ref m), (3, .ref (m + 19)), (4, .ref (m + 20)), (5, .int (nI i))] [.ref m, .int v] rfl ?_
  refine cL_98 (as := []) (st := [.int v]) (mc := 0) (ms := 0) (kc := kc) (ks := ks) rfl (kx_tk_dec rfl dL_law03) (a0 hz) rfl rfl (Nat.le_of_ble_eq_true rfl) (hr _ hz) (fun o h' hq => ?_)
  obtain ⟨b, S1, A1, rfl, eh, hS0, hb, hs'⟩ := hq
  have hz2 := cz_ref (S1 := S1) (A1 := A1) hz
  rw [← eh] at hz2
  have hbv := hb rfl
  subst hbv
  show kx_w _ _ _ _ _ _ _ _ _ _ _
  refine kx_ic (tgt := 1039) (kx_tk_dec rfl dL_law03) rfl (fun e312 => ?_) (fun e312 => ?_)
  · skip
    replace e312 : b = b := e312
    exact K _ _ _ _ had hz2 hs'
  · skip
    replace e312 : ¬ b = b := e312
    exact absurd rfl e312
set_option maxRecDepth 100000 in
theorem law_5 (hst : l.stackTraces = false) (hN : gN G ≤ 3584) (hi : i + 7 ≤ gN G) (hZ : cOk G m S A h Z) (hs : sim Z S A) (K : ∀ (Z' : cZ) (S1 : Nat → Int32) (A1 : Nat → Nat → Int32) (h' : kx_H), Z'.ad rV = Z.ad rV → cOk G m S1 A1 h' Z' → sim Z' S1 A1 → kx_w G l mL_law 20 Q kc ks 1039 [(0, .ref (gS G)), (1, .ref (Z.ad rV)), (2, .ref m), (3, .ref (m + 19)), (4, .ref (m + 20)), (5, .int (nI i))] [] h') : kx_w G l mL_law 20 Q (kc + 50) (ks + 1036) 317 [(0, .ref (gS G)), (1, .ref (Z.ad rV)), (2, .ref m), (3, .ref (m + 19)), (4, .ref (m + 20)), (5, .int (nI i))] [] h := by
  obtain ⟨mc, ms, ⟨b1, b2⟩, hC⟩ := stp_errorAt  hst hZ hs
  refine kx_low (kc' := kc + mc) (ks' := ks + ms) (by omega) (by omega) ?_
  refine kx_rn dL_law03 1 318 [(0, .ref (gS G)), (1, .ref (Z.ad rV)), (2, .ref m), (3, .ref (m + 19)), (4, .ref (m + 20)), (5, .int (nI i))] [.ref (Z.ad rV)] rfl ?_
  refine cL_99 (as := []) (st := []) (mc := mc) (ms := ms) (kc := kc) (ks := ks) rfl (kx_tk_dec rfl dL_law03) (hZ.is rV rfl) rfl rfl (Nat.le_of_ble_eq_true rfl) (hC) (fun o h' hq => ?_)
  obtain ⟨v, Z', rfl, had, hz, hr⟩ := hq
  show kx_w _ _ _ _ _ _ _ _ _ _ _
  refine kx_rn dL_law03 1 322 [(0, .ref (gS G)), (1, .ref (Z.ad rV)), (2, .ref m), (3, .ref (m + 19)), (4, .ref (m + 20)), (5, .int (nI i))] [.ref m, .int v] rfl ?_
  refine cL_102 (as := []) (st := [.int v]) (mc := 0) (ms := 0) (kc := kc) (ks := ks) rfl (kx_tk_dec rfl dL_law03) (a0 hz) rfl rfl (Nat.le_of_ble_eq_true rfl) (hr _ hz) (fun o h' hq => ?_)
  obtain ⟨b, S1, A1, rfl, eh, hS0, hb, hs'⟩ := hq
  have hz2 := cz_ref (S1 := S1) (A1 := A1) hz
  rw [← eh] at hz2
  have hbv := hb rfl
  subst hbv
  show kx_w _ _ _ _ _ _ _ _ _ _ _
  refine kx_ic (tgt := 1039) (kx_tk_dec rfl dL_law03) rfl (fun e325 => ?_) (fun e325 => ?_)
  · skip
    replace e325 : b = b := e325
    exact K _ _ _ _ had hz2 hs'
  · skip
    replace e325 : ¬ b = b := e325
    exact absurd rfl e325
set_option maxRecDepth 100000 in
theorem law_6 (hst : l.stackTraces = false) (hN : gN G ≤ 3584) (hi : i + 7 ≤ gN G) (hZ : cOk G m S A h Z) (hs : sim Z S A) (K : ∀ (Z' : cZ) (S1 : Nat → Int32) (A1 : Nat → Nat → Int32) (h' : kx_H), Z'.ad rV = Z.ad rV → cOk G m S1 A1 h' Z' → sim Z' S1 A1 → kx_w G l mL_law 20 Q kc ks 1039 [(0, .ref (gS G)), (1, .ref (Z.ad rV)), (2, .ref m), (3, .ref (m + 19)), (4, .ref (m + 20)), (5, .int (nI i))] [] h') : kx_w G l mL_law 20 Q (kc + 50) (ks + 1036) 330 [(0, .ref (gS G)), (1, .ref (Z.ad rV)), (2, .ref m), (3, .ref (m + 19)), (4, .ref (m + 20)), (5, .int (nI i))] [] h := by
  obtain ⟨mc, ms, ⟨b1, b2⟩, hC⟩ := stp_begin  hst hZ hs
  refine kx_low (kc' := kc + mc) (ks' := ks + ms) (by omega) (by omega) ?_
  refine kx_rn dL_law03 2 332 [(0, .ref (gS G)), (1, .ref (Z.ad rV)), (2, .ref m), (3, .ref (m + 19)), (4, .ref (m + 20)), (5, .int (nI i))] [.ref (m + 19), .ref (Z.ad rV)] rfl ?_
  refine cL_103 (as := [.ref (Z.ad rV), .ref (m + 19)]) (st := []) (mc := mc) (ms := ms) (kc := kc) (ks := ks) rfl (kx_tk_dec rfl dL_law03) rfl rfl (Nat.le_of_ble_eq_true rfl) (hC) (fun o h' hq => ?_)
  obtain ⟨k, v, Z', f, rfl, hk10, had, hz, hf, hfv, hr⟩ := hq
  show kx_w _ _ _ _ _ _ _ _ _ _ _
  refine kx_rn dL_law03 2 338 [(0, .ref (gS G)), (1, .ref (Z.ad rV)), (2, .ref m), (3, .ref (m + 19)), (4, .ref (m + 20)), (5, .int (nI i)), (6, .int (nI k))] [.ref m] rfl ?_
  refine cL_105 (as := []) (st := []) (mc := 0) (ms := 0) (kc := kc) (ks := ks) rfl (kx_tk_dec rfl dL_law03) (a0 hz) rfl rfl (Nat.le_of_ble_eq_true rfl) (hr _ hz) (fun o h' hq => ?_)
  obtain ⟨b, S1, A1, rfl, eh, hS0, hb, hs'⟩ := hq
  have hz2 := cz_ref (S1 := S1) (A1 := A1) hz
  rw [← eh] at hz2
  have hf2 : h'.2 (m + 19) = kLa f := by rw [eh]; exact mH_19.trans hf
  show kx_w _ _ _ _ _ _ _ _ _ _ _
  refine kx_rn dL_law03 2 344 [(0, .ref (gS G)), (1, .ref (Z.ad rV)), (2, .ref m), (3, .ref (m + 19)), (4, .ref (m + 20)), (5, .int (nI i)), (6, .int (nI k)), (7, .int b)] [.ref m] rfl ?_
  refine cL_80 (as := []) (st := []) (mc := 0) (ms := 0) (kc := kc) (ks := ks) rfl (kx_tk_dec rfl dL_law03) (a0 hz2) rfl rfl (Nat.le_of_ble_eq_true rfl) (thr_at hst hz2) (fun o h' hq => ?_)
  obtain ⟨rfl, e3⟩ := hq
  subst e3
  show kx_w _ _ _ _ _ _ _ _ _ _ _
  rw [hS0]
  refine kx_rn dL_law03 1 349 [(0, .ref (gS G)), (1, .ref (Z.ad rV)), (2, .ref m), (3, .ref (m + 19)), (4, .ref (m + 20)), (5, .int (nI i)), (6, .int (nI k)), (7, .int b)] [.int (nI k), .int (nI k)] rfl ?_
  refine kx_ic (tgt := 354) (kx_tk_dec rfl dL_law03) rfl (fun e349 => ?_) (fun e349 => ?_)
  · skip
    replace e349 : nI k = nI k := e349
    replace e349 : k = k := (nI_eq (a := k) (b := k) (by omega) (by omega)).mp e349
    refine kx_rn dL_law03 1 356 [(0, .ref (gS G)), (1, .ref (Z.ad rV)), (2, .ref m), (3, .ref (m + 19)), (4, .ref (m + 20)), (5, .int (nI i)), (6, .int (nI k)), (7, .int b)] [.int (nI k)] rfl ?_
    refine kx_if (tgt := 371) (kx_tk_dec rfl dL_law04) rfl (fun e356 => ?_) (fun e356 => ?_)
    · skip
      replace e356 : ¬ nI k = 0 := e356
      replace e356 : ¬ k = 0 := fun z => e356 ((nI_eq (a := k) (b := 0) (by omega) (by omega)).mpr z)
      refine kx_rn dL_law04 1 1039 [(0, .ref (gS G)), (1, .ref (Z.ad rV)), (2, .ref m), (3, .ref (m + 19)), (4, .ref (m + 20)), (5, .int (nI i)), (6, .int (nI k)), (7, .int b)] [] rfl ?_
      refine kx_lsub (lv' := [(0, .ref (gS G)), (1, .ref (Z.ad rV)), (2, .ref m), (3, .ref (m + 19)), (4, .ref (m + 20)), (5, .int (nI i))]) (.cons₂ _ (.cons₂ _ (.cons₂ _ (.cons₂ _ (.cons₂ _ (.cons₂ _ (.cons _ (.cons _ .slnil)))))))) ?_
      exact K _ _ _ _ had hz2 hs'
    · skip
      replace e356 : nI k = 0 := e356
      replace e356 : k = 0 := (nI_eq (a := k) (b := 0) (by omega) (by omega)).mp e356
      have hbv := hb e356
      subst hbv
      refine kx_rn dL_law04 2 361 [(0, .ref (gS G)), (1, .ref (Z.ad rV)), (2, .ref m), (3, .ref (m + 19)), (4, .ref (m + 20)), (5, .int (nI i)), (6, .int (nI k)), (7, .int b)] [.int 0, .ref (m + 19)] rfl ?_
      refine kx_lldN (kx_tk_dec rfl dL_law04) (i19 hz2 hf2) (hfv e356) ?_
      refine kx_rn dL_law04 2 365 [(0, .ref (gS G)), (1, .ref (Z.ad rV)), (2, .ref m), (3, .ref (m + 19)), (4, .ref (m + 20)), (5, .int (nI i)), (6, .int (nI k)), (7, .int b)] [.long b.toInt64, .long b.toInt64] rfl ?_
      refine kx_lcmpE (kx_tk_dec rfl dL_law04) ?_
      refine kx_if (tgt := 371) (kx_tk_dec rfl dL_law04) rfl (fun e366 => ?_) (fun e366 => ?_)
      · skip
        replace e366 : (0 : Int32) = 0 := e366
        refine kx_rn dL_law04 1 1039 [(0, .ref (gS G)), (1, .ref (Z.ad rV)), (2, .ref m), (3, .ref (m + 19)), (4, .ref (m + 20)), (5, .int (nI i)), (6, .int (nI k)), (7, .int b)] [] rfl ?_
        refine kx_lsub (lv' := [(0, .ref (gS G)), (1, .ref (Z.ad rV)), (2, .ref m), (3, .ref (m + 19)), (4, .ref (m + 20)), (5, .int (nI i))]) (.cons₂ _ (.cons₂ _ (.cons₂ _ (.cons₂ _ (.cons₂ _ (.cons₂ _ (.cons _ (.cons _ .slnil)))))))) ?_
        exact K _ _ _ _ had hz2 hs'
      · skip
        replace e366 : ¬ (0 : Int32) = 0 := e366
        exact absurd (by decide) e366
  · skip
    replace e349 : ¬ nI k = nI k := e349
    replace e349 : ¬ k = k := fun z => e349 ((nI_eq (a := k) (b := k) (by omega) (by omega)).mpr z)
    exfalso; omega
set_option maxRecDepth 100000 in
theorem law_7 (hst : l.stackTraces = false) (hN : gN G ≤ 3584) (hi : i + 7 ≤ gN G) (hZ : cOk G m S A h Z) (hs : sim Z S A) (K : ∀ (Z' : cZ) (S1 : Nat → Int32) (A1 : Nat → Nat → Int32) (h' : kx_H), Z'.ad rV = Z.ad rV → cOk G m S1 A1 h' Z' → sim Z' S1 A1 → kx_w G l mL_law 20 Q kc ks 1039 [(0, .ref (gS G)), (1, .ref (Z.ad rV)), (2, .ref m), (3, .ref (m + 19)), (4, .ref (m + 20)), (5, .int (nI i))] [] h') : kx_w G l mL_law 20 Q (kc + 50) (ks + 1036) 374 [(0, .ref (gS G)), (1, .ref (Z.ad rV)), (2, .ref m), (3, .ref (m + 19)), (4, .ref (m + 20)), (5, .int (nI i))] [] h := by
  obtain ⟨mc, ms, ⟨b1, b2⟩, hC⟩ := stp_commit (t := gF G (i + 1)) hst hZ hs
  refine kx_low (kc' := kc + mc) (ks' := ks + ms) (by omega) (by omega) ?_
  refine kx_rn dL_law04 5 380 [(0, .ref (gS G)), (1, .ref (Z.ad rV)), (2, .ref m), (3, .ref (m + 19)), (4, .ref (m + 20)), (5, .int (nI i))] [.int ((nI i) + 1), .ref (gS G), .ref (Z.ad rV)] rfl ?_
  rw [show (nI i) + 1 = nI (i + 1) from kn_ad rfl rfl]
  refine kx_sldN (i := i + 1) (kx_tk_dec rfl dL_law04) hN (by omega) ?_
  refine cL_106 (as := [.ref (Z.ad rV), .int (gF G (i + 1))]) (st := []) (mc := mc) (ms := ms) (kc := kc) (ks := ks) rfl (kx_tk_dec rfl dL_law04) rfl rfl (Nat.le_of_ble_eq_true rfl) (hC) (fun o h' hq => ?_)
  obtain ⟨k, Z', rfl, hk10, had, hz, hr⟩ := hq
  show kx_w _ _ _ _ _ _ _ _ _ _ _
  refine kx_rn dL_law04 6 392 [(0, .ref (gS G)), (1, .ref (Z.ad rV)), (2, .ref m), (3, .ref (m + 19)), (4, .ref (m + 20)), (5, .int (nI i)), (6, .int (nI k))] [.int ((nI i) + 1), .ref (gS G), .ref m] rfl ?_
  rw [show (nI i) + 1 = nI (i + 1) from kn_ad rfl rfl]
  refine kx_sldN (i := i + 1) (kx_tk_dec rfl dL_law04) hN (by omega) ?_
  refine cL_109 (as := [.int (gF G (i + 1))]) (st := []) (mc := 0) (ms := 0) (kc := kc) (ks := ks) rfl (kx_tk_dec rfl dL_law04) (a0 hz) rfl rfl (Nat.le_of_ble_eq_true rfl) (hr _ hz) (fun o h' hq => ?_)
  obtain ⟨S1, A1, rfl, eh, hS0, hs'⟩ := hq
  have hz2 := cz_ref (S1 := S1) (A1 := A1) hz
  rw [← eh] at hz2
  show kx_w _ _ _ _ _ _ _ _ _ _ _
  refine kx_rn dL_law04 1 397 [(0, .ref (gS G)), (1, .ref (Z.ad rV)), (2, .ref m), (3, .ref (m + 19)), (4, .ref (m + 20)), (5, .int (nI i)), (6, .int (nI k))] [.ref m] rfl ?_
  refine cL_80 (as := []) (st := []) (mc := 0) (ms := 0) (kc := kc) (ks := ks) rfl (kx_tk_dec rfl dL_law04) (a0 hz2) rfl rfl (Nat.le_of_ble_eq_true rfl) (thr_at hst hz2) (fun o h' hq => ?_)
  obtain ⟨rfl, e3⟩ := hq
  subst e3
  show kx_w _ _ _ _ _ _ _ _ _ _ _
  rw [hS0]
  refine kx_rn dL_law04 1 402 [(0, .ref (gS G)), (1, .ref (Z.ad rV)), (2, .ref m), (3, .ref (m + 19)), (4, .ref (m + 20)), (5, .int (nI i)), (6, .int (nI k))] [.int (nI k), .int (nI k)] rfl ?_
  refine kx_ic (tgt := 407) (kx_tk_dec rfl dL_law04) rfl (fun e402 => ?_) (fun e402 => ?_)
  · skip
    replace e402 : nI k = nI k := e402
    replace e402 : k = k := (nI_eq (a := k) (b := k) (by omega) (by omega)).mp e402
    refine kx_rn dL_law04 1 1039 [(0, .ref (gS G)), (1, .ref (Z.ad rV)), (2, .ref m), (3, .ref (m + 19)), (4, .ref (m + 20)), (5, .int (nI i)), (6, .int (nI k))] [] rfl ?_
    refine kx_lsub (lv' := [(0, .ref (gS G)), (1, .ref (Z.ad rV)), (2, .ref m), (3, .ref (m + 19)), (4, .ref (m + 20)), (5, .int (nI i))]) (.cons₂ _ (.cons₂ _ (.cons₂ _ (.cons₂ _ (.cons₂ _ (.cons₂ _ (.cons _ .slnil))))))) ?_
    exact K _ _ _ _ had hz2 hs'
  · skip
    replace e402 : ¬ nI k = nI k := e402
    replace e402 : ¬ k = k := fun z => e402 ((nI_eq (a := k) (b := k) (by omega) (by omega)).mpr z)
    exfalso; omega
set_option maxRecDepth 100000 in
theorem law_8 (hst : l.stackTraces = false) (hN : gN G ≤ 3584) (hi : i + 7 ≤ gN G) (hZ : cOk G m S A h Z) (hs : sim Z S A) (K : ∀ (Z' : cZ) (S1 : Nat → Int32) (A1 : Nat → Nat → Int32) (h' : kx_H), Z'.ad rV = Z.ad rV → cOk G m S1 A1 h' Z' → sim Z' S1 A1 → kx_w G l mL_law 20 Q kc ks 1039 [(0, .ref (gS G)), (1, .ref (Z.ad rV)), (2, .ref m), (3, .ref (m + 19)), (4, .ref (m + 20)), (5, .int (nI i))] [] h') : kx_w G l mL_law 20 Q (kc + 50) (ks + 1036) 410 [(0, .ref (gS G)), (1, .ref (Z.ad rV)), (2, .ref m), (3, .ref (m + 19)), (4, .ref (m + 20)), (5, .int (nI i))] [] h := by
  obtain ⟨mc, ms, ⟨b1, b2⟩, hC⟩ := stp_abort (t := gF G (i + 1)) hst hZ hs
  refine kx_low (kc' := kc + mc) (ks' := ks + ms) (by omega) (by omega) ?_
  refine kx_rn dL_law04 5 416 [(0, .ref (gS G)), (1, .ref (Z.ad rV)), (2, .ref m), (3, .ref (m + 19)), (4, .ref (m + 20)), (5, .int (nI i))] [.int ((nI i) + 1), .ref (gS G), .ref (Z.ad rV)] rfl ?_
  rw [show (nI i) + 1 = nI (i + 1) from kn_ad rfl rfl]
  refine kx_sldN (i := i + 1) (kx_tk_dec rfl dL_law04) hN (by omega) ?_
  refine kx_rn dL_law04 1 418 [(0, .ref (gS G)), (1, .ref (Z.ad rV)), (2, .ref m), (3, .ref (m + 19)), (4, .ref (m + 20)), (5, .int (nI i))] [.ref (m + 19), .int (gF G (i + 1)), .ref (Z.ad rV)] rfl ?_
  refine cL_110 (as := [.ref (Z.ad rV), .int (gF G (i + 1)), .ref (m + 19)]) (st := []) (mc := mc) (ms := ms) (kc := kc) (ks := ks) rfl (kx_tk_dec rfl dL_law05) rfl rfl (Nat.le_of_ble_eq_true rfl) (hC) (fun o h' hq => ?_)
  obtain ⟨k, v, Z', f, rfl, hk10, had, hz, hf, hfv, hr⟩ := hq
  show kx_w _ _ _ _ _ _ _ _ _ _ _
  refine kx_rn dL_law05 6 429 [(0, .ref (gS G)), (1, .ref (Z.ad rV)), (2, .ref m), (3, .ref (m + 19)), (4, .ref (m + 20)), (5, .int (nI i)), (6, .int (nI k))] [.int ((nI i) + 1), .ref (gS G), .ref m] rfl ?_
  rw [show (nI i) + 1 = nI (i + 1) from kn_ad rfl rfl]
  refine kx_sldN (i := i + 1) (kx_tk_dec rfl dL_law05) hN (by omega) ?_
  refine cL_112 (as := [.int (gF G (i + 1))]) (st := []) (mc := 0) (ms := 0) (kc := kc) (ks := ks) rfl (kx_tk_dec rfl dL_law05) (a0 hz) rfl rfl (Nat.le_of_ble_eq_true rfl) (hr _ hz) (fun o h' hq => ?_)
  obtain ⟨b, S1, A1, rfl, eh, hS0, hb, hs'⟩ := hq
  have hz2 := cz_ref (S1 := S1) (A1 := A1) hz
  rw [← eh] at hz2
  have hf2 : h'.2 (m + 19) = kLa f := by rw [eh]; exact mH_19.trans hf
  show kx_w _ _ _ _ _ _ _ _ _ _ _
  refine kx_rn dL_law05 2 436 [(0, .ref (gS G)), (1, .ref (Z.ad rV)), (2, .ref m), (3, .ref (m + 19)), (4, .ref (m + 20)), (5, .int (nI i)), (6, .int (nI k)), (7, .int b)] [.ref m] rfl ?_
  refine cL_80 (as := []) (st := []) (mc := 0) (ms := 0) (kc := kc) (ks := ks) rfl (kx_tk_dec rfl dL_law05) (a0 hz2) rfl rfl (Nat.le_of_ble_eq_true rfl) (thr_at hst hz2) (fun o h' hq => ?_)
  obtain ⟨rfl, e3⟩ := hq
  subst e3
  show kx_w _ _ _ _ _ _ _ _ _ _ _
  rw [hS0]
  refine kx_rn dL_law05 1 441 [(0, .ref (gS G)), (1, .ref (Z.ad rV)), (2, .ref m), (3, .ref (m + 19)), (4, .ref (m + 20)), (5, .int (nI i)), (6, .int (nI k)), (7, .int b)] [.int (nI k), .int (nI k)] rfl ?_
  refine kx_ic (tgt := 446) (kx_tk_dec rfl dL_law05) rfl (fun e441 => ?_) (fun e441 => ?_)
  · skip
    replace e441 : nI k = nI k := e441
    replace e441 : k = k := (nI_eq (a := k) (b := k) (by omega) (by omega)).mp e441
    refine kx_rn dL_law05 1 448 [(0, .ref (gS G)), (1, .ref (Z.ad rV)), (2, .ref m), (3, .ref (m + 19)), (4, .ref (m + 20)), (5, .int (nI i)), (6, .int (nI k)), (7, .int b)] [.int (nI k)] rfl ?_
    refine kx_if (tgt := 463) (kx_tk_dec rfl dL_law05) rfl (fun e448 => ?_) (fun e448 => ?_)
    · skip
      replace e448 : ¬ nI k = 0 := e448
      replace e448 : ¬ k = 0 := fun z => e448 ((nI_eq (a := k) (b := 0) (by omega) (by omega)).mpr z)
      refine kx_rn dL_law05 1 1039 [(0, .ref (gS G)), (1, .ref (Z.ad rV)), (2, .ref m), (3, .ref (m + 19)), (4, .ref (m + 20)), (5, .int (nI i)), (6, .int (nI k)), (7, .int b)] [] rfl ?_
      refine kx_lsub (lv' := [(0, .ref (gS G)), (1, .ref (Z.ad rV)), (2, .ref m), (3, .ref (m + 19)), (4, .ref (m + 20)), (5, .int (nI i))]) (.cons₂ _ (.cons₂ _ (.cons₂ _ (.cons₂ _ (.cons₂ _ (.cons₂ _ (.cons _ (.cons _ .slnil)))))))) ?_
      exact K _ _ _ _ had hz2 hs'
    · skip
      replace e448 : nI k = 0 := e448
      replace e448 : k = 0 := (nI_eq (a := k) (b := 0) (by omega) (by omega)).mp e448
      have hbv := hb e448
      subst hbv
      refine kx_rn dL_law05 2 453 [(0, .ref (gS G)), (1, .ref (Z.ad rV)), (2, .ref m), (3, .ref (m + 19)), (4, .ref (m + 20)), (5, .int (nI i)), (6, .int (nI k)), (7, .int b)] [.int 0, .ref (m + 19)] rfl ?_
      refine kx_lldN (kx_tk_dec rfl dL_law05) (i19 hz2 hf2) (hfv e448) ?_
      refine kx_rn dL_law05 2 457 [(0, .ref (gS G)), (1, .ref (Z.ad rV)), (2, .ref m), (3, .ref (m + 19)), (4, .ref (m + 20)), (5, .int (nI i)), (6, .int (nI k)), (7, .int b)] [.long b.toInt64, .long b.toInt64] rfl ?_
      refine kx_lcmpE (kx_tk_dec rfl dL_law05) ?_
      refine kx_if (tgt := 463) (kx_tk_dec rfl dL_law05) rfl (fun e458 => ?_) (fun e458 => ?_)
      · skip
        replace e458 : (0 : Int32) = 0 := e458
        refine kx_rn dL_law05 1 1039 [(0, .ref (gS G)), (1, .ref (Z.ad rV)), (2, .ref m), (3, .ref (m + 19)), (4, .ref (m + 20)), (5, .int (nI i)), (6, .int (nI k)), (7, .int b)] [] rfl ?_
        refine kx_lsub (lv' := [(0, .ref (gS G)), (1, .ref (Z.ad rV)), (2, .ref m), (3, .ref (m + 19)), (4, .ref (m + 20)), (5, .int (nI i))]) (.cons₂ _ (.cons₂ _ (.cons₂ _ (.cons₂ _ (.cons₂ _ (.cons₂ _ (.cons _ (.cons _ .slnil)))))))) ?_
        exact K _ _ _ _ had hz2 hs'
      · skip
        replace e458 : ¬ (0 : Int32) = 0 := e458
        exact absurd (by decide) e458
  · skip
    replace e441 : ¬ nI k = nI k := e441
    replace e441 : ¬ k = k := fun z => e441 ((nI_eq (a := k) (b := k) (by omega) (by omega)).mpr z)
    exfalso; omega
set_option maxRecDepth 100000 in
theorem law_9 (hst : l.stackTraces = false) (hN : gN G ≤ 3584) (hi : i + 7 ≤ gN G) (hZ : cOk G m S A h Z) (hs : sim Z S A) (K : ∀ (Z' : cZ) (S1 : Nat → Int32) (A1 : Nat → Nat → Int32) (h' : kx_H), Z'.ad rV = Z.ad rV → cOk G m S1 A1 h' Z' → sim Z' S1 A1 → kx_w G l mL_law 20 Q kc ks 1039 [(0, .ref (gS G)), (1, .ref (Z.ad rV)), (2, .ref m), (3, .ref (m + 19)), (4, .ref (m + 20)), (5, .int (nI i))] [] h') : kx_w G l mL_law 20 Q (kc + 50) (ks + 1036) 466 [(0, .ref (gS G)), (1, .ref (Z.ad rV)), (2, .ref m), (3, .ref (m + 19)), (4, .ref (m + 20)), (5, .int (nI i))] [] h := by
  obtain ⟨mc, ms, ⟨b1, b2⟩, hC⟩ := stp_insert (t := gF G (i + 1)) (k := gF G (i + 2)) (a := gF G (i + 3)) (b := gF G (i + 4)) (c := gF G (i + 5)) (e := gF G (i + 6)) hst hZ hs
  refine kx_low (kc' := kc + mc) (ks' := ks + ms) (by omega) (by omega) ?_
  refine kx_rn dL_law05 5 472 [(0, .ref (gS G)), (1, .ref (Z.ad rV)), (2, .ref m), (3, .ref (m + 19)), (4, .ref (m + 20)), (5, .int (nI i))] [.int ((nI i) + 1), .ref (gS G), .ref (Z.ad rV)] rfl ?_
  rw [show (nI i) + 1 = nI (i + 1) from kn_ad rfl rfl]
  refine kx_sldN (i := i + 1) (kx_tk_dec rfl dL_law05) hN (by omega) ?_
  refine kx_rn dL_law05 4 478 [(0, .ref (gS G)), (1, .ref (Z.ad rV)), (2, .ref m), (3, .ref (m + 19)), (4, .ref (m + 20)), (5, .int (nI i))] [.int ((nI i) + 2), .ref (gS G), .int (gF G (i + 1)), .ref (Z.ad rV)] rfl ?_
  rw [show (nI i) + 2 = nI (i + 2) from kn_ad rfl rfl]
  refine kx_sldN (i := i + 2) (kx_tk_dec rfl dL_law05) hN (by omega) ?_
  refine kx_rn dL_law05 1 480 [(0, .ref (gS G)), (1, .ref (Z.ad rV)), (2, .ref m), (3, .ref (m + 19)), (4, .ref (m + 20)), (5, .int (nI i))] [.ref (gS G), .int (gF G (i + 2)), .int (gF G (i + 1)), .ref (Z.ad rV)] rfl ?_
  refine kx_rn dL_law06 3 484 [(0, .ref (gS G)), (1, .ref (Z.ad rV)), (2, .ref m), (3, .ref (m + 19)), (4, .ref (m + 20)), (5, .int (nI i))] [.int ((nI i) + 3), .ref (gS G), .int (gF G (i + 2)), .int (gF G (i + 1)), .ref (Z.ad rV)] rfl ?_
  rw [show (nI i) + 3 = nI (i + 3) from kn_ad rfl rfl]
  refine kx_sldN (i := i + 3) (kx_tk_dec rfl dL_law06) hN (by omega) ?_
  refine kx_rn dL_law06 4 490 [(0, .ref (gS G)), (1, .ref (Z.ad rV)), (2, .ref m), (3, .ref (m + 19)), (4, .ref (m + 20)), (5, .int (nI i))] [.int ((nI i) + 4), .ref (gS G), .int (gF G (i + 3)), .int (gF G (i + 2)), .int (gF G (i + 1)), .ref (Z.ad rV)] rfl ?_
  rw [show (nI i) + 4 = nI (i + 4) from kn_ad rfl rfl]
  refine kx_sldN (i := i + 4) (kx_tk_dec rfl dL_law06) hN (by omega) ?_
  refine kx_rn dL_law06 4 496 [(0, .ref (gS G)), (1, .ref (Z.ad rV)), (2, .ref m), (3, .ref (m + 19)), (4, .ref (m + 20)), (5, .int (nI i))] [.int ((nI i) + 5), .ref (gS G), .int (gF G (i + 4)), .int (gF G (i + 3)), .int (gF G (i + 2)), .int (gF G (i + 1)), .ref (Z.ad rV)] rfl ?_
  rw [show (nI i) + 5 = nI (i + 5) from kn_ad rfl rfl]
  refine kx_sldN (i := i + 5) (kx_tk_dec rfl dL_law06) hN (by omega) ?_
  refine kx_rn dL_law06 4 503 [(0, .ref (gS G)), (1, .ref (Z.ad rV)), (2, .ref m), (3, .ref (m + 19)), (4, .ref (m + 20)), (5, .int (nI i))] [.int ((nI i) + 6), .ref (gS G), .int (gF G (i + 5)), .int (gF G (i + 4)), .int (gF G (i + 3)), .int (gF G (i + 2)), .int (gF G (i + 1)), .ref (Z.ad rV)] rfl ?_
  rw [show (nI i) + 6 = nI (i + 6) from kn_ad rfl rfl]
  refine kx_sldN (i := i + 6) (kx_tk_dec rfl dL_law06) hN (by omega) ?_
  refine kx_rn dL_law06 1 505 [(0, .ref (gS G)), (1, .ref (Z.ad rV)), (2, .ref m), (3, .ref (m + 19)), (4, .ref (m + 20)), (5, .int (nI i))] [.ref (m + 19), .int (gF G (i + 6)), .int (gF G (i + 5)), .int (gF G (i + 4)), .int (gF G (i + 3)), .int (gF G (i + 2)), .int (gF G (i + 1)), .ref (Z.ad rV)] rfl ?_
  refine cL_113 (as := [.ref (Z.ad rV), .int (gF G (i + 1)), .int (gF G (i + 2)), .int (gF G (i + 3)), .int (gF G (i + 4)), .int (gF G (i + 5)), .int (gF G (i + 6)), .ref (m + 19)]) (st := []) (mc := mc) (ms := ms) (kc := kc) (ks := ks) rfl (kx_tk_dec rfl dL_law06) rfl rfl (Nat.le_of_ble_eq_true rfl) (hC) (fun o h' hq => ?_)
  obtain ⟨k, v, Z', f, rfl, hk10, had, hz, hf, hfv, hr⟩ := hq
  show kx_w _ _ _ _ _ _ _ _ _ _ _
  refine kx_rn dL_law06 6 516 [(0, .ref (gS G)), (1, .ref (Z.ad rV)), (2, .ref m), (3, .ref (m + 19)), (4, .ref (m + 20)), (5, .int (nI i)), (6, .int (nI k))] [.int ((nI i) + 1), .ref (gS G), .ref m] rfl ?_
  rw [show (nI i) + 1 = nI (i + 1) from kn_ad rfl rfl]
  refine kx_sldN (i := i + 1) (kx_tk_dec rfl dL_law06) hN (by omega) ?_
  refine kx_rn dL_law06 4 522 [(0, .ref (gS G)), (1, .ref (Z.ad rV)), (2, .ref m), (3, .ref (m + 19)), (4, .ref (m + 20)), (5, .int (nI i)), (6, .int (nI k))] [.int ((nI i) + 2), .ref (gS G), .int (gF G (i + 1)), .ref m] rfl ?_
  rw [show (nI i) + 2 = nI (i + 2) from kn_ad rfl rfl]
  refine kx_sldN (i := i + 2) (kx_tk_dec rfl dL_law06) hN (by omega) ?_
  refine kx_rn dL_law06 4 528 [(0, .ref (gS G)), (1, .ref (Z.ad rV)), (2, .ref m), (3, .ref (m + 19)), (4, .ref (m + 20)), (5, .int (nI i)), (6, .int (nI k))] [.int ((nI i) + 3), .ref (gS G), .int (gF G (i + 2)), .int (gF G (i + 1)), .ref m] rfl ?_
  rw [show (nI i) + 3 = nI (i + 3) from kn_ad rfl rfl]
  refine kx_sldN (i := i + 3) (kx_tk_dec rfl dL_law06) hN (by omega) ?_
  refine kx_rn dL_law06 2 532 [(0, .ref (gS G)), (1, .ref (Z.ad rV)), (2, .ref m), (3, .ref (m + 19)), (4, .ref (m + 20)), (5, .int (nI i)), (6, .int (nI k))] [.int (nI i), .ref (gS G), .int (gF G (i + 3)), .int (gF G (i + 2)), .int (gF G (i + 1)), .ref m] rfl ?_
  refine kx_rn dL_law07 2 534 [(0, .ref (gS G)), (1, .ref (Z.ad rV)), (2, .ref m), (3, .ref (m + 19)), (4, .ref (m + 20)), (5, .int (nI i)), (6, .int (nI k))] [.int ((nI i) + 4), .ref (gS G), .int (gF G (i + 3)), .int (gF G (i + 2)), .int (gF G (i + 1)), .ref m] rfl ?_
  rw [show (nI i) + 4 = nI (i + 4) from kn_ad rfl rfl]
  refine kx_sldN (i := i + 4) (kx_tk_dec rfl dL_law07) hN (by omega) ?_
  refine kx_rn dL_law07 4 540 [(0, .ref (gS G)), (1, .ref (Z.ad rV)), (2, .ref m), (3, .ref (m + 19)), (4, .ref (m + 20)), (5, .int (nI i)), (6, .int (nI k))] [.int ((nI i) + 5), .ref (gS G), .int (gF G (i + 4)), .int (gF G (i + 3)), .int (gF G (i + 2)), .int (gF G (i + 1)), .ref m] rfl ?_
  rw [show (nI i) + 5 = nI (i + 5) from kn_ad rfl rfl]
  refine kx_sldN (i := i + 5) (kx_tk_dec rfl dL_law07) hN (by omega) ?_
  refine kx_rn dL_law07 4 547 [(0, .ref (gS G)), (1, .ref (Z.ad rV)), (2, .ref m), (3, .ref (m + 19)), (4, .ref (m + 20)), (5, .int (nI i)), (6, .int (nI k))] [.int ((nI i) + 6), .ref (gS G), .int (gF G (i + 5)), .int (gF G (i + 4)), .int (gF G (i + 3)), .int (gF G (i + 2)), .int (gF G (i + 1)), .ref m] rfl ?_
  rw [show (nI i) + 6 = nI (i + 6) from kn_ad rfl rfl]
  refine kx_sldN (i := i + 6) (kx_tk_dec rfl dL_law07) hN (by omega) ?_
  refine cL_116 (as := [.int (gF G (i + 1)), .int (gF G (i + 2)), .int (gF G (i + 3)), .int (gF G (i + 4)), .int (gF G (i + 5)), .int (gF G (i + 6))]) (st := []) (mc := 0) (ms := 0) (kc := kc) (ks := ks) rfl (kx_tk_dec rfl dL_law07) (a0 hz) rfl rfl (Nat.le_of_ble_eq_true rfl) (hr _ hz) (fun o h' hq => ?_)
  obtain ⟨b, S1, A1, rfl, eh, hS0, hb, hs'⟩ := hq
  have hz2 := cz_ref (S1 := S1) (A1 := A1) hz
  rw [← eh] at hz2
  have hf2 : h'.2 (m + 19) = kLa f := by rw [eh]; exact mH_19.trans hf
  show kx_w _ _ _ _ _ _ _ _ _ _ _
  refine kx_rn dL_law07 2 554 [(0, .ref (gS G)), (1, .ref (Z.ad rV)), (2, .ref m), (3, .ref (m + 19)), (4, .ref (m + 20)), (5, .int (nI i)), (6, .int (nI k)), (7, .int b)] [.ref m] rfl ?_
  refine cL_80 (as := []) (st := []) (mc := 0) (ms := 0) (kc := kc) (ks := ks) rfl (kx_tk_dec rfl dL_law07) (a0 hz2) rfl rfl (Nat.le_of_ble_eq_true rfl) (thr_at hst hz2) (fun o h' hq => ?_)
  obtain ⟨rfl, e3⟩ := hq
  subst e3
  show kx_w _ _ _ _ _ _ _ _ _ _ _
  rw [hS0]
  refine kx_rn dL_law07 1 559 [(0, .ref (gS G)), (1, .ref (Z.ad rV)), (2, .ref m), (3, .ref (m + 19)), (4, .ref (m + 20)), (5, .int (nI i)), (6, .int (nI k)), (7, .int b)] [.int (nI k), .int (nI k)] rfl ?_
  refine kx_ic (tgt := 564) (kx_tk_dec rfl dL_law07) rfl (fun e559 => ?_) (fun e559 => ?_)
  · skip
    replace e559 : nI k = nI k := e559
    replace e559 : k = k := (nI_eq (a := k) (b := k) (by omega) (by omega)).mp e559
    refine kx_rn dL_law07 1 566 [(0, .ref (gS G)), (1, .ref (Z.ad rV)), (2, .ref m), (3, .ref (m + 19)), (4, .ref (m + 20)), (5, .int (nI i)), (6, .int (nI k)), (7, .int b)] [.int (nI k)] rfl ?_
    refine kx_if (tgt := 581) (kx_tk_dec rfl dL_law07) rfl (fun e566 => ?_) (fun e566 => ?_)
    · skip
      replace e566 : ¬ nI k = 0 := e566
      replace e566 : ¬ k = 0 := fun z => e566 ((nI_eq (a := k) (b := 0) (by omega) (by omega)).mpr z)
      refine kx_rn dL_law07 1 1039 [(0, .ref (gS G)), (1, .ref (Z.ad rV)), (2, .ref m), (3, .ref (m + 19)), (4, .ref (m + 20)), (5, .int (nI i)), (6, .int (nI k)), (7, .int b)] [] rfl ?_
      refine kx_lsub (lv' := [(0, .ref (gS G)), (1, .ref (Z.ad rV)), (2, .ref m), (3, .ref (m + 19)), (4, .ref (m + 20)), (5, .int (nI i))]) (.cons₂ _ (.cons₂ _ (.cons₂ _ (.cons₂ _ (.cons₂ _ (.cons₂ _ (.cons _ (.cons _ .slnil)))))))) ?_
      exact K _ _ _ _ had hz2 hs'
    · skip
      replace e566 : nI k = 0 := e566
      replace e566 : k = 0 := (nI_eq (a := k) (b := 0) (by omega) (by omega)).mp e566
      have hbv := hb e566
      subst hbv
      refine kx_rn dL_law07 2 571 [(0, .ref (gS G)), (1, .ref (Z.ad rV)), (2, .ref m), (3, .ref (m + 19)), (4, .ref (m + 20)), (5, .int (nI i)), (6, .int (nI k)), (7, .int b)] [.int 0, .ref (m + 19)] rfl ?_
      refine kx_lldN (kx_tk_dec rfl dL_law07) (i19 hz2 hf2) (hfv e566) ?_
      refine kx_rn dL_law07 2 575 [(0, .ref (gS G)), (1, .ref (Z.ad rV)), (2, .ref m), (3, .ref (m + 19)), (4, .ref (m + 20)), (5, .int (nI i)), (6, .int (nI k)), (7, .int b)] [.long b.toInt64, .long b.toInt64] rfl ?_
      refine kx_lcmpE (kx_tk_dec rfl dL_law07) ?_
      refine kx_if (tgt := 581) (kx_tk_dec rfl dL_law07) rfl (fun e576 => ?_) (fun e576 => ?_)
      · skip
        replace e576 : (0 : Int32) = 0 := e576
        refine kx_rn dL_law07 1 1039 [(0, .ref (gS G)), (1, .ref (Z.ad rV)), (2, .ref m), (3, .ref (m + 19)), (4, .ref (m + 20)), (5, .int (nI i)), (6, .int (nI k)), (7, .int b)] [] rfl ?_
        refine kx_lsub (lv' := [(0, .ref (gS G)), (1, .ref (Z.ad rV)), (2, .ref m), (3, .ref (m + 19)), (4, .ref (m + 20)), (5, .int (nI i))]) (.cons₂ _ (.cons₂ _ (.cons₂ _ (.cons₂ _ (.cons₂ _ (.cons₂ _ (.cons _ (.cons _ .slnil)))))))) ?_
        exact K _ _ _ _ had hz2 hs'
      · skip
        replace e576 : ¬ (0 : Int32) = 0 := e576
        exact absurd (by decide) e576
  · skip
    replace e559 : ¬ nI k = nI k := e559
    replace e559 : ¬ k = k := fun z => e559 ((nI_eq (a := k) (b := k) (by omega) (by omega)).mpr z)
    exfalso; omega
set_option maxRecDepth 100000 in
theorem law_10 (hst : l.stackTraces = false) (hN : gN G ≤ 3584) (hi : i + 7 ≤ gN G) (hZ : cOk G m S A h Z) (hs : sim Z S A) (K : ∀ (Z' : cZ) (S1 : Nat → Int32) (A1 : Nat → Nat → Int32) (h' : kx_H), Z'.ad rV = Z.ad rV → cOk G m S1 A1 h' Z' → sim Z' S1 A1 → kx_w G l mL_law 20 Q kc ks 1039 [(0, .ref (gS G)), (1, .ref (Z.ad rV)), (2, .ref m), (3, .ref (m + 19)), (4, .ref (m + 20)), (5, .int (nI i))] [] h') : kx_w G l mL_law 20 Q (kc + 50) (ks + 1036) 584 [(0, .ref (gS G)), (1, .ref (Z.ad rV)), (2, .ref m), (3, .ref (m + 19)), (4, .ref (m + 20)), (5, .int (nI i))] [] h := by
  obtain ⟨mc, ms, ⟨b1, b2⟩, hC⟩ := stp_select (t := gF G (i + 1)) (k := gF G (i + 2)) hst hZ hs
  refine kx_low (kc' := kc + mc) (ks' := ks + ms) (by omega) (by omega) ?_
  refine kx_rn dL_law07 5 590 [(0, .ref (gS G)), (1, .ref (Z.ad rV)), (2, .ref m), (3, .ref (m + 19)), (4, .ref (m + 20)), (5, .int (nI i))] [.int ((nI i) + 1), .ref (gS G), .ref (Z.ad rV)] rfl ?_
  rw [show (nI i) + 1 = nI (i + 1) from kn_ad rfl rfl]
  refine kx_sldN (i := i + 1) (kx_tk_dec rfl dL_law07) hN (by omega) ?_
  refine kx_rn dL_law07 1 592 [(0, .ref (gS G)), (1, .ref (Z.ad rV)), (2, .ref m), (3, .ref (m + 19)), (4, .ref (m + 20)), (5, .int (nI i))] [.ref (gS G), .int (gF G (i + 1)), .ref (Z.ad rV)] rfl ?_
  refine kx_rn dL_law08 3 596 [(0, .ref (gS G)), (1, .ref (Z.ad rV)), (2, .ref m), (3, .ref (m + 19)), (4, .ref (m + 20)), (5, .int (nI i))] [.int ((nI i) + 2), .ref (gS G), .int (gF G (i + 1)), .ref (Z.ad rV)] rfl ?_
  rw [show (nI i) + 2 = nI (i + 2) from kn_ad rfl rfl]
  refine kx_sldN (i := i + 2) (kx_tk_dec rfl dL_law08) hN (by omega) ?_
  refine kx_rn dL_law08 1 598 [(0, .ref (gS G)), (1, .ref (Z.ad rV)), (2, .ref m), (3, .ref (m + 19)), (4, .ref (m + 20)), (5, .int (nI i))] [.ref (m + 19), .int (gF G (i + 2)), .int (gF G (i + 1)), .ref (Z.ad rV)] rfl ?_
  refine cL_117 (as := [.ref (Z.ad rV), .int (gF G (i + 1)), .int (gF G (i + 2)), .ref (m + 19)]) (st := []) (mc := mc) (ms := ms) (kc := kc) (ks := ks) rfl (kx_tk_dec rfl dL_law08) rfl rfl (Nat.le_of_ble_eq_true rfl) (hC) (fun o h' hq => ?_)
  obtain ⟨k, v, Z', f, rfl, hk10, had, hz, hf, hfv, hr⟩ := hq
  show kx_w _ _ _ _ _ _ _ _ _ _ _
  refine kx_rn dL_law08 6 609 [(0, .ref (gS G)), (1, .ref (Z.ad rV)), (2, .ref m), (3, .ref (m + 19)), (4, .ref (m + 20)), (5, .int (nI i)), (6, .int (nI k))] [.int ((nI i) + 1), .ref (gS G), .ref m] rfl ?_
  rw [show (nI i) + 1 = nI (i + 1) from kn_ad rfl rfl]
  refine kx_sldN (i := i + 1) (kx_tk_dec rfl dL_law08) hN (by omega) ?_
  refine kx_rn dL_law08 4 615 [(0, .ref (gS G)), (1, .ref (Z.ad rV)), (2, .ref m), (3, .ref (m + 19)), (4, .ref (m + 20)), (5, .int (nI i)), (6, .int (nI k))] [.int ((nI i) + 2), .ref (gS G), .int (gF G (i + 1)), .ref m] rfl ?_
  rw [show (nI i) + 2 = nI (i + 2) from kn_ad rfl rfl]
  refine kx_sldN (i := i + 2) (kx_tk_dec rfl dL_law08) hN (by omega) ?_
  refine cL_120 (as := [.int (gF G (i + 1)), .int (gF G (i + 2))]) (st := []) (mc := 0) (ms := 0) (kc := kc) (ks := ks) rfl (kx_tk_dec rfl dL_law08) (a0 hz) rfl rfl (Nat.le_of_ble_eq_true rfl) (hr _ hz) (fun o h' hq => ?_)
  obtain ⟨b, S1, A1, rfl, eh, hS0, hb, hs'⟩ := hq
  have hz2 := cz_ref (S1 := S1) (A1 := A1) hz
  rw [← eh] at hz2
  have hf2 : h'.2 (m + 19) = kLa f := by rw [eh]; exact mH_19.trans hf
  show kx_w _ _ _ _ _ _ _ _ _ _ _
  refine kx_rn dL_law08 2 622 [(0, .ref (gS G)), (1, .ref (Z.ad rV)), (2, .ref m), (3, .ref (m + 19)), (4, .ref (m + 20)), (5, .int (nI i)), (6, .int (nI k)), (7, .int b)] [.ref m] rfl ?_
  refine cL_80 (as := []) (st := []) (mc := 0) (ms := 0) (kc := kc) (ks := ks) rfl (kx_tk_dec rfl dL_law08) (a0 hz2) rfl rfl (Nat.le_of_ble_eq_true rfl) (thr_at hst hz2) (fun o h' hq => ?_)
  obtain ⟨rfl, e3⟩ := hq
  subst e3
  show kx_w _ _ _ _ _ _ _ _ _ _ _
  rw [hS0]
  refine kx_rn dL_law08 1 627 [(0, .ref (gS G)), (1, .ref (Z.ad rV)), (2, .ref m), (3, .ref (m + 19)), (4, .ref (m + 20)), (5, .int (nI i)), (6, .int (nI k)), (7, .int b)] [.int (nI k), .int (nI k)] rfl ?_
  refine kx_ic (tgt := 632) (kx_tk_dec rfl dL_law08) rfl (fun e627 => ?_) (fun e627 => ?_)
  · skip
    replace e627 : nI k = nI k := e627
    replace e627 : k = k := (nI_eq (a := k) (b := k) (by omega) (by omega)).mp e627
    refine kx_rn dL_law08 1 634 [(0, .ref (gS G)), (1, .ref (Z.ad rV)), (2, .ref m), (3, .ref (m + 19)), (4, .ref (m + 20)), (5, .int (nI i)), (6, .int (nI k)), (7, .int b)] [.int (nI k)] rfl ?_
    refine kx_if (tgt := 649) (kx_tk_dec rfl dL_law08) rfl (fun e634 => ?_) (fun e634 => ?_)
    · skip
      replace e634 : ¬ nI k = 0 := e634
      replace e634 : ¬ k = 0 := fun z => e634 ((nI_eq (a := k) (b := 0) (by omega) (by omega)).mpr z)
      refine kx_rn dL_law08 1 1039 [(0, .ref (gS G)), (1, .ref (Z.ad rV)), (2, .ref m), (3, .ref (m + 19)), (4, .ref (m + 20)), (5, .int (nI i)), (6, .int (nI k)), (7, .int b)] [] rfl ?_
      refine kx_lsub (lv' := [(0, .ref (gS G)), (1, .ref (Z.ad rV)), (2, .ref m), (3, .ref (m + 19)), (4, .ref (m + 20)), (5, .int (nI i))]) (.cons₂ _ (.cons₂ _ (.cons₂ _ (.cons₂ _ (.cons₂ _ (.cons₂ _ (.cons _ (.cons _ .slnil)))))))) ?_
      exact K _ _ _ _ had hz2 hs'
    · skip
      replace e634 : nI k = 0 := e634
      replace e634 : k = 0 := (nI_eq (a := k) (b := 0) (by omega) (by omega)).mp e634
      have hbv := hb e634
      subst hbv
      refine kx_rn dL_law08 2 639 [(0, .ref (gS G)), (1, .ref (Z.ad rV)), (2, .ref m), (3, .ref (m + 19)), (4, .ref (m + 20)), (5, .int (nI i)), (6, .int (nI k)), (7, .int b)] [.int 0, .ref (m + 19)] rfl ?_
      refine kx_lldN (kx_tk_dec rfl dL_law08) (i19 hz2 hf2) (hfv e634) ?_
      refine kx_rn dL_law08 2 643 [(0, .ref (gS G)), (1, .ref (Z.ad rV)), (2, .ref m), (3, .ref (m + 19)), (4, .ref (m + 20)), (5, .int (nI i)), (6, .int (nI k)), (7, .int b)] [.long b.toInt64, .long b.toInt64] rfl ?_
      refine kx_lcmpE (kx_tk_dec rfl dL_law08) ?_
      refine kx_if (tgt := 649) (kx_tk_dec rfl dL_law08) rfl (fun e644 => ?_) (fun e644 => ?_)
      · skip
        replace e644 : (0 : Int32) = 0 := e644
        refine kx_rn dL_law08 1 1039 [(0, .ref (gS G)), (1, .ref (Z.ad rV)), (2, .ref m), (3, .ref (m + 19)), (4, .ref (m + 20)), (5, .int (nI i)), (6, .int (nI k)), (7, .int b)] [] rfl ?_
        refine kx_lsub (lv' := [(0, .ref (gS G)), (1, .ref (Z.ad rV)), (2, .ref m), (3, .ref (m + 19)), (4, .ref (m + 20)), (5, .int (nI i))]) (.cons₂ _ (.cons₂ _ (.cons₂ _ (.cons₂ _ (.cons₂ _ (.cons₂ _ (.cons _ (.cons _ .slnil)))))))) ?_
        exact K _ _ _ _ had hz2 hs'
      · skip
        replace e644 : ¬ (0 : Int32) = 0 := e644
        exact absurd (by decide) e644
  · skip
    replace e627 : ¬ nI k = nI k := e627
    replace e627 : ¬ k = k := fun z => e627 ((nI_eq (a := k) (b := k) (by omega) (by omega)).mpr z)
    exfalso; omega
set_option maxRecDepth 100000 in
theorem law_11 (hst : l.stackTraces = false) (hN : gN G ≤ 3584) (hi : i + 7 ≤ gN G) (hZ : cOk G m S A h Z) (hs : sim Z S A) (K : ∀ (Z' : cZ) (S1 : Nat → Int32) (A1 : Nat → Nat → Int32) (h' : kx_H), Z'.ad rV = Z.ad rV → cOk G m S1 A1 h' Z' → sim Z' S1 A1 → kx_w G l mL_law 20 Q kc ks 1039 [(0, .ref (gS G)), (1, .ref (Z.ad rV)), (2, .ref m), (3, .ref (m + 19)), (4, .ref (m + 20)), (5, .int (nI i))] [] h') : kx_w G l mL_law 20 Q (kc + 50) (ks + 1036) 652 [(0, .ref (gS G)), (1, .ref (Z.ad rV)), (2, .ref m), (3, .ref (m + 19)), (4, .ref (m + 20)), (5, .int (nI i))] [] h := by
  obtain ⟨mc, ms, ⟨b1, b2⟩, hC⟩ := stp_update (t := gF G (i + 1)) (k := gF G (i + 2)) hst hZ hs
  refine kx_low (kc' := kc + mc) (ks' := ks + ms) (by omega) (by omega) ?_
  refine kx_rn dL_law08 2 654 [(0, .ref (gS G)), (1, .ref (Z.ad rV)), (2, .ref m), (3, .ref (m + 19)), (4, .ref (m + 20)), (5, .int (nI i))] [.ref (gS G), .ref (Z.ad rV)] rfl ?_
  refine kx_rn dL_law09 3 658 [(0, .ref (gS G)), (1, .ref (Z.ad rV)), (2, .ref m), (3, .ref (m + 19)), (4, .ref (m + 20)), (5, .int (nI i))] [.int ((nI i) + 1), .ref (gS G), .ref (Z.ad rV)] rfl ?_
  rw [show (nI i) + 1 = nI (i + 1) from kn_ad rfl rfl]
  refine kx_sldN (i := i + 1) (kx_tk_dec rfl dL_law09) hN (by omega) ?_
  refine kx_rn dL_law09 4 664 [(0, .ref (gS G)), (1, .ref (Z.ad rV)), (2, .ref m), (3, .ref (m + 19)), (4, .ref (m + 20)), (5, .int (nI i))] [.int ((nI i) + 2), .ref (gS G), .int (gF G (i + 1)), .ref (Z.ad rV)] rfl ?_
  rw [show (nI i) + 2 = nI (i + 2) from kn_ad rfl rfl]
  refine kx_sldN (i := i + 2) (kx_tk_dec rfl dL_law09) hN (by omega) ?_
  refine kx_rn dL_law09 1 666 [(0, .ref (gS G)), (1, .ref (Z.ad rV)), (2, .ref m), (3, .ref (m + 19)), (4, .ref (m + 20)), (5, .int (nI i))] [.ref (m + 19), .int (gF G (i + 2)), .int (gF G (i + 1)), .ref (Z.ad rV)] rfl ?_
  refine cL_121 (as := [.ref (Z.ad rV), .int (gF G (i + 1)), .int (gF G (i + 2)), .ref (m + 19)]) (st := []) (mc := mc) (ms := ms) (kc := kc) (ks := ks) rfl (kx_tk_dec rfl dL_law09) rfl rfl (Nat.le_of_ble_eq_true rfl) (hC) (fun o h' hq => ?_)
  obtain ⟨k, v, Z', f, rfl, hk10, had, hz, hf, hfv, hr⟩ := hq
  show kx_w _ _ _ _ _ _ _ _ _ _ _
  refine kx_rn dL_law09 6 677 [(0, .ref (gS G)), (1, .ref (Z.ad rV)), (2, .ref m), (3, .ref (m + 19)), (4, .ref (m + 20)), (5, .int (nI i)), (6, .int (nI k))] [.int ((nI i) + 1), .ref (gS G), .ref m] rfl ?_
  rw [show (nI i) + 1 = nI (i + 1) from kn_ad rfl rfl]
  refine kx_sldN (i := i + 1) (kx_tk_dec rfl dL_law09) hN (by omega) ?_
  refine kx_rn dL_law09 4 683 [(0, .ref (gS G)), (1, .ref (Z.ad rV)), (2, .ref m), (3, .ref (m + 19)), (4, .ref (m + 20)), (5, .int (nI i)), (6, .int (nI k))] [.int ((nI i) + 2), .ref (gS G), .int (gF G (i + 1)), .ref m] rfl ?_
  rw [show (nI i) + 2 = nI (i + 2) from kn_ad rfl rfl]
  refine kx_sldN (i := i + 2) (kx_tk_dec rfl dL_law09) hN (by omega) ?_
  refine cL_123 (as := [.int (gF G (i + 1)), .int (gF G (i + 2))]) (st := []) (mc := 0) (ms := 0) (kc := kc) (ks := ks) rfl (kx_tk_dec rfl dL_law09) (a0 hz) rfl rfl (Nat.le_of_ble_eq_true rfl) (hr _ hz) (fun o h' hq => ?_)
  obtain ⟨b, S1, A1, rfl, eh, hS0, hb, hs'⟩ := hq
  have hz2 := cz_ref (S1 := S1) (A1 := A1) hz
  rw [← eh] at hz2
  have hf2 : h'.2 (m + 19) = kLa f := by rw [eh]; exact mH_19.trans hf
  show kx_w _ _ _ _ _ _ _ _ _ _ _
  refine kx_rn dL_law09 2 690 [(0, .ref (gS G)), (1, .ref (Z.ad rV)), (2, .ref m), (3, .ref (m + 19)), (4, .ref (m + 20)), (5, .int (nI i)), (6, .int (nI k)), (7, .int b)] [.ref m] rfl ?_
  refine cL_80 (as := []) (st := []) (mc := 0) (ms := 0) (kc := kc) (ks := ks) rfl (kx_tk_dec rfl dL_law09) (a0 hz2) rfl rfl (Nat.le_of_ble_eq_true rfl) (thr_at hst hz2) (fun o h' hq => ?_)
  obtain ⟨rfl, e3⟩ := hq
  subst e3
  show kx_w _ _ _ _ _ _ _ _ _ _ _
  rw [hS0]
  refine kx_rn dL_law09 1 695 [(0, .ref (gS G)), (1, .ref (Z.ad rV)), (2, .ref m), (3, .ref (m + 19)), (4, .ref (m + 20)), (5, .int (nI i)), (6, .int (nI k)), (7, .int b)] [.int (nI k), .int (nI k)] rfl ?_
  refine kx_ic (tgt := 700) (kx_tk_dec rfl dL_law09) rfl (fun e695 => ?_) (fun e695 => ?_)
  · skip
    replace e695 : nI k = nI k := e695
    replace e695 : k = k := (nI_eq (a := k) (b := k) (by omega) (by omega)).mp e695
    refine kx_rn dL_law09 1 702 [(0, .ref (gS G)), (1, .ref (Z.ad rV)), (2, .ref m), (3, .ref (m + 19)), (4, .ref (m + 20)), (5, .int (nI i)), (6, .int (nI k)), (7, .int b)] [.int (nI k)] rfl ?_
    refine kx_if (tgt := 717) (kx_tk_dec rfl dL_law09) rfl (fun e702 => ?_) (fun e702 => ?_)
    · skip
      replace e702 : ¬ nI k = 0 := e702
      replace e702 : ¬ k = 0 := fun z => e702 ((nI_eq (a := k) (b := 0) (by omega) (by omega)).mpr z)
      refine kx_rn dL_law10 1 1039 [(0, .ref (gS G)), (1, .ref (Z.ad rV)), (2, .ref m), (3, .ref (m + 19)), (4, .ref (m + 20)), (5, .int (nI i)), (6, .int (nI k)), (7, .int b)] [] rfl ?_
      refine kx_lsub (lv' := [(0, .ref (gS G)), (1, .ref (Z.ad rV)), (2, .ref m), (3, .ref (m + 19)), (4, .ref (m + 20)), (5, .int (nI i))]) (.cons₂ _ (.cons₂ _ (.cons₂ _ (.cons₂ _ (.cons₂ _ (.cons₂ _ (.cons _ (.cons _ .slnil)))))))) ?_
      exact K _ _ _ _ had hz2 hs'
    · skip
      replace e702 : nI k = 0 := e702
      replace e702 : k = 0 := (nI_eq (a := k) (b := 0) (by omega) (by omega)).mp e702
      have hbv := hb e702
      subst hbv
      refine kx_rn dL_law09 2 707 [(0, .ref (gS G)), (1, .ref (Z.ad rV)), (2, .ref m), (3, .ref (m + 19)), (4, .ref (m + 20)), (5, .int (nI i)), (6, .int (nI k)), (7, .int b)] [.int 0, .ref (m + 19)] rfl ?_
      refine kx_lldN (kx_tk_dec rfl dL_law09) (i19 hz2 hf2) (hfv e702) ?_
      refine kx_rn dL_law09 2 711 [(0, .ref (gS G)), (1, .ref (Z.ad rV)), (2, .ref m), (3, .ref (m + 19)), (4, .ref (m + 20)), (5, .int (nI i)), (6, .int (nI k)), (7, .int b)] [.long b.toInt64, .long b.toInt64] rfl ?_
      refine kx_lcmpE (kx_tk_dec rfl dL_law09) ?_
      refine kx_if (tgt := 717) (kx_tk_dec rfl dL_law09) rfl (fun e712 => ?_) (fun e712 => ?_)
      · skip
        replace e712 : (0 : Int32) = 0 := e712
        refine kx_rn dL_law10 1 1039 [(0, .ref (gS G)), (1, .ref (Z.ad rV)), (2, .ref m), (3, .ref (m + 19)), (4, .ref (m + 20)), (5, .int (nI i)), (6, .int (nI k)), (7, .int b)] [] rfl ?_
        refine kx_lsub (lv' := [(0, .ref (gS G)), (1, .ref (Z.ad rV)), (2, .ref m), (3, .ref (m + 19)), (4, .ref (m + 20)), (5, .int (nI i))]) (.cons₂ _ (.cons₂ _ (.cons₂ _ (.cons₂ _ (.cons₂ _ (.cons₂ _ (.cons _ (.cons _ .slnil)))))))) ?_
        exact K _ _ _ _ had hz2 hs'
      · skip
        replace e712 : ¬ (0 : Int32) = 0 := e712
        exact absurd (by decide) e712
  · skip
    replace e695 : ¬ nI k = nI k := e695
    replace e695 : ¬ k = k := fun z => e695 ((nI_eq (a := k) (b := k) (by omega) (by omega)).mpr z)
    exfalso; omega
set_option maxRecDepth 100000 in
theorem law_12 (hst : l.stackTraces = false) (hN : gN G ≤ 3584) (hi : i + 7 ≤ gN G) (hZ : cOk G m S A h Z) (hs : sim Z S A) (K : ∀ (Z' : cZ) (S1 : Nat → Int32) (A1 : Nat → Nat → Int32) (h' : kx_H), Z'.ad rV = Z.ad rV → cOk G m S1 A1 h' Z' → sim Z' S1 A1 → kx_w G l mL_law 20 Q kc ks 1039 [(0, .ref (gS G)), (1, .ref (Z.ad rV)), (2, .ref m), (3, .ref (m + 19)), (4, .ref (m + 20)), (5, .int (nI i))] [] h') : kx_w G l mL_law 20 Q (kc + 50) (ks + 1036) 720 [(0, .ref (gS G)), (1, .ref (Z.ad rV)), (2, .ref m), (3, .ref (m + 19)), (4, .ref (m + 20)), (5, .int (nI i))] [] h := by
  obtain ⟨mc, ms, ⟨b1, b2⟩, hC⟩ := stp_delete (t := gF G (i + 1)) (k := gF G (i + 2)) hst hZ hs
  refine kx_low (kc' := kc + mc) (ks' := ks + ms) (by omega) (by omega) ?_
  refine kx_rn dL_law10 5 726 [(0, .ref (gS G)), (1, .ref (Z.ad rV)), (2, .ref m), (3, .ref (m + 19)), (4, .ref (m + 20)), (5, .int (nI i))] [.int ((nI i) + 1), .ref (gS G), .ref (Z.ad rV)] rfl ?_
  rw [show (nI i) + 1 = nI (i + 1) from kn_ad rfl rfl]
  refine kx_sldN (i := i + 1) (kx_tk_dec rfl dL_law10) hN (by omega) ?_
  refine kx_rn dL_law10 4 732 [(0, .ref (gS G)), (1, .ref (Z.ad rV)), (2, .ref m), (3, .ref (m + 19)), (4, .ref (m + 20)), (5, .int (nI i))] [.int ((nI i) + 2), .ref (gS G), .int (gF G (i + 1)), .ref (Z.ad rV)] rfl ?_
  rw [show (nI i) + 2 = nI (i + 2) from kn_ad rfl rfl]
  refine kx_sldN (i := i + 2) (kx_tk_dec rfl dL_law10) hN (by omega) ?_
  refine kx_rn dL_law10 1 734 [(0, .ref (gS G)), (1, .ref (Z.ad rV)), (2, .ref m), (3, .ref (m + 19)), (4, .ref (m + 20)), (5, .int (nI i))] [.ref (m + 19), .int (gF G (i + 2)), .int (gF G (i + 1)), .ref (Z.ad rV)] rfl ?_
  refine cL_124 (as := [.ref (Z.ad rV), .int (gF G (i + 1)), .int (gF G (i + 2)), .ref (m + 19)]) (st := []) (mc := mc) (ms := ms) (kc := kc) (ks := ks) rfl (kx_tk_dec rfl dL_law10) rfl rfl (Nat.le_of_ble_eq_true rfl) (hC) (fun o h' hq => ?_)
  obtain ⟨k, v, Z', f, rfl, hk10, had, hz, hf, hfv, hr⟩ := hq
  show kx_w _ _ _ _ _ _ _ _ _ _ _
  refine kx_rn dL_law10 6 745 [(0, .ref (gS G)), (1, .ref (Z.ad rV)), (2, .ref m), (3, .ref (m + 19)), (4, .ref (m + 20)), (5, .int (nI i)), (6, .int (nI k))] [.int ((nI i) + 1), .ref (gS G), .ref m] rfl ?_
  rw [show (nI i) + 1 = nI (i + 1) from kn_ad rfl rfl]
  refine kx_sldN (i := i + 1) (kx_tk_dec rfl dL_law10) hN (by omega) ?_
  refine kx_rn dL_law10 4 751 [(0, .ref (gS G)), (1, .ref (Z.ad rV)), (2, .ref m), (3, .ref (m + 19)), (4, .ref (m + 20)), (5, .int (nI i)), (6, .int (nI k))] [.int ((nI i) + 2), .ref (gS G), .int (gF G (i + 1)), .ref m] rfl ?_
  rw [show (nI i) + 2 = nI (i + 2) from kn_ad rfl rfl]
  refine kx_sldN (i := i + 2) (kx_tk_dec rfl dL_law10) hN (by omega) ?_
  refine cL_126 (as := [.int (gF G (i + 1)), .int (gF G (i + 2))]) (st := []) (mc := 0) (ms := 0) (kc := kc) (ks := ks) rfl (kx_tk_dec rfl dL_law10) (a0 hz) rfl rfl (Nat.le_of_ble_eq_true rfl) (hr _ hz) (fun o h' hq => ?_)
  obtain ⟨b, S1, A1, rfl, eh, hS0, hb, hs'⟩ := hq
  have hz2 := cz_ref (S1 := S1) (A1 := A1) hz
  rw [← eh] at hz2
  have hf2 : h'.2 (m + 19) = kLa f := by rw [eh]; exact mH_19.trans hf
  show kx_w _ _ _ _ _ _ _ _ _ _ _
  refine kx_rn dL_law10 2 758 [(0, .ref (gS G)), (1, .ref (Z.ad rV)), (2, .ref m), (3, .ref (m + 19)), (4, .ref (m + 20)), (5, .int (nI i)), (6, .int (nI k)), (7, .int b)] [.ref m] rfl ?_
  refine cL_80 (as := []) (st := []) (mc := 0) (ms := 0) (kc := kc) (ks := ks) rfl (kx_tk_dec rfl dL_law10) (a0 hz2) rfl rfl (Nat.le_of_ble_eq_true rfl) (thr_at hst hz2) (fun o h' hq => ?_)
  obtain ⟨rfl, e3⟩ := hq
  subst e3
  show kx_w _ _ _ _ _ _ _ _ _ _ _
  rw [hS0]
  refine kx_rn dL_law10 1 763 [(0, .ref (gS G)), (1, .ref (Z.ad rV)), (2, .ref m), (3, .ref (m + 19)), (4, .ref (m + 20)), (5, .int (nI i)), (6, .int (nI k)), (7, .int b)] [.int (nI k), .int (nI k)] rfl ?_
  refine kx_ic (tgt := 768) (kx_tk_dec rfl dL_law10) rfl (fun e763 => ?_) (fun e763 => ?_)
  · skip
    replace e763 : nI k = nI k := e763
    replace e763 : k = k := (nI_eq (a := k) (b := k) (by omega) (by omega)).mp e763
    refine kx_rn dL_law10 1 770 [(0, .ref (gS G)), (1, .ref (Z.ad rV)), (2, .ref m), (3, .ref (m + 19)), (4, .ref (m + 20)), (5, .int (nI i)), (6, .int (nI k)), (7, .int b)] [.int (nI k)] rfl ?_
    refine kx_if (tgt := 785) (kx_tk_dec rfl dL_law10) rfl (fun e770 => ?_) (fun e770 => ?_)
    · skip
      replace e770 : ¬ nI k = 0 := e770
      replace e770 : ¬ k = 0 := fun z => e770 ((nI_eq (a := k) (b := 0) (by omega) (by omega)).mpr z)
      refine kx_rn dL_law11 1 1039 [(0, .ref (gS G)), (1, .ref (Z.ad rV)), (2, .ref m), (3, .ref (m + 19)), (4, .ref (m + 20)), (5, .int (nI i)), (6, .int (nI k)), (7, .int b)] [] rfl ?_
      refine kx_lsub (lv' := [(0, .ref (gS G)), (1, .ref (Z.ad rV)), (2, .ref m), (3, .ref (m + 19)), (4, .ref (m + 20)), (5, .int (nI i))]) (.cons₂ _ (.cons₂ _ (.cons₂ _ (.cons₂ _ (.cons₂ _ (.cons₂ _ (.cons _ (.cons _ .slnil)))))))) ?_
      exact K _ _ _ _ had hz2 hs'
    · skip
      replace e770 : nI k = 0 := e770
      replace e770 : k = 0 := (nI_eq (a := k) (b := 0) (by omega) (by omega)).mp e770
      have hbv := hb e770
      subst hbv
      refine kx_rn dL_law10 2 775 [(0, .ref (gS G)), (1, .ref (Z.ad rV)), (2, .ref m), (3, .ref (m + 19)), (4, .ref (m + 20)), (5, .int (nI i)), (6, .int (nI k)), (7, .int b)] [.int 0, .ref (m + 19)] rfl ?_
      refine kx_lldN (kx_tk_dec rfl dL_law11) (i19 hz2 hf2) (hfv e770) ?_
      refine kx_rn dL_law11 2 779 [(0, .ref (gS G)), (1, .ref (Z.ad rV)), (2, .ref m), (3, .ref (m + 19)), (4, .ref (m + 20)), (5, .int (nI i)), (6, .int (nI k)), (7, .int b)] [.long b.toInt64, .long b.toInt64] rfl ?_
      refine kx_lcmpE (kx_tk_dec rfl dL_law11) ?_
      refine kx_if (tgt := 785) (kx_tk_dec rfl dL_law11) rfl (fun e780 => ?_) (fun e780 => ?_)
      · skip
        replace e780 : (0 : Int32) = 0 := e780
        refine kx_rn dL_law11 1 1039 [(0, .ref (gS G)), (1, .ref (Z.ad rV)), (2, .ref m), (3, .ref (m + 19)), (4, .ref (m + 20)), (5, .int (nI i)), (6, .int (nI k)), (7, .int b)] [] rfl ?_
        refine kx_lsub (lv' := [(0, .ref (gS G)), (1, .ref (Z.ad rV)), (2, .ref m), (3, .ref (m + 19)), (4, .ref (m + 20)), (5, .int (nI i))]) (.cons₂ _ (.cons₂ _ (.cons₂ _ (.cons₂ _ (.cons₂ _ (.cons₂ _ (.cons _ (.cons _ .slnil)))))))) ?_
        exact K _ _ _ _ had hz2 hs'
      · skip
        replace e780 : ¬ (0 : Int32) = 0 := e780
        exact absurd (by decide) e780
  · skip
    replace e763 : ¬ nI k = nI k := e763
    replace e763 : ¬ k = k := fun z => e763 ((nI_eq (a := k) (b := k) (by omega) (by omega)).mpr z)
    exfalso; omega
set_option maxRecDepth 100000 in
theorem law_13 (hst : l.stackTraces = false) (hN : gN G ≤ 3584) (hi : i + 7 ≤ gN G) (hZ : cOk G m S A h Z) (hs : sim Z S A) (K : ∀ (Z' : cZ) (S1 : Nat → Int32) (A1 : Nat → Nat → Int32) (h' : kx_H), Z'.ad rV = Z.ad rV → cOk G m S1 A1 h' Z' → sim Z' S1 A1 → kx_w G l mL_law 20 Q kc ks 1039 [(0, .ref (gS G)), (1, .ref (Z.ad rV)), (2, .ref m), (3, .ref (m + 19)), (4, .ref (m + 20)), (5, .int (nI i))] [] h') : kx_w G l mL_law 20 Q (kc + 50) (ks + 1036) 788 [(0, .ref (gS G)), (1, .ref (Z.ad rV)), (2, .ref m), (3, .ref (m + 19)), (4, .ref (m + 20)), (5, .int (nI i))] [] h := by
  obtain ⟨mc, ms, ⟨b1, b2⟩, hC⟩ := stp_result (i := gF G (i + 1)) (c := gF G (i + 2)) hst hZ hs
  refine kx_low (kc' := kc + mc) (ks' := ks + ms) (by omega) (by omega) ?_
  refine kx_rn dL_law11 5 794 [(0, .ref (gS G)), (1, .ref (Z.ad rV)), (2, .ref m), (3, .ref (m + 19)), (4, .ref (m + 20)), (5, .int (nI i))] [.int ((nI i) + 1), .ref (gS G), .ref (Z.ad rV)] rfl ?_
  rw [show (nI i) + 1 = nI (i + 1) from kn_ad rfl rfl]
  refine kx_sldN (i := i + 1) (kx_tk_dec rfl dL_law11) hN (by omega) ?_
  refine kx_rn dL_law11 4 800 [(0, .ref (gS G)), (1, .ref (Z.ad rV)), (2, .ref m), (3, .ref (m + 19)), (4, .ref (m + 20)), (5, .int (nI i))] [.int ((nI i) + 2), .ref (gS G), .int (gF G (i + 1)), .ref (Z.ad rV)] rfl ?_
  rw [show (nI i) + 2 = nI (i + 2) from kn_ad rfl rfl]
  refine kx_sldN (i := i + 2) (kx_tk_dec rfl dL_law11) hN (by omega) ?_
  refine kx_rn dL_law11 1 802 [(0, .ref (gS G)), (1, .ref (Z.ad rV)), (2, .ref m), (3, .ref (m + 19)), (4, .ref (m + 20)), (5, .int (nI i))] [.ref (m + 19), .int (gF G (i + 2)), .int (gF G (i + 1)), .ref (Z.ad rV)] rfl ?_
  refine cL_127 (as := [.ref (Z.ad rV), .int (gF G (i + 1)), .int (gF G (i + 2)), .ref (m + 19)]) (st := []) (mc := mc) (ms := ms) (kc := kc) (ks := ks) rfl (kx_tk_dec rfl dL_law11) rfl rfl (Nat.le_of_ble_eq_true rfl) (hC) (fun o h' hq => ?_)
  obtain ⟨k, v, Z', f, rfl, hk10, had, hz, hf, hfv, hr⟩ := hq
  show kx_w _ _ _ _ _ _ _ _ _ _ _
  refine kx_rn dL_law11 6 813 [(0, .ref (gS G)), (1, .ref (Z.ad rV)), (2, .ref m), (3, .ref (m + 19)), (4, .ref (m + 20)), (5, .int (nI i)), (6, .int (nI k))] [.int ((nI i) + 1), .ref (gS G), .ref m] rfl ?_
  rw [show (nI i) + 1 = nI (i + 1) from kn_ad rfl rfl]
  refine kx_sldN (i := i + 1) (kx_tk_dec rfl dL_law11) hN (by omega) ?_
  refine kx_rn dL_law11 4 819 [(0, .ref (gS G)), (1, .ref (Z.ad rV)), (2, .ref m), (3, .ref (m + 19)), (4, .ref (m + 20)), (5, .int (nI i)), (6, .int (nI k))] [.int ((nI i) + 2), .ref (gS G), .int (gF G (i + 1)), .ref m] rfl ?_
  rw [show (nI i) + 2 = nI (i + 2) from kn_ad rfl rfl]
  refine kx_sldN (i := i + 2) (kx_tk_dec rfl dL_law11) hN (by omega) ?_
  refine cL_129 (as := [.int (gF G (i + 1)), .int (gF G (i + 2))]) (st := []) (mc := 0) (ms := 0) (kc := kc) (ks := ks) rfl (kx_tk_dec rfl dL_law11) (a0 hz) rfl rfl (Nat.le_of_ble_eq_true rfl) (hr _ hz) (fun o h' hq => ?_)
  obtain ⟨b, S1, A1, rfl, eh, hS0, hb, hs'⟩ := hq
  have hz2 := cz_ref (S1 := S1) (A1 := A1) hz
  rw [← eh] at hz2
  have hf2 : h'.2 (m + 19) = kLa f := by rw [eh]; exact mH_19.trans hf
  show kx_w _ _ _ _ _ _ _ _ _ _ _
  refine kx_rn dL_law11 2 826 [(0, .ref (gS G)), (1, .ref (Z.ad rV)), (2, .ref m), (3, .ref (m + 19)), (4, .ref (m + 20)), (5, .int (nI i)), (6, .int (nI k)), (7, .int b)] [.ref m] rfl ?_
  refine cL_80 (as := []) (st := []) (mc := 0) (ms := 0) (kc := kc) (ks := ks) rfl (kx_tk_dec rfl dL_law11) (a0 hz2) rfl rfl (Nat.le_of_ble_eq_true rfl) (thr_at hst hz2) (fun o h' hq => ?_)
  obtain ⟨rfl, e3⟩ := hq
  subst e3
  show kx_w _ _ _ _ _ _ _ _ _ _ _
  rw [hS0]
  refine kx_rn dL_law11 1 831 [(0, .ref (gS G)), (1, .ref (Z.ad rV)), (2, .ref m), (3, .ref (m + 19)), (4, .ref (m + 20)), (5, .int (nI i)), (6, .int (nI k)), (7, .int b)] [.int (nI k), .int (nI k)] rfl ?_
  refine kx_ic (tgt := 836) (kx_tk_dec rfl dL_law11) rfl (fun e831 => ?_) (fun e831 => ?_)
  · skip
    replace e831 : nI k = nI k := e831
    replace e831 : k = k := (nI_eq (a := k) (b := k) (by omega) (by omega)).mp e831
    refine kx_rn dL_law12 1 838 [(0, .ref (gS G)), (1, .ref (Z.ad rV)), (2, .ref m), (3, .ref (m + 19)), (4, .ref (m + 20)), (5, .int (nI i)), (6, .int (nI k)), (7, .int b)] [.int (nI k)] rfl ?_
    refine kx_if (tgt := 853) (kx_tk_dec rfl dL_law12) rfl (fun e838 => ?_) (fun e838 => ?_)
    · skip
      replace e838 : ¬ nI k = 0 := e838
      replace e838 : ¬ k = 0 := fun z => e838 ((nI_eq (a := k) (b := 0) (by omega) (by omega)).mpr z)
      refine kx_rn dL_law12 1 1039 [(0, .ref (gS G)), (1, .ref (Z.ad rV)), (2, .ref m), (3, .ref (m + 19)), (4, .ref (m + 20)), (5, .int (nI i)), (6, .int (nI k)), (7, .int b)] [] rfl ?_
      refine kx_lsub (lv' := [(0, .ref (gS G)), (1, .ref (Z.ad rV)), (2, .ref m), (3, .ref (m + 19)), (4, .ref (m + 20)), (5, .int (nI i))]) (.cons₂ _ (.cons₂ _ (.cons₂ _ (.cons₂ _ (.cons₂ _ (.cons₂ _ (.cons _ (.cons _ .slnil)))))))) ?_
      exact K _ _ _ _ had hz2 hs'
    · skip
      replace e838 : nI k = 0 := e838
      replace e838 : k = 0 := (nI_eq (a := k) (b := 0) (by omega) (by omega)).mp e838
      have hbv := hb e838
      subst hbv
      refine kx_rn dL_law12 2 843 [(0, .ref (gS G)), (1, .ref (Z.ad rV)), (2, .ref m), (3, .ref (m + 19)), (4, .ref (m + 20)), (5, .int (nI i)), (6, .int (nI k)), (7, .int b)] [.int 0, .ref (m + 19)] rfl ?_
      refine kx_lldN (kx_tk_dec rfl dL_law12) (i19 hz2 hf2) (hfv e838) ?_
      refine kx_rn dL_law12 2 847 [(0, .ref (gS G)), (1, .ref (Z.ad rV)), (2, .ref m), (3, .ref (m + 19)), (4, .ref (m + 20)), (5, .int (nI i)), (6, .int (nI k)), (7, .int b)] [.long b.toInt64, .long b.toInt64] rfl ?_
      refine kx_lcmpE (kx_tk_dec rfl dL_law12) ?_
      refine kx_if (tgt := 853) (kx_tk_dec rfl dL_law12) rfl (fun e848 => ?_) (fun e848 => ?_)
      · skip
        replace e848 : (0 : Int32) = 0 := e848
        refine kx_rn dL_law12 1 1039 [(0, .ref (gS G)), (1, .ref (Z.ad rV)), (2, .ref m), (3, .ref (m + 19)), (4, .ref (m + 20)), (5, .int (nI i)), (6, .int (nI k)), (7, .int b)] [] rfl ?_
        refine kx_lsub (lv' := [(0, .ref (gS G)), (1, .ref (Z.ad rV)), (2, .ref m), (3, .ref (m + 19)), (4, .ref (m + 20)), (5, .int (nI i))]) (.cons₂ _ (.cons₂ _ (.cons₂ _ (.cons₂ _ (.cons₂ _ (.cons₂ _ (.cons _ (.cons _ .slnil)))))))) ?_
        exact K _ _ _ _ had hz2 hs'
      · skip
        replace e848 : ¬ (0 : Int32) = 0 := e848
        exact absurd (by decide) e848
  · skip
    replace e831 : ¬ nI k = nI k := e831
    replace e831 : ¬ k = k := fun z => e831 ((nI_eq (a := k) (b := k) (by omega) (by omega)).mpr z)
    exfalso; omega
set_option maxRecDepth 100000 in
theorem law_14 (hst : l.stackTraces = false) (hN : gN G ≤ 3584) (hi : i + 7 ≤ gN G) (hZ : cOk G m S A h Z) (hs : sim Z S A) (K : ∀ (Z' : cZ) (S1 : Nat → Int32) (A1 : Nat → Nat → Int32) (h' : kx_H), Z'.ad rV = Z.ad rV → cOk G m S1 A1 h' Z' → sim Z' S1 A1 → kx_w G l mL_law 20 Q kc ks 1039 [(0, .ref (gS G)), (1, .ref (Z.ad rV)), (2, .ref m), (3, .ref (m + 19)), (4, .ref (m + 20)), (5, .int (nI i))] [] h') : kx_w G l mL_law 20 Q (kc + 50) (ks + 1036) 856 [(0, .ref (gS G)), (1, .ref (Z.ad rV)), (2, .ref m), (3, .ref (m + 19)), (4, .ref (m + 20)), (5, .int (nI i))] [] h := by
  obtain ⟨mc, ms, ⟨b1, b2⟩, hC⟩ := stp_mean (c := gF G (i + 1)) hst hZ hs
  refine kx_low (kc' := kc + mc) (ks' := ks + ms) (by omega) (by omega) ?_
  refine kx_rn dL_law12 5 862 [(0, .ref (gS G)), (1, .ref (Z.ad rV)), (2, .ref m), (3, .ref (m + 19)), (4, .ref (m + 20)), (5, .int (nI i))] [.int ((nI i) + 1), .ref (gS G), .ref (Z.ad rV)] rfl ?_
  rw [show (nI i) + 1 = nI (i + 1) from kn_ad rfl rfl]
  refine kx_sldN (i := i + 1) (kx_tk_dec rfl dL_law12) hN (by omega) ?_
  refine kx_rn dL_law12 1 865 [(0, .ref (gS G)), (1, .ref (Z.ad rV)), (2, .ref m), (3, .ref (m + 19)), (4, .ref (m + 20)), (5, .int (nI i))] [.ref (m + 20), .int (gF G (i + 1)), .ref (Z.ad rV)] rfl ?_
  refine cL_130 (as := [.ref (Z.ad rV), .int (gF G (i + 1)), .ref (m + 20)]) (st := []) (mc := mc) (ms := ms) (kc := kc) (ks := ks) rfl (kx_tk_dec rfl dL_law12) rfl rfl (Nat.le_of_ble_eq_true rfl) (hC) (fun o h' hq => ?_)
  obtain ⟨k, v, Z', f, rfl, hk10, had, hz, hf, hfv, hr⟩ := hq
  show kx_w _ _ _ _ _ _ _ _ _ _ _
  refine kx_rn dL_law12 6 876 [(0, .ref (gS G)), (1, .ref (Z.ad rV)), (2, .ref m), (3, .ref (m + 19)), (4, .ref (m + 20)), (5, .int (nI i)), (6, .int (nI k))] [.int ((nI i) + 1), .ref (gS G), .ref m] rfl ?_
  rw [show (nI i) + 1 = nI (i + 1) from kn_ad rfl rfl]
  refine kx_sldN (i := i + 1) (kx_tk_dec rfl dL_law12) hN (by omega) ?_
  refine cL_133 (as := [.int (gF G (i + 1))]) (st := []) (mc := 0) (ms := 0) (kc := kc) (ks := ks) rfl (kx_tk_dec rfl dL_law12) (a0 hz) rfl rfl (Nat.le_of_ble_eq_true rfl) (hr _ hz) (fun o h' hq => ?_)
  obtain ⟨b, S1, A1, rfl, eh, hS0, hb, hs'⟩ := hq
  have hz2 := cz_ref (S1 := S1) (A1 := A1) hz
  rw [← eh] at hz2
  have hf2 : h'.2 (m + 20) = kDa f := by rw [eh]; exact mH_20.trans hf
  show kx_w _ _ _ _ _ _ _ _ _ _ _
  refine kx_rn dL_law12 2 883 [(0, .ref (gS G)), (1, .ref (Z.ad rV)), (2, .ref m), (3, .ref (m + 19)), (4, .ref (m + 20)), (5, .int (nI i)), (6, .int (nI k)), (7, .double b)] [.ref m] rfl ?_
  refine cL_80 (as := []) (st := []) (mc := 0) (ms := 0) (kc := kc) (ks := ks) rfl (kx_tk_dec rfl dL_law12) (a0 hz2) rfl rfl (Nat.le_of_ble_eq_true rfl) (thr_at hst hz2) (fun o h' hq => ?_)
  obtain ⟨rfl, e3⟩ := hq
  subst e3
  show kx_w _ _ _ _ _ _ _ _ _ _ _
  rw [hS0]
  refine kx_rn dL_law12 1 888 [(0, .ref (gS G)), (1, .ref (Z.ad rV)), (2, .ref m), (3, .ref (m + 19)), (4, .ref (m + 20)), (5, .int (nI i)), (6, .int (nI k)), (7, .double b)] [.int (nI k), .int (nI k)] rfl ?_
  refine kx_ic (tgt := 893) (kx_tk_dec rfl dL_law12) rfl (fun e888 => ?_) (fun e888 => ?_)
  · skip
    replace e888 : nI k = nI k := e888
    replace e888 : k = k := (nI_eq (a := k) (b := k) (by omega) (by omega)).mp e888
    refine kx_rn dL_law12 1 895 [(0, .ref (gS G)), (1, .ref (Z.ad rV)), (2, .ref m), (3, .ref (m + 19)), (4, .ref (m + 20)), (5, .int (nI i)), (6, .int (nI k)), (7, .double b)] [.int (nI k)] rfl ?_
    refine kx_if (tgt := 930) (kx_tk_dec rfl dL_law12) rfl (fun e895 => ?_) (fun e895 => ?_)
    · skip
      replace e895 : ¬ nI k = 0 := e895
      replace e895 : ¬ k = 0 := fun z => e895 ((nI_eq (a := k) (b := 0) (by omega) (by omega)).mpr z)
      refine kx_rn dL_law13 1 1039 [(0, .ref (gS G)), (1, .ref (Z.ad rV)), (2, .ref m), (3, .ref (m + 19)), (4, .ref (m + 20)), (5, .int (nI i)), (6, .int (nI k)), (7, .double b)] [] rfl ?_
      refine kx_lsub (lv' := [(0, .ref (gS G)), (1, .ref (Z.ad rV)), (2, .ref m), (3, .ref (m + 19)), (4, .ref (m + 20)), (5, .int (nI i))]) (.cons₂ _ (.cons₂ _ (.cons₂ _ (.cons₂ _ (.cons₂ _ (.cons₂ _ (.cons _ (.cons _ .slnil)))))))) ?_
      exact K _ _ _ _ had hz2 hs'
    · skip
      replace e895 : nI k = 0 := e895
      replace e895 : k = 0 := (nI_eq (a := k) (b := 0) (by omega) (by omega)).mp e895
      have hbv := hb e895
      subst hbv
      refine kx_rn dL_law12 2 901 [(0, .ref (gS G)), (1, .ref (Z.ad rV)), (2, .ref m), (3, .ref (m + 19)), (4, .ref (m + 20)), (5, .int (nI i)), (6, .int (nI k)), (7, .double b)] [.int 0, .ref (m + 20)] rfl ?_
      refine kx_dldN (kx_tk_dec rfl dL_law13) (i20 hz2 hf2) (hfv e895) ?_
      refine kx_rn dL_law13 1 904 [(0, .ref (gS G)), (1, .ref (Z.ad rV)), (2, .ref m), (3, .ref (m + 19)), (4, .ref (m + 20)), (5, .int (nI i)), (6, .int (nI k)), (7, .double b)] [.double b, .double b] rfl ?_
      refine kx_dcmp (kx_tk_dec rfl dL_law13) ?_
      refine kx_if (tgt := 930) (kx_tk_dec rfl dL_law13) rfl (fun e905 => ?_) (fun e905 => ?_)
      · skip
        replace e905 : Op.cmpValue (FP.dcmp b b) .l = 0 := e905
        refine kx_rn dL_law13 1 1039 [(0, .ref (gS G)), (1, .ref (Z.ad rV)), (2, .ref m), (3, .ref (m + 19)), (4, .ref (m + 20)), (5, .int (nI i)), (6, .int (nI k)), (7, .double b)] [] rfl ?_
        refine kx_lsub (lv' := [(0, .ref (gS G)), (1, .ref (Z.ad rV)), (2, .ref m), (3, .ref (m + 19)), (4, .ref (m + 20)), (5, .int (nI i))]) (.cons₂ _ (.cons₂ _ (.cons₂ _ (.cons₂ _ (.cons₂ _ (.cons₂ _ (.cons _ (.cons _ .slnil)))))))) ?_
        exact K _ _ _ _ had hz2 hs'
      · skip
        replace e905 : ¬ Op.cmpValue (FP.dcmp b b) .l = 0 := e905
        refine kx_rn dL_law13 2 911 [(0, .ref (gS G)), (1, .ref (Z.ad rV)), (2, .ref m), (3, .ref (m + 19)), (4, .ref (m + 20)), (5, .int (nI i)), (6, .int (nI k)), (7, .double b)] [.int 0, .ref (m + 20)] rfl ?_
        refine kx_dldN (kx_tk_dec rfl dL_law13) (i20 hz2 hf2) (hfv e895) ?_
        refine kx_rn dL_law13 2 915 [(0, .ref (gS G)), (1, .ref (Z.ad rV)), (2, .ref m), (3, .ref (m + 19)), (4, .ref (m + 20)), (5, .int (nI i)), (6, .int (nI k)), (7, .double b)] [.int 0, .ref (m + 20), .double b] rfl ?_
        refine kx_dldN (kx_tk_dec rfl dL_law13) (i20 hz2 hf2) (hfv e895) ?_
        refine kx_dcmp (kx_tk_dec rfl dL_law13) ?_
        refine kx_if (tgt := 928) (kx_tk_dec rfl dL_law13) rfl (fun e917 => ?_) (fun e917 => ?_)
        · skip
          replace e917 : Op.cmpValue (FP.dcmp b b) .l = 0 := e917
          exact absurd e917 e905
        · skip
          replace e917 : ¬ Op.cmpValue (FP.dcmp b b) .l = 0 := e917
          refine kx_rn dL_law13 2 924 [(0, .ref (gS G)), (1, .ref (Z.ad rV)), (2, .ref m), (3, .ref (m + 19)), (4, .ref (m + 20)), (5, .int (nI i)), (6, .int (nI k)), (7, .double b)] [.double b, .double b] rfl ?_
          refine kx_dcmp (kx_tk_dec rfl dL_law13) ?_
          refine kx_if (tgt := 930) (kx_tk_dec rfl dL_law13) rfl (fun e925 => ?_) (fun e925 => ?_)
          · skip
            replace e925 : ¬ Op.cmpValue (FP.dcmp b b) .l = 0 := e925
            refine kx_rn dL_law13 1 1039 [(0, .ref (gS G)), (1, .ref (Z.ad rV)), (2, .ref m), (3, .ref (m + 19)), (4, .ref (m + 20)), (5, .int (nI i)), (6, .int (nI k)), (7, .double b)] [] rfl ?_
            refine kx_lsub (lv' := [(0, .ref (gS G)), (1, .ref (Z.ad rV)), (2, .ref m), (3, .ref (m + 19)), (4, .ref (m + 20)), (5, .int (nI i))]) (.cons₂ _ (.cons₂ _ (.cons₂ _ (.cons₂ _ (.cons₂ _ (.cons₂ _ (.cons _ (.cons _ .slnil)))))))) ?_
            exact K _ _ _ _ had hz2 hs'
          · skip
            replace e925 : Op.cmpValue (FP.dcmp b b) .l = 0 := e925
            exact absurd e925 e905
  · skip
    replace e888 : ¬ nI k = nI k := e888
    replace e888 : ¬ k = k := fun z => e888 ((nI_eq (a := k) (b := k) (by omega) (by omega)).mpr z)
    exfalso; omega
set_option maxRecDepth 100000 in
theorem law_15 (hst : l.stackTraces = false) (hN : gN G ≤ 3584) (hi : i + 7 ≤ gN G) (hZ : cOk G m S A h Z) (hs : sim Z S A) (K : ∀ (Z' : cZ) (S1 : Nat → Int32) (A1 : Nat → Nat → Int32) (h' : kx_H), Z'.ad rV = Z.ad rV → cOk G m S1 A1 h' Z' → sim Z' S1 A1 → kx_w G l mL_law 20 Q kc ks 1039 [(0, .ref (gS G)), (1, .ref (Z.ad rV)), (2, .ref m), (3, .ref (m + 19)), (4, .ref (m + 20)), (5, .int (nI i))] [] h') : kx_w G l mL_law 20 Q (kc + 50) (ks + 1036) 933 [(0, .ref (gS G)), (1, .ref (Z.ad rV)), (2, .ref m), (3, .ref (m + 19)), (4, .ref (m + 20)), (5, .int (nI i))] [] h := by
  obtain ⟨mc, ms, ⟨b1, b2⟩, hC⟩ := stp_vacuum  hst hZ hs
  refine kx_low (kc' := kc + mc) (ks' := ks + ms) (by omega) (by omega) ?_
  refine kx_rn dL_law13 1 934 [(0, .ref (gS G)), (1, .ref (Z.ad rV)), (2, .ref m), (3, .ref (m + 19)), (4, .ref (m + 20)), (5, .int (nI i))] [.ref (Z.ad rV)] rfl ?_
  refine cL_134 (as := []) (st := []) (mc := mc) (ms := ms) (kc := kc) (ks := ks) rfl (kx_tk_dec rfl dL_law13) (hZ.is rV rfl) rfl rfl (Nat.le_of_ble_eq_true rfl) (hC) (fun o h' hq => ?_)
  obtain ⟨v, Z', rfl, had, hz, hr⟩ := hq
  show kx_w _ _ _ _ _ _ _ _ _ _ _
  refine kx_rn dL_law13 1 938 [(0, .ref (gS G)), (1, .ref (Z.ad rV)), (2, .ref m), (3, .ref (m + 19)), (4, .ref (m + 20)), (5, .int (nI i))] [.ref m, .int v] rfl ?_
  refine cL_137 (as := []) (st := [.int v]) (mc := 0) (ms := 0) (kc := kc) (ks := ks) rfl (kx_tk_dec rfl dL_law13) (a0 hz) rfl rfl (Nat.le_of_ble_eq_true rfl) (hr _ hz) (fun o h' hq => ?_)
  obtain ⟨b, S1, A1, rfl, eh, hS0, hb, hs'⟩ := hq
  have hz2 := cz_ref (S1 := S1) (A1 := A1) hz
  rw [← eh] at hz2
  have hbv := hb rfl
  subst hbv
  show kx_w _ _ _ _ _ _ _ _ _ _ _
  refine kx_ic (tgt := 1039) (kx_tk_dec rfl dL_law13) rfl (fun e941 => ?_) (fun e941 => ?_)
  · skip
    replace e941 : b = b := e941
    exact K _ _ _ _ had hz2 hs'
  · skip
    replace e941 : ¬ b = b := e941
    exact absurd rfl e941
set_option maxRecDepth 100000 in
theorem law_16 (hst : l.stackTraces = false) (hN : gN G ≤ 3584) (hi : i + 7 ≤ gN G) (hZ : cOk G m S A h Z) (hs : sim Z S A) (K : ∀ (Z' : cZ) (S1 : Nat → Int32) (A1 : Nat → Nat → Int32) (h' : kx_H), Z'.ad rV = Z.ad rV → cOk G m S1 A1 h' Z' → sim Z' S1 A1 → kx_w G l mL_law 20 Q kc ks 1039 [(0, .ref (gS G)), (1, .ref (Z.ad rV)), (2, .ref m), (3, .ref (m + 19)), (4, .ref (m + 20)), (5, .int (nI i))] [] h') : kx_w G l mL_law 20 Q (kc + 50) (ks + 1036) 946 [(0, .ref (gS G)), (1, .ref (Z.ad rV)), (2, .ref m), (3, .ref (m + 19)), (4, .ref (m + 20)), (5, .int (nI i))] [] h := by
  obtain ⟨mc, ms, ⟨b1, b2⟩, hC⟩ := stp_versions (k := gF G (i + 1)) (r := gF G (i + 2)) hst hZ hs
  refine kx_low (kc' := kc + mc) (ks' := ks + ms) (by omega) (by omega) ?_
  refine kx_rn dL_law13 5 952 [(0, .ref (gS G)), (1, .ref (Z.ad rV)), (2, .ref m), (3, .ref (m + 19)), (4, .ref (m + 20)), (5, .int (nI i))] [.int ((nI i) + 1), .ref (gS G), .ref (Z.ad rV)] rfl ?_
  rw [show (nI i) + 1 = nI (i + 1) from kn_ad rfl rfl]
  refine kx_sldN (i := i + 1) (kx_tk_dec rfl dL_law13) hN (by omega) ?_
  refine kx_rn dL_law13 4 958 [(0, .ref (gS G)), (1, .ref (Z.ad rV)), (2, .ref m), (3, .ref (m + 19)), (4, .ref (m + 20)), (5, .int (nI i))] [.int ((nI i) + 2), .ref (gS G), .int (gF G (i + 1)), .ref (Z.ad rV)] rfl ?_
  rw [show (nI i) + 2 = nI (i + 2) from kn_ad rfl rfl]
  refine kx_sldN (i := i + 2) (kx_tk_dec rfl dL_law13) hN (by omega) ?_
  refine kx_rn dL_law13 1 960 [(0, .ref (gS G)), (1, .ref (Z.ad rV)), (2, .ref m), (3, .ref (m + 19)), (4, .ref (m + 20)), (5, .int (nI i))] [.ref (m + 19), .int (gF G (i + 2)), .int (gF G (i + 1)), .ref (Z.ad rV)] rfl ?_
  refine cL_138 (as := [.ref (Z.ad rV), .int (gF G (i + 1)), .int (gF G (i + 2)), .ref (m + 19)]) (st := []) (mc := mc) (ms := ms) (kc := kc) (ks := ks) rfl (kx_tk_dec rfl dL_law13) rfl rfl (Nat.le_of_ble_eq_true rfl) (hC) (fun o h' hq => ?_)
  obtain ⟨k, v, Z', f, rfl, hk10, had, hz, hf, hfv, hr⟩ := hq
  show kx_w _ _ _ _ _ _ _ _ _ _ _
  refine kx_rn dL_law13 1 965 [(0, .ref (gS G)), (1, .ref (Z.ad rV)), (2, .ref m), (3, .ref (m + 19)), (4, .ref (m + 20)), (5, .int (nI i)), (6, .int (nI k))] [] rfl ?_
  refine kx_rn dL_law14 5 971 [(0, .ref (gS G)), (1, .ref (Z.ad rV)), (2, .ref m), (3, .ref (m + 19)), (4, .ref (m + 20)), (5, .int (nI i)), (6, .int (nI k))] [.int ((nI i) + 1), .ref (gS G), .ref m] rfl ?_
  rw [show (nI i) + 1 = nI (i + 1) from kn_ad rfl rfl]
  refine kx_sldN (i := i + 1) (kx_tk_dec rfl dL_law14) hN (by omega) ?_
  refine kx_rn dL_law14 4 977 [(0, .ref (gS G)), (1, .ref (Z.ad rV)), (2, .ref m), (3, .ref (m + 19)), (4, .ref (m + 20)), (5, .int (nI i)), (6, .int (nI k))] [.int ((nI i) + 2), .ref (gS G), .int (gF G (i + 1)), .ref m] rfl ?_
  rw [show (nI i) + 2 = nI (i + 2) from kn_ad rfl rfl]
  refine kx_sldN (i := i + 2) (kx_tk_dec rfl dL_law14) hN (by omega) ?_
  refine cL_140 (as := [.int (gF G (i + 1)), .int (gF G (i + 2))]) (st := []) (mc := 0) (ms := 0) (kc := kc) (ks := ks) rfl (kx_tk_dec rfl dL_law14) (a0 hz) rfl rfl (Nat.le_of_ble_eq_true rfl) (hr _ hz) (fun o h' hq => ?_)
  obtain ⟨b, S1, A1, rfl, eh, hS0, hb, hs'⟩ := hq
  have hz2 := cz_ref (S1 := S1) (A1 := A1) hz
  rw [← eh] at hz2
  have hf2 : h'.2 (m + 19) = kLa f := by rw [eh]; exact mH_19.trans hf
  show kx_w _ _ _ _ _ _ _ _ _ _ _
  refine kx_rn dL_law14 2 984 [(0, .ref (gS G)), (1, .ref (Z.ad rV)), (2, .ref m), (3, .ref (m + 19)), (4, .ref (m + 20)), (5, .int (nI i)), (6, .int (nI k)), (7, .int b)] [.ref m] rfl ?_
  refine cL_80 (as := []) (st := []) (mc := 0) (ms := 0) (kc := kc) (ks := ks) rfl (kx_tk_dec rfl dL_law14) (a0 hz2) rfl rfl (Nat.le_of_ble_eq_true rfl) (thr_at hst hz2) (fun o h' hq => ?_)
  obtain ⟨rfl, e3⟩ := hq
  subst e3
  show kx_w _ _ _ _ _ _ _ _ _ _ _
  rw [hS0]
  refine kx_rn dL_law14 1 989 [(0, .ref (gS G)), (1, .ref (Z.ad rV)), (2, .ref m), (3, .ref (m + 19)), (4, .ref (m + 20)), (5, .int (nI i)), (6, .int (nI k)), (7, .int b)] [.int (nI k), .int (nI k)] rfl ?_
  refine kx_ic (tgt := 994) (kx_tk_dec rfl dL_law14) rfl (fun e989 => ?_) (fun e989 => ?_)
  · skip
    replace e989 : nI k = nI k := e989
    replace e989 : k = k := (nI_eq (a := k) (b := k) (by omega) (by omega)).mp e989
    refine kx_rn dL_law14 1 996 [(0, .ref (gS G)), (1, .ref (Z.ad rV)), (2, .ref m), (3, .ref (m + 19)), (4, .ref (m + 20)), (5, .int (nI i)), (6, .int (nI k)), (7, .int b)] [.int (nI k)] rfl ?_
    refine kx_if (tgt := 1011) (kx_tk_dec rfl dL_law14) rfl (fun e996 => ?_) (fun e996 => ?_)
    · skip
      replace e996 : ¬ nI k = 0 := e996
      replace e996 : ¬ k = 0 := fun z => e996 ((nI_eq (a := k) (b := 0) (by omega) (by omega)).mpr z)
      refine kx_rn dL_law14 1 1039 [(0, .ref (gS G)), (1, .ref (Z.ad rV)), (2, .ref m), (3, .ref (m + 19)), (4, .ref (m + 20)), (5, .int (nI i)), (6, .int (nI k)), (7, .int b)] [] rfl ?_
      refine kx_lsub (lv' := [(0, .ref (gS G)), (1, .ref (Z.ad rV)), (2, .ref m), (3, .ref (m + 19)), (4, .ref (m + 20)), (5, .int (nI i))]) (.cons₂ _ (.cons₂ _ (.cons₂ _ (.cons₂ _ (.cons₂ _ (.cons₂ _ (.cons _ (.cons _ .slnil)))))))) ?_
      exact K _ _ _ _ had hz2 hs'
    · skip
      replace e996 : nI k = 0 := e996
      replace e996 : k = 0 := (nI_eq (a := k) (b := 0) (by omega) (by omega)).mp e996
      have hbv := hb e996
      subst hbv
      refine kx_rn dL_law14 2 1001 [(0, .ref (gS G)), (1, .ref (Z.ad rV)), (2, .ref m), (3, .ref (m + 19)), (4, .ref (m + 20)), (5, .int (nI i)), (6, .int (nI k)), (7, .int b)] [.int 0, .ref (m + 19)] rfl ?_
      refine kx_lldN (kx_tk_dec rfl dL_law14) (i19 hz2 hf2) (hfv e996) ?_
      refine kx_rn dL_law14 2 1005 [(0, .ref (gS G)), (1, .ref (Z.ad rV)), (2, .ref m), (3, .ref (m + 19)), (4, .ref (m + 20)), (5, .int (nI i)), (6, .int (nI k)), (7, .int b)] [.long b.toInt64, .long b.toInt64] rfl ?_
      refine kx_lcmpE (kx_tk_dec rfl dL_law14) ?_
      refine kx_if (tgt := 1011) (kx_tk_dec rfl dL_law14) rfl (fun e1006 => ?_) (fun e1006 => ?_)
      · skip
        replace e1006 : (0 : Int32) = 0 := e1006
        refine kx_rn dL_law14 1 1039 [(0, .ref (gS G)), (1, .ref (Z.ad rV)), (2, .ref m), (3, .ref (m + 19)), (4, .ref (m + 20)), (5, .int (nI i)), (6, .int (nI k)), (7, .int b)] [] rfl ?_
        refine kx_lsub (lv' := [(0, .ref (gS G)), (1, .ref (Z.ad rV)), (2, .ref m), (3, .ref (m + 19)), (4, .ref (m + 20)), (5, .int (nI i))]) (.cons₂ _ (.cons₂ _ (.cons₂ _ (.cons₂ _ (.cons₂ _ (.cons₂ _ (.cons _ (.cons _ .slnil)))))))) ?_
        exact K _ _ _ _ had hz2 hs'
      · skip
        replace e1006 : ¬ (0 : Int32) = 0 := e1006
        exact absurd (by decide) e1006
  · skip
    replace e989 : ¬ nI k = nI k := e989
    replace e989 : ¬ k = k := fun z => e989 ((nI_eq (a := k) (b := k) (by omega) (by omega)).mpr z)
    exfalso; omega
set_option maxRecDepth 100000 in
theorem law_17 (hst : l.stackTraces = false) (hN : gN G ≤ 3584) (hi : i + 7 ≤ gN G) (hZ : cOk G m S A h Z) (hs : sim Z S A) (K : ∀ (Z' : cZ) (S1 : Nat → Int32) (A1 : Nat → Nat → Int32) (h' : kx_H), Z'.ad rV = Z.ad rV → cOk G m S1 A1 h' Z' → sim Z' S1 A1 → kx_w G l mL_law 20 Q kc ks 1039 [(0, .ref (gS G)), (1, .ref (Z.ad rV)), (2, .ref m), (3, .ref (m + 19)), (4, .ref (m + 20)), (5, .int (nI i))] [] h') : kx_w G l mL_law 20 Q (kc + 50) (ks + 1036) 1014 [(0, .ref (gS G)), (1, .ref (Z.ad rV)), (2, .ref m), (3, .ref (m + 19)), (4, .ref (m + 20)), (5, .int (nI i))] [] h := by
  obtain ⟨mc, ms, ⟨b1, b2⟩, hC⟩ := stp_count (x := gF G (i + 1)) hst hZ hs
  refine kx_low (kc' := kc + mc) (ks' := ks + ms) (by omega) (by omega) ?_
  refine kx_rn dL_law14 5 1020 [(0, .ref (gS G)), (1, .ref (Z.ad rV)), (2, .ref m), (3, .ref (m + 19)), (4, .ref (m + 20)), (5, .int (nI i))] [.int ((nI i) + 1), .ref (gS G), .ref (Z.ad rV)] rfl ?_
  rw [show (nI i) + 1 = nI (i + 1) from kn_ad rfl rfl]
  refine kx_sldN (i := i + 1) (kx_tk_dec rfl dL_law14) hN (by omega) ?_
  refine cL_141 (as := [.int (gF G (i + 1))]) (st := []) (mc := mc) (ms := ms) (kc := kc) (ks := ks) rfl (kx_tk_dec rfl dL_law14) (hZ.is rV rfl) rfl rfl (Nat.le_of_ble_eq_true rfl) (hC) (fun o h' hq => ?_)
  obtain ⟨v, Z', rfl, had, hz, hr⟩ := hq
  show kx_w _ _ _ _ _ _ _ _ _ _ _
  refine kx_rn dL_law14 2 1026 [(0, .ref (gS G)), (1, .ref (Z.ad rV)), (2, .ref m), (3, .ref (m + 19)), (4, .ref (m + 20)), (5, .int (nI i))] [.ref (gS G), .ref m, .int v] rfl ?_
  refine kx_rn dL_law15 3 1030 [(0, .ref (gS G)), (1, .ref (Z.ad rV)), (2, .ref m), (3, .ref (m + 19)), (4, .ref (m + 20)), (5, .int (nI i))] [.int ((nI i) + 1), .ref (gS G), .ref m, .int v] rfl ?_
  rw [show (nI i) + 1 = nI (i + 1) from kn_ad rfl rfl]
  refine kx_sldN (i := i + 1) (kx_tk_dec rfl dL_law15) hN (by omega) ?_
  refine cL_144 (as := [.int (gF G (i + 1))]) (st := [.int v]) (mc := 0) (ms := 0) (kc := kc) (ks := ks) rfl (kx_tk_dec rfl dL_law15) (a0 hz) rfl rfl (Nat.le_of_ble_eq_true rfl) (hr _ hz) (fun o h' hq => ?_)
  obtain ⟨b, S1, A1, rfl, eh, hS0, hb, hs'⟩ := hq
  have hz2 := cz_ref (S1 := S1) (A1 := A1) hz
  rw [← eh] at hz2
  have hbv := hb rfl
  subst hbv
  show kx_w _ _ _ _ _ _ _ _ _ _ _
  refine kx_ic (tgt := 1039) (kx_tk_dec rfl dL_law15) rfl (fun e1034 => ?_) (fun e1034 => ?_)
  · skip
    replace e1034 : b = b := e1034
    exact K _ _ _ _ had hz2 hs'
  · skip
    replace e1034 : ¬ b = b := e1034
    exact absurd rfl e1034
end KL1
