/-! ===== select ===== -/
section KS6
variable {G : kx_G} {l : Launch} {m : Nat} {S S1 : Nat → Int32} {A A1 : Nat → Nat → Int32} {h : kx_H} {Z Z' : cZ} {bg ln rs : Nat} {MD SC CL : Nat → Nat} {PI : Nat → List Int32}
theorem mt_eq (hT : sTr Z S A bg) (hV : sVr Z A bg MD) (hP : sPr Z A PI) (hw : cWf Z) (tn kn : Nat) : mMt Z.V (A 6) (A 5) (pP PI 0) (PI 0).length tn kn = cMt Z (PI 0) tn kn := funext fun r => by
  unfold mMt cMt
  rw [vd_eq hT hV hP hw]
/-- the values that a chosen row shows -/
theorem vl_eq (hV : sVr Z A bg MD) {tn kn r : Nat} (hm : cMt Z (PI 0) tn kn r = true) : ∀ c, c < 4 → mVals Z.V (A 5) tn kn r c = cVl Z tn kn r c := fun c hc => by
  have z := vdC_1 (of_decide_eq_true hm)
  exact hV.vals z.1 z.2 c hc
theorem cFr_wA {sc2 ia2 : cR → Nat → Int32} (hc : cFr Z sc2 ia2) (hs : sim Z S A) : sim (Z.wA sc2 ia2) S A := sim_cls (Z' := Z.wA sc2 ia2) hs (uFr_of_c hc) rfl rfl rfl rfl rfl
theorem uFr_wA {sc2 ia2 : cR → Nat → Int32} (hc : uFr Z sc2 ia2) (hs : sim Z S A) : sim (Z.wA sc2 ia2) S A := sim_cls (Z' := Z.wA sc2 ia2) hs hc rfl rfl rfl rfl rfl
def lkP (G : kx_G) (m : Nat) (S : Nat → Int32) (A : Nat → Nat → Int32) (Z : cZ) (h' : kx_H) : Prop := ∃ sc2 ia2, cOk G m S A h' (Z.wA sc2 ia2) ∧ cFr Z sc2 ia2
def selP (G : kx_G) (m : Nat) (S : Nat → Int32) (A : Nat → Nat → Int32) (Z : cZ) (es : List Int32) (tn k md sc : Nat) (v : Int32) (h' : kx_H) : Prop := v = nI (selL (cMt Z es tn k) md).length ∧ ∃ sc2 ia2 V2, cOk G m S A h' ((((Z.wA sc2 ia2).sS (rTab k) 3 (nI (max sc tn))).wV V2).sF) ∧ cFr Z sc2 ia2 ∧ chs Z sc2 ia2 (selL (cMt Z es tn k) md) (cVl Z tn k) ∧ ∀ v, V2 v = mrk Z.V k md tn v
theorem stp_select {t k : Int32} (hst : l.stackTraces = false) (hZ : cOk G m S A h Z) (hs : sim Z S A) : ∃ mc ms, nCl mc ms ∧ kx_c G l mL_select 19 mc ms [.ref (Z.ad rV), .int t, .int k, .ref (m + 19)] h (oQi G l m S A Z mM_select [.ref m, .int t, .int k]) := by
  have hs0 := hs
  obtain ⟨bg, ln, rs, MD, SC, CL, PI, hT, hL, hB, hV, hP, hR⟩ := hs
  have hM : ∀ h', mOk G h' m → kx_c G l mM_select 19 0 0 [.ref m, .int t, .int k] (mH h' m S A) (selQ h' m S A Z.V (pP PI) (fun i => (PI i).length) MD SC bg t k) := fun h' hm => cM_select (l := l) (t := t) (k := k) (d := 16) (S := S) (A := A) hst hm hT.2.2.1 hT.2.1 hB.2.2.2.1 hB.2.2.2.2.1 hB.2.2.2.2.2.1 hB.2.2.2.2.2.2.1 hV.1 hZ.wf.low hP.prog
  have hx := hZ.is rV rfl
  have hb40 := hT.2.1
  have vd := fun tn q => vd_eq hT hV hP hZ.wf tn q
  by_cases e1 : cOp Z bg t
  · have e0 := e1
    obtain ⟨tn, t1, t2, rfl, t3⟩ := e1
    by_cases e2 : cTb Z k
    · have e2' := e2
      obtain ⟨kn, hk, rfl, ht⟩ := e2
      obtain ⟨n1, n2, n3, n4, n5, n6, n7⟩ := hB.1 kn hk ht
      have both : mOp A bg (nI tn) ∧ mTb A (nI kn) := ⟨(op_iff hT hZ.wf _).mpr e0, (tb_iff hB _).mpr e2'⟩
      have key : ∀ (k2 : Nat) (v2 : Int32) (Z2 : cZ), (∀ (o2 : Outcome) (S1 : Nat → Int32) (A1 : Nat → Nat → Int32), ((S1 0 = 2 ∧ o2 = .returned (some (.int 0)) ∧ (∃ r, r < MD kn ∧ vdC Z (PI 0) tn (24 * kn + r) = 2 ∧ ∀ p, p < r → vdC Z (PI 0) tn (24 * kn + p) ≤ 1) ∧ (∀ k, k ≠ 0 → k ≠ 22 → S1 k = S k) ∧ (∀ k, k ≠ 12 → k ≠ 16 → k ≠ 18 → A1 k = A k)) ∨ (S1 0 = 3 ∧ o2 = .returned (some (.int 0)) ∧ (∃ r, r < MD kn ∧ vdC Z (PI 0) tn (24 * kn + r) = 3 ∧ ∀ p, p < r → vdC Z (PI 0) tn (24 * kn + p) ≤ 1) ∧ (∀ k, k ≠ 0 → k ≠ 22 → S1 k = S k) ∧ (∀ k, k ≠ 12 → k ≠ 16 → k ≠ 18 → A1 k = A k)) ∨ ((∀ r, r < MD kn → vdC Z (PI 0) tn (24 * kn + r) ≤ 1) ∧ o2 = .returned (some (.int (nI (cnt (cMt Z (PI 0) tn kn) (MD kn))))) ∧ S1 0 = 0 ∧ S1 25 = nI (cnt (cMt Z (PI 0) tn kn) (MD kn)) ∧ (∀ k, k ≠ 0 → k ≠ 22 → k ≠ 25 → S1 k = S k) ∧ (∀ k, k ≠ 12 → k ≠ 16 → k ≠ 18 → k ≠ 3 → k ≠ 4 → k ≠ 14 → k ≠ 15 → A1 k = A k) ∧ A1 3 = va_up (A 3) kn (nI (max (SC kn) tn)) ∧ (∃ U : Nat → Nat, (∀ v, A1 4 v = nI (U v)) ∧ (∀ v, U v < 256) ∧ ∀ q w, w < 40 → U (40 * q + w) = vMark Z.V (hwq Z.V tn) kn tn (MD kn) q w) ∧ ∀ r, r < MD kn → cMt Z (PI 0) tn kn r = true → A1 14 (cnt (cMt Z (PI 0) tn kn) r) = nI r ∧ ∀ c, c < 4 → A1 15 (4 * cnt (cMt Z (PI 0) tn kn) r + c) = A 5 (4 * (40 * (24 * kn + r) + (hwq Z.V tn (24 * kn + r) - 1)) + c))) → ∃ b : Int32, o2 = .returned (some (.int b)) ∧ S1 0 = nI k2 ∧ (k2 = 0 → b = v2) ∧ sim Z2 S1 A1) → rQi G l m S A mM_select [.ref m, .int (nI tn), .int (nI kn)] Z2 k2 v2 := by
        intro k2 v2 Z2 hq
        refine rQi_of hM ?_
        rintro h' o2 h2 hw (⟨y, -⟩ | ⟨tn', kn', u1, u2, u3, u4, u5, u6, u7, S1, A1, rfl, y⟩)
        · exact absurd both y
        · have := nI_small (by omega) (by omega) u6
          subst this
          have := nI_small (by omega) (by omega) u3
          subst this
          rw [mt_eq hT hV hP hZ.wf] at y
          simp only [vd] at y
          obtain ⟨b, b1, b2, b3, b4⟩ := hq o2 S1 A1 y
          exact ⟨b, S1, A1, b1, rfl, b2, b3, b4⟩
      rcases fst_bad (fun r => vdC Z (PI 0) tn (24 * kn + r)) (MD kn) with hall | ⟨r0, hr0, hlow, hbad⟩
      · have hC : kx_c G l mV_select 18 0 0 [.ref (Z.ad rV), .int (nI tn), .int (nI kn)] h (fun o h' => ∃ v : Int32, o = .returned (some (.int v)) ∧ selP G m S A Z (PI 0) tn kn (MD kn) (SC kn) v h') := kx_cc (fun o h' hq => ⟨_, hq.1, rfl, hq.2⟩) (cV_select0 (d := 12) hst hZ hk ht n4 n5 hT.1 hT.2.1 t1 t2 t3 hP.2.1 hP.1 hP.2.2.1 n6 n7 hall)
        refine ⟨0, 0, ⟨by decide, by decide⟩, kx_cc ?_ (cL_select_r (d := 18) (a := m + 19) (Pq := selP G m S A Z (PI 0) tn kn (MD kn) (SC kn)) (fun v h1 hp => by obtain ⟨-, sc2, ia2, V2, hz, -⟩ := hp; exact a19 hz) hst hx hC)⟩
        rintro o h' ⟨v, h1, f, rfl, ⟨rfl, sc2, ia2, V2, hz, hfr, hch, hV2⟩, hf, rfl⟩
        refine oQi_r hz rfl (key 0 _ _ ?_)
        rintro o2 S1 A1 (⟨-, -, ⟨r, y1, y2, -⟩, -⟩ | ⟨-, -, ⟨r, y1, y2, -⟩, -⟩ | ⟨-, rfl, s0, s25, sS, sA, a3, ⟨U, hU, -, hU2⟩, hres⟩)
        · have z : vdC Z (PI 0) tn (24 * kn + r) ≤ 1 := hall r y1
          omega
        · have z : vdC Z (PI 0) tn (24 * kn + r) ≤ 1 := hall r y1
          omega
        · obtain ⟨g1, g2, g3, g4, g5, g6⟩ := simX_cls (Z' := Z.wA sc2 ia2) ⟨hT, hL, hB, hV, hP, hR⟩ (uFr_of_c hfr) rfl rfl rfl rfl rfl
          have hlen : cnt (cMt Z (PI 0) tn kn) (MD kn) ≤ 24 := Nat.le_trans (cnt_le _ _) n5
          have hUV : ∀ v, U v = mrk Z.V kn (MD kn) tn v := fun v => by
            have := hU2 (v / 40) (v % 40) (Nat.mod_lt _ (by decide))
            rw [dm40, mrk_eq] at this; exact this
          refine ⟨_, rfl, s0, fun _ => by rw [selL_len], bg, ln, cnt (cMt Z (PI 0) tn kn) (MD kn), MD, va_up SC kn (max (SC kn) tn), CL, PI, g1.of rfl ?_ rfl (sS _ (by decide) (by decide) (by decide)) (sS _ (by decide) (by decide) (by decide)) (sA _ (by decide) (by decide) (by decide) (by decide) (by decide) (by decide) (by decide)), g2.of ?_ rfl rfl (sS _ (by decide) (by decide) (by decide)) (sS _ (by decide) (by decide) (by decide)) (sA _ (by decide) (by decide) (by decide) (by decide) (by decide) (by decide) (by decide)), g3.scan hk ht (by omega) (fun _ => rfl) (fun _ => rfl) (zs_eq (Z := Z.wA sc2 ia2)) (fun j hj => zs_ne (Z := Z.wA sc2 ia2) (ρ := rTab kn) (fun z => hj (congrArg Prod.snd z))) rfl (sA _ (by decide) (by decide) (by decide) (by decide) (by decide) (by decide) (by decide)) (sA _ (by decide) (by decide) (by decide) (by decide) (by decide) (by decide) (by decide)) a3, ⟨fun v => ?_, fun v hv => ?_, fun v hv => ?_, fun v hv hg c hc => ?_⟩, g5.of (fun _ => rfl) (fun _ => rfl) rfl (sA _ (by decide) (by decide) (by decide) (by decide) (by decide) (by decide) (by decide)) (sA _ (by decide) (by decide) (by decide) (by decide) (by decide) (by decide) (by decide)) (sA _ (by decide) (by decide) (by decide) (by decide) (by decide) (by decide) (by decide)), ⟨s25, hlen, ?_, fun i hi => ?_⟩⟩
          · rfl
          · exact zs_ne (Z := Z.wA sc2 ia2) (ρ := rTab kn) (σ := rV) (j := 3) (k := 3) (x := nI (max (SC kn) tn)) (fun z => absurd (congrArg Prod.fst z) (show (0 : Nat) ≠ 14 by decide))
          · rw [hU v, hUV v]; exact congrArg nI (hV2 v).symm
          · have hv2 : ¬ V2 v = 0 := hv
            rw [hV2 v] at hv2
            exact g4.2.1 v (mrk_0 hv2)
          · have hv2 : ¬ V2 v = 0 := hv
            rw [hV2 v] at hv2
            exact g4.2.2.1 v (mrk_0 hv2)
          · have hv2 : ¬ V2 v = 0 := hv
            have hg2 : V2 v / 2 % 2 = 0 := hg
            rw [hV2 v] at hv2 hg2
            rw [mrk_g] at hg2
            rw [sA 5 (by decide) (by decide) (by decide) (by decide) (by decide) (by decide) (by decide)]
            exact g4.2.2.2 v (mrk_0 hv2) hg2 c hc
          · show ((Z.wA sc2 ia2).sS (rTab kn) 3 (nI (max (SC kn) tn))).sc (rRs (1 - Z.fi)) 2 = _
            rw [zs_nj (show (2 : Nat) ≠ 3 by decide), ← selL_len]
            exact hch.1
          · show A1 14 i = ia2 (rNum (1 - Z.fi)) i ∧ ∀ c, c < 4 → A1 15 (4 * i + c) = ia2 (rInn (24 * (1 - Z.fi) + i)) c
            have hi2 : i < (selL (cMt Z (PI 0) tn kn) (MD kn)).length := by rw [selL_len]; exact hi
            have hi3 : (selL (cMt Z (PI 0) tn kn) (MD kn))[i]? = some (selL (cMt Z (PI 0) tn kn) (MD kn))[i] := List.getElem?_eq_getElem hi2
            generalize (selL (cMt Z (PI 0) tn kn) (MD kn))[i] = r at hi3
            obtain ⟨b1, b2⟩ := selL_lt hi3
            have b3 := selL_cnt hi3
            obtain ⟨c1, c2⟩ := hch.2 i r hi3
            obtain ⟨d1, d2⟩ := hres r b1 b2
            rw [b3] at d1 d2
            refine ⟨d1.trans c1.symm, fun c hc => ?_⟩
            rw [d2 c hc, c2 c hc]
            exact vl_eq hV b2 c hc
      · have hb3 := vdC_le Z (PI 0) tn (24 * kn + r0)
        have hbad' : 1 < vdC Z (PI 0) tn (24 * kn + r0) := hbad
        by_cases e5 : vdC Z (PI 0) tn (24 * kn + r0) = 2
        · refine ⟨1, 6, ⟨by decide, by decide⟩, kx_cc ?_ (cL_select_10 (d := 18) (Pq := lkP G m S A Z) hst hx (cV_select3 (d := 12) hst hZ hk ht n4 n5 hT.1 hT.2.1 t1 t2 t3 hP.2.1 hP.1 hP.2.2.1 hr0 hlow e5))⟩
          rintro o h' ⟨rfl, sc2, ia2, hz, hfr⟩
          refine oQi_t 2 (by decide) (by decide) hz rfl (key 2 0 _ ?_)
          rintro o2 S1 A1 (⟨s0, rfl, -, sS, sA⟩ | ⟨-, -, ⟨r, y1, y2, y3⟩, -⟩ | ⟨y, -⟩)
          · exact ⟨0, rfl, s0, fun z => absurd z (by decide), sim_look (cFr_wA hfr hs0) sS (fun k a b _ c => sA k a b c)⟩
          · have := fst_un (f := fun r => vdC Z (PI 0) tn (24 * kn + r)) y3 (by show 1 < vdC Z (PI 0) tn (24 * kn + r); omega) hlow hbad
            subst this; omega
          · have := y r0 hr0; omega
        · have e6 : vdC Z (PI 0) tn (24 * kn + r0) = 3 := by omega
          refine ⟨1, 6, ⟨by decide, by decide⟩, kx_cc ?_ (cL_select_13 (d := 18) (Pq := lkP G m S A Z) hst hx (cV_select4 (d := 12) hst hZ hk ht n4 n5 hT.1 hT.2.1 t1 t2 t3 hP.2.1 hP.1 hP.2.2.1 hr0 hlow e6))⟩
          rintro o h' ⟨rfl, sc2, ia2, hz, hfr⟩
          refine oQi_t 3 (by decide) (by decide) hz rfl (key 3 0 _ ?_)
          rintro o2 S1 A1 (⟨-, -, ⟨r, y1, y2, y3⟩, -⟩ | ⟨s0, rfl, -, sS, sA⟩ | ⟨y, -⟩)
          · have := fst_un (f := fun r => vdC Z (PI 0) tn (24 * kn + r)) y3 (by show 1 < vdC Z (PI 0) tn (24 * kn + r); omega) hlow hbad
            subst this; omega
          · exact ⟨0, rfl, s0, fun z => absurd z (by decide), sim_look (cFr_wA hfr hs0) sS (fun k a b _ c => sA k a b c)⟩
          · have := y r0 hr0; omega
    · refine ⟨1, 6, ⟨by decide, by decide⟩, kx_cc ?_ (cL_select_11 (d := 18) (Pq := fun h' => cOk G m S A h' Z) hst hx (cV_select2 (d := 12) hst hZ hT.1 hT.2.1 t1 t2 t3 e2))⟩
      rintro o h' ⟨rfl, hz⟩
      refine oQi_t 1 (by decide) (by decide) hz rfl (rQi_of hM ?_)
      rintro h' o2 h2 hw (⟨-, rfl, rfl⟩ | ⟨tn', kn', u1, u2, u3, u4, u5, u6, u7, -⟩)
      · exact ⟨_, _, _, rfl, rfl, rfl, fun z => absurd z (by decide), sim_S0 hs0⟩
      · exact absurd ((tb_iff hB _).mp ⟨kn', u5, u6, u7⟩) e2
  · refine ⟨1, 6, ⟨by decide, by decide⟩, kx_cc ?_ (cL_select_11 (d := 18) (Pq := fun h' => cOk G m S A h' Z) hst hx (cV_select1 (d := 12) hst hZ hT.1 hT.2.1 e1))⟩
    rintro o h' ⟨rfl, hz⟩
    refine oQi_t 1 (by decide) (by decide) hz rfl (rQi_of hM ?_)
    rintro h' o2 h2 hw (⟨-, rfl, rfl⟩ | ⟨tn', kn', u1, u2, u3, u4, u5, -⟩)
    · exact ⟨_, _, _, rfl, rfl, rfl, fun z => absurd z (by decide), sim_S0 hs0⟩
    · exact absurd ((op_iff hT hZ.wf _).mp ⟨tn', u1, u2, u3, u4⟩) e1
end KS6
