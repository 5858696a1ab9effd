/-! ===== delete ===== -/
section KS7
variable {G : kx_G} {l : Launch} {m : Nat} {S S1 : Nat → Int32} {A A1 : Nat → Nat → Int32} {h : kx_H} {Z Z' : cZ} {bg ln rs : Nat} {MD SC CL : Nat → Nat} {PI : Nat → List Int32}
/-- rows written -/
theorem sim_wr {tn kn : Nat} {sc3 ia3 : cR → Nat → Int32} {V2 : Nat → Nat} {gn : Bool} {news : Nat → Int32} {mt : Nat → Bool} (hX : simX Z S A bg ln rs MD SC CL PI) (hk : kn < 3) (ht : Z.tb kn = true) (t1 : 1 ≤ tn) (t2 : tn ≤ bg) (hu : uFr Z sc3 ia3) (hzw : zW (((Z.wA sc3 ia3).sS (rTab kn) 3 (nI (max (SC kn) tn))).wV V2) Z') (hwr : zWr (Z.wA sc3 ia3) V2 Z' (selL mt (MD kn)) kn tn (selL mt (MD kn)).length gn) (hV2 : ∀ v, V2 v = mrk Z.V kn (MD kn) tn v)
    (hvw : vWrote (vMark Z.V (hwq Z.V tn) kn tn (MD kn)) (A 5) news mt kn tn (MD kn) gn (A1 4) (A1 5)) (hval : gn = false → ∀ j r : Nat, (selL mt (MD kn))[j]? = some r → ∀ c, c < 4 → news (4 * r + c) = ia3 (rInn (24 * (1 - Z.fi) + j)) c)
    (c7 : S1 7 = S 7) (c8 : S1 8 = S 8) (d0 : S1 10 = S 10) (d1 : S1 11 = S 11) (d25 : S1 25 = S 25) (a1 : A1 1 = A 1) (a2 : A1 2 = A 2) (a3 : A1 3 = va_up (A 3) kn (nI (max (SC kn) tn))) (a6 : A1 6 = A 6) (a7 : A1 7 = A 7) (a8 : A1 8 = A 8) (a9 : A1 9 = A 9) (a10 : A1 10 = A 10) (a14 : A1 14 = A 14) (a15 : A1 15 = A 15) : sim Z' S1 A1 := by
  obtain ⟨g1, g2, g3, g4, g5, g6⟩ := simX_cls (Z' := Z.wA sc3 ia3) hX hu rfl rfl rfl rfl rfl
  obtain ⟨w1, w2, w3, w4, w5, w6, w7⟩ := hzw
  obtain ⟨U, hU1, -, hU2, hU3⟩ := hvw
  have b40 := g1.2.1
  have md24 := g3.2.2.2.2.1 kn
  have hitL : ∀ v, vHit mt kn tn (MD kn) (v / 40) (v % 40) → ∃ j r : Nat, (selL mt (MD kn))[j]? = some r ∧ j < (selL mt (MD kn)).length ∧ v = 40 * (24 * kn + r) + (tn - 1) ∧ r < MD kn ∧ r = v / 40 - 24 * kn := by
    rintro v ⟨b1, b2, b3, b4⟩
    obtain ⟨j, hj⟩ := selL_has (n := MD kn) (r := v / 40 - 24 * kn) (by omega) b3
    refine ⟨j, _, hj, (List.getElem?_eq_some_iff.mp hj).1, ?_, by omega, rfl⟩
    have := dm40 v
    omega
  have nhit : ∀ v, ¬ vHit mt kn tn (MD kn) (v / 40) (v % 40) → ∀ j r : Nat, j < (selL mt (MD kn)).length → (selL mt (MD kn))[j]? = some r → v ≠ 40 * (24 * kn + r) + (tn - 1) := by
    intro v hn j r _ hj e
    obtain ⟨y1, y2⟩ := selL_lt hj
    refine hn ⟨by omega, by omega, ?_, by omega⟩
    rw [show v / 40 - 24 * kn = r by omega]; exact y2
  have hUV : ∀ v, Z'.V v = U v := fun v => by
    have u := hU2 (v / 40) (v % 40) (Nat.mod_lt _ (by decide))
    rw [dm40, mrk_eq, ← hV2 v] at u
    by_cases e : vHit mt kn tn (MD kn) (v / 40) (v % 40)
    · obtain ⟨j, r, y1, y2, y3, -, -⟩ := hitL v e
      have := (hwr.1 j r y2 y1).1
      rw [← y3] at this
      rw [this, u.1 e]
    · rw [(hwr.2 v (nhit v e)).1, u.2 e]
  refine ⟨bg, ln, rs, MD, va_up SC kn (max (SC kn) tn), CL, PI, g1.of (congrFun (congrFun w2 rTr) 1) (congrFun (congrFun w2 rTr) 2) w6 c7 c8 a6, g2.of ?_ (congrFun (congrFun w2 rV) 4) (w3 4 0 (by decide)) d0 d1 a7, g3.scan hk ht (by omega) (fun j => congrFun (congrFun w2 (rTab j)) 0) (fun j => congrFun (congrFun w2 (rTab j)) 2) ?_ (fun j hj => ?_) w4 a1 a2 a3, ⟨fun v => ?_, fun v hv => ?_, fun v hv => ?_, fun v hv hg c hc => ?_⟩, g5.of (fun i => congrFun (congrFun w2 (rPrg i)) 2) (fun i => w3 8 i (by decide)) w5 a8 a9 a10, g6.of (congrFun (congrFun w2 (rRs Z.fi)) 2) (w3 11 _ (by decide)) (fun i _ => w3 13 _ (by decide)) w7 d25 a14 a15⟩
  · exact (congrFun (congrFun w2 rV) 3).trans (zs_ne (Z := Z.wA sc3 ia3) (ρ := rTab kn) (σ := rV) (j := 3) (k := 3) (x := nI (max (SC kn) tn)) (fun z => absurd (congrArg Prod.fst z) (show (0 : Nat) ≠ 14 by decide)))
  · exact (congrFun (congrFun w2 (rTab kn)) 3).trans (zs_eq (Z := Z.wA sc3 ia3))
  · exact (congrFun (congrFun w2 (rTab j)) 3).trans (zs_ne (Z := Z.wA sc3 ia3) (ρ := rTab kn) (σ := rTab j) (j := 3) (k := 3) (x := nI (max (SC kn) tn)) (fun z => hj (congrArg Prod.snd z)))
  · rw [hU1 v, hUV v]
  · by_cases e : vHit mt kn tn (MD kn) (v / 40) (v % 40)
    · obtain ⟨j, r, -, -, y3, y4, y5⟩ := hitL v e
      have q1 : v / 40 % 24 = r := by omega
      have q2 : v / 960 = kn := by omega
      rw [q1, q2]; exact y4
    · rw [(hwr.2 v (nhit v e)).1, hV2 v] at hv
      exact g4.2.1 v (mrk_0 hv)
  · by_cases e : vHit mt kn tn (MD kn) (v / 40) (v % 40)
    · rw [e.2.2.2]; exact t2
    · rw [(hwr.2 v (nhit v e)).1, hV2 v] at hv
      exact g4.2.2.1 v (mrk_0 hv)
  · have u := hU3 (v / 40) (v % 40) c (Nat.mod_lt _ (by decide)) hc
    rw [dm40] at u
    by_cases e : vHit mt kn tn (MD kn) (v / 40) (v % 40)
    · obtain ⟨j, r, y1, y2, y3, y4, y5⟩ := hitL v e
      have z := hwr.1 j r y2 y1
      rw [← y3] at z
      cases gn with
      | true =>
        rw [z.1] at hg
        unfold vWr at hg
        rw [if_pos rfl] at hg
        omega
      | false =>
        rw [u.1 e, z.2 c hc, ← y5]
        exact hval rfl j r y1 c hc
    · obtain ⟨z1, z2⟩ := hwr.2 v (nhit v e)
      rw [z1, hV2 v] at hv hg
      rw [mrk_g] at hg
      rw [u.2 e, z2]
      exact g4.2.2.2 v (mrk_0 hv) hg c hc
theorem late_iff {es : List Int32} {tn kn md : Nat} : mLate Z.V (cMt Z es tn kn) tn kn md ↔ ∃ (i r : Nat), (selL (cMt Z es tn kn) md)[i]? = some r ∧ ¬ hwq Z.V tn (24 * kn + r) = 0 ∧ tn < Z.V (40 * (24 * kn + r) + (hwq Z.V tn (24 * kn + r) - 1)) / 4 := by
  constructor
  · rintro ⟨r, h1, h2, h3⟩
    obtain ⟨i, hi⟩ := selL_has h1 h2
    exact ⟨i, r, hi, (vdC_1 (of_decide_eq_true h2)).1, h3⟩
  · rintro ⟨i, r, h1, -, h3⟩
    obtain ⟨y1, y2⟩ := selL_lt h1
    exact ⟨r, y1, y2, h3⟩
def ltP (G : kx_G) (m : Nat) (S : Nat → Int32) (A : Nat → Nat → Int32) (Z : cZ) (tn : Nat) (h' : kx_H) : Prop := ∃ sc2 ia2 V2, cOk G m S A h' ((((Z.wA sc2 ia2).sT tn 3).wV V2).sS rTr 2 (Z.sc rTr 2 + 1)) ∧ uFr Z sc2 ia2 ∧ ∀ v, V2 v = vBrk Z.V tn v
def delP (G : kx_G) (m : Nat) (S : Nat → Int32) (A : Nat → Nat → Int32) (Z : cZ) (es : List Int32) (tn k md sc : Nat) (v : Int32) (h' : kx_H) : Prop := v = nI (selL (cMt Z es tn k) md).length ∧ ∃ sc2 ia2 V2 Z', cOk G m S A h' Z' ∧ cFr Z sc2 ia2 ∧ chs Z sc2 ia2 (selL (cMt Z es tn k) md) (cVl Z tn k) ∧ zW (((Z.wA sc2 ia2).sS (rTab k) 3 (nI (max sc tn))).wV V2) Z' ∧ zWr (Z.wA sc2 ia2) V2 Z' (selL (cMt Z es tn k) md) k tn (selL (cMt Z es tn k) md).length true ∧ ∀ v, V2 v = mrk Z.V k md tn v
def delY (S : Nat → Int32) (A : Nat → Nat → Int32) (Z : cZ) (es : List Int32) (tn kn md sc : Nat) (o : Outcome) (S1 : Nat → Int32) (A1 : Nat → Nat → Int32) : Prop := (S1 0 = 2 ∧ o = .returned (some (.int 0)) ∧ (∃ r, r < md ∧ vdC Z es tn (24 * kn + r) = 2 ∧ ∀ p, p < r → vdC Z es tn (24 * kn + p) ≤ 1) ∧ (∀ k, k ≠ 0 → k ≠ 22 → S1 k = S k) ∧ (∀ k, k ≠ 12 → k ≠ 16 → k ≠ 17 → k ≠ 18 → A1 k = A k)) ∨ (S1 0 = 3 ∧ o = .returned (some (.int 0)) ∧ (∃ r, r < md ∧ vdC Z es tn (24 * kn + r) = 3 ∧ ∀ p, p < r → vdC Z es tn (24 * kn + p) ≤ 1) ∧ (∀ k, k ≠ 0 → k ≠ 22 → S1 k = S k) ∧ (∀ k, k ≠ 12 → k ≠ 16 → k ≠ 17 → k ≠ 18 → A1 k = A k)) ∨ ((∀ r, r < md → vdC Z es tn (24 * kn + r) ≤ 1) ∧ ((mLate Z.V (cMt Z es tn kn) tn kn md ∧ S1 0 = 4 ∧ o = .returned (some (.int 0)) ∧ S1 8 = S 8 + 1 ∧ (∀ k, k ≠ 0 → k ≠ 8 → k ≠ 22 → S1 k = S k) ∧ (∀ k, k ≠ 12 → k ≠ 16 → k ≠ 17 → k ≠ 18 → k ≠ 4 → k ≠ 6 → A1 k = A k) ∧ A1 6 = va_up (A 6) tn 3 ∧ A1 4 = fun v => nI (vBrk Z.V tn v)) ∨ (¬ mLate Z.V (cMt Z es tn kn) tn kn md ∧ S1 0 = 0 ∧ o = .returned (some (.int (nI (cnt (cMt Z es tn kn) md)))) ∧ (∀ k, k ≠ 0 → k ≠ 22 → S1 k = S k) ∧ (∀ k, k ≠ 12 → k ≠ 16 → k ≠ 17 → k ≠ 18 → k ≠ 3 → k ≠ 4 → k ≠ 5 → A1 k = A k) ∧ A1 3 = va_up (A 3) kn (nI (max sc tn)) ∧ ∃ news : Nat → Int32, vWrote (vMark Z.V (hwq Z.V tn) kn tn md) (A 5) news (cMt Z es tn kn) kn tn md true (A1 4) (A1 5))))
theorem stp_delete {t k : Int32} (hst : l.stackTraces = false) (hZ : cOk G m S A h Z) (hs : sim Z S A) : ∃ mc ms, nCl mc ms ∧ kx_c G l mL_delete 19 mc ms [.ref (Z.ad rV), .int t, .int k, .ref (m + 19)] h (oQi G l m S A Z mM_delete [.ref m, .int t, .int k]) := by
  have hs0 := hs
  obtain ⟨bg, ln, rs, MD, SC, CL, PI, hT, hL, hB, hV, hP, hR⟩ := hs
  have hM : ∀ h', mOk G h' m → kx_c G l mM_delete 19 0 0 [.ref m, .int t, .int k] (mH h' m S A) (delQ h' m S A Z.V (pP PI) (fun i => (PI i).length) MD SC bg t k) := fun h' hm => cM_delete (l := l) (t := t) (k := k) (d := 16) (S := S) (A := A) hst hm hT.2.2.1 hT.2.1 hB.2.2.2.1 hB.2.2.2.2.1 hB.2.2.2.2.2.1 hB.2.2.2.2.2.2.1 hV.1 hZ.wf.low hP.prog
  have hx := hZ.is rV rfl
  have hb40 := hT.2.1
  have vd := fun tn q => vd_eq hT hV hP hZ.wf tn q
  by_cases e1 : cOp Z bg t
  · have e0 := e1
    obtain ⟨tn, t1, t2, rfl, t3⟩ := e1
    by_cases e2 : cTb Z k
    · have e2' := e2
      obtain ⟨kn, hk, rfl, ht⟩ := e2
      obtain ⟨n1, n2, n3, n4, n5, n6, n7⟩ := hB.1 kn hk ht
      have both : mOp A bg (nI tn) ∧ mTb A (nI kn) := ⟨(op_iff hT hZ.wf _).mpr e0, (tb_iff hB _).mpr e2'⟩
      have key : ∀ (k2 : Nat) (v2 : Int32) (Z2 : cZ), (∀ (o2 : Outcome) (S1 : Nat → Int32) (A1 : Nat → Nat → Int32), delY S A Z (PI 0) tn kn (MD kn) (SC kn) o2 S1 A1 → ∃ b : Int32, o2 = .returned (some (.int b)) ∧ S1 0 = nI k2 ∧ (k2 = 0 → b = v2) ∧ sim Z2 S1 A1) → rQi G l m S A mM_delete [.ref m, .int (nI tn), .int (nI kn)] Z2 k2 v2 := by
        intro k2 v2 Z2 hq
        refine rQi_of hM ?_
        rintro h' o2 h2 hw (⟨y, -⟩ | ⟨tn', kn', u1, u2, u3, u4, u5, u6, u7, S1, A1, rfl, y⟩)
        · exact absurd both y
        · have := nI_small (by omega) (by omega) u6
          subst this
          have := nI_small (by omega) (by omega) u3
          subst this
          rw [mt_eq hT hV hP hZ.wf] at y
          simp only [vd] at y
          obtain ⟨b, b1, b2, b3, b4⟩ := hq o2 S1 A1 y
          exact ⟨b, S1, A1, b1, rfl, b2, b3, b4⟩
      rcases fst_bad (fun r => vdC Z (PI 0) tn (24 * kn + r)) (MD kn) with hall | ⟨r0, hr0, hlow, hbad⟩
      · by_cases hl : mLate Z.V (cMt Z (PI 0) tn kn) tn kn (MD kn)
        · have hC := cV_delete5 (l := l) (d := 12) hst hZ hB.1 hV.2.1 hk ht n4 n5 hT.1 hT.2.1 t1 t2 t3 hP.2.1 hP.1 hP.2.2.1 n6 n7 hall (late_iff.mp hl)
          refine ⟨1, 6, ⟨by decide, by decide⟩, kx_cc ?_ (cL_delete_12 (d := 18) (Pq := ltP G m S A Z tn) hst hx (kx_cc (fun o h' hq => ?_) hC))⟩
          rotate_left
          · obtain ⟨x, y1, y2, sc2, ia2, V2, y3, y4, y5⟩ := hq
            exact ⟨x, y1, y2, sc2, ia2, V2, y3, uFr_of_c y4, y5⟩
          rintro o h' ⟨rfl, sc2, ia2, V2, hz, hu, hV2⟩
          refine oQi_t 4 (by decide) (by decide) hz rfl (key 4 0 _ ?_)
          rintro o2 S1 A1 (⟨-, -, ⟨r, y1, y2, -⟩, -⟩ | ⟨-, -, ⟨r, y1, y2, -⟩, -⟩ | ⟨-, ⟨-, s0, rfl, s8, sS, sA, a6, a4⟩ | ⟨y, -⟩⟩)
          · have z : vdC Z (PI 0) tn (24 * kn + r) ≤ 1 := hall r y1
            omega
          · have z : vdC Z (PI 0) tn (24 * kn + r) ≤ 1 := hall r y1
            omega
          · exact ⟨0, rfl, s0, fun z => absurd z (by decide), sim_late ⟨hT, hL, hB, hV, hP, hR⟩ t1 t2 hu hV2 (sS _ (by decide) (by decide) (by decide)) s8 (sS _ (by decide) (by decide) (by decide)) (sS _ (by decide) (by decide) (by decide)) (sS _ (by decide) (by decide) (by decide)) a6 a4 (sA _ (by decide) (by decide) (by decide) (by decide) (by decide) (by decide)) (sA _ (by decide) (by decide) (by decide) (by decide) (by decide) (by decide)) (sA _ (by decide) (by decide) (by decide) (by decide) (by decide) (by decide)) (sA _ (by decide) (by decide) (by decide) (by decide) (by decide) (by decide)) (sA _ (by decide) (by decide) (by decide) (by decide) (by decide) (by decide)) (sA _ (by decide) (by decide) (by decide) (by decide) (by decide) (by decide)) (sA _ (by decide) (by decide) (by decide) (by decide) (by decide) (by decide)) (sA _ (by decide) (by decide) (by decide) (by decide) (by decide) (by decide)) (sA _ (by decide) (by decide) (by decide) (by decide) (by decide) (by decide)) (sA _ (by decide) (by decide) (by decide) (by decide) (by decide) (by decide))⟩
          · exact absurd hl y
        · have hC : kx_c G l mV_delete 18 48 192 [.ref (Z.ad rV), .int (nI tn), .int (nI kn)] h (fun o h' => ∃ v : Int32, o = .returned (some (.int v)) ∧ delP G m S A Z (PI 0) tn kn (MD kn) (SC kn) v h') := kx_cc (fun o h' hq => ⟨_, hq.1, rfl, hq.2⟩) (cV_delete0 (d := 12) hst hZ hk ht n4 n5 hT.1 hT.2.1 t1 t2 t3 hP.2.1 hP.1 hP.2.2.1 n6 n7 hall (fun z => hl (late_iff.mpr z)))
          refine ⟨48, 192, ⟨by decide, by decide⟩, kx_cc ?_ (cL_delete_r (d := 18) (a := m + 19) (Pq := delP G m S A Z (PI 0) tn kn (MD kn) (SC kn)) (fun v h1 hp => by obtain ⟨-, sc2, ia2, V2, Z', hz, -⟩ := hp; exact a19 hz) hst hx hC)⟩
          rintro o h' ⟨v, h1, f, rfl, ⟨rfl, sc2, ia2, V2, Z', hz, hfr, hch, hzw, hwr, hV2⟩, hf, rfl⟩
          refine oQi_r hz (hzw.1 0 0 (by decide) (by decide)) (key 0 _ _ ?_)
          rintro o2 S1 A1 (⟨-, -, ⟨r, y1, y2, -⟩, -⟩ | ⟨-, -, ⟨r, y1, y2, -⟩, -⟩ | ⟨-, ⟨y, -⟩ | ⟨-, s0, rfl, sS, sA, a3, news, hvw⟩⟩)
          · have z : vdC Z (PI 0) tn (24 * kn + r) ≤ 1 := hall r y1
            omega
          · have z : vdC Z (PI 0) tn (24 * kn + r) ≤ 1 := hall r y1
            omega
          · exact absurd y hl
          · refine ⟨_, rfl, s0, fun _ => by rw [selL_len], ?_⟩
            exact sim_wr ⟨hT, hL, hB, hV, hP, hR⟩ hk ht t1 t2 (uFr_of_c hfr) hzw hwr hV2 hvw (fun z => absurd z (by decide)) (sS _ (by decide) (by decide)) (sS _ (by decide) (by decide)) (sS _ (by decide) (by decide)) (sS _ (by decide) (by decide)) (sS _ (by decide) (by decide)) (sA _ (by decide) (by decide) (by decide) (by decide) (by decide) (by decide) (by decide)) (sA _ (by decide) (by decide) (by decide) (by decide) (by decide) (by decide) (by decide)) a3 (sA _ (by decide) (by decide) (by decide) (by decide) (by decide) (by decide) (by decide)) (sA _ (by decide) (by decide) (by decide) (by decide) (by decide) (by decide) (by decide)) (sA _ (by decide) (by decide) (by decide) (by decide) (by decide) (by decide) (by decide)) (sA _ (by decide) (by decide) (by decide) (by decide) (by decide) (by decide) (by decide)) (sA _ (by decide) (by decide) (by decide) (by decide) (by decide) (by decide) (by decide)) (sA _ (by decide) (by decide) (by decide) (by decide) (by decide) (by decide) (by decide)) (sA _ (by decide) (by decide) (by decide) (by decide) (by decide) (by decide) (by decide))
      · have hb3 := vdC_le Z (PI 0) tn (24 * kn + r0)
        have hbad' : 1 < vdC Z (PI 0) tn (24 * kn + r0) := hbad
        by_cases e5 : vdC Z (PI 0) tn (24 * kn + r0) = 2
        · refine ⟨1, 6, ⟨by decide, by decide⟩, kx_cc ?_ (cL_delete_10 (d := 18) (Pq := lkP G m S A Z) hst hx (cV_delete3 (d := 12) hst hZ hk ht n4 n5 hT.1 hT.2.1 t1 t2 t3 hP.2.1 hP.1 hP.2.2.1 hr0 hlow e5))⟩
          rintro o h' ⟨rfl, sc2, ia2, hz, hfr⟩
          refine oQi_t 2 (by decide) (by decide) hz rfl (key 2 0 _ ?_)
          rintro o2 S1 A1 (⟨s0, rfl, -, sS, sA⟩ | ⟨-, -, ⟨r, y1, y2, y3⟩, -⟩ | ⟨y, -⟩)
          · exact ⟨0, rfl, s0, fun z => absurd z (by decide), sim_look (cFr_wA hfr hs0) sS sA⟩
          · have := fst_un (f := fun r => vdC Z (PI 0) tn (24 * kn + r)) y3 (by show 1 < vdC Z (PI 0) tn (24 * kn + r); omega) hlow hbad
            subst this; omega
          · have := y r0 hr0; omega
        · have e6 : vdC Z (PI 0) tn (24 * kn + r0) = 3 := by omega
          refine ⟨1, 6, ⟨by decide, by decide⟩, kx_cc ?_ (cL_delete_13 (d := 18) (Pq := lkP G m S A Z) hst hx (cV_delete4 (d := 12) hst hZ hk ht n4 n5 hT.1 hT.2.1 t1 t2 t3 hP.2.1 hP.1 hP.2.2.1 hr0 hlow e6))⟩
          rintro o h' ⟨rfl, sc2, ia2, hz, hfr⟩
          refine oQi_t 3 (by decide) (by decide) hz rfl (key 3 0 _ ?_)
          rintro o2 S1 A1 (⟨-, -, ⟨r, y1, y2, y3⟩, -⟩ | ⟨s0, rfl, -, sS, sA⟩ | ⟨y, -⟩)
          · have := fst_un (f := fun r => vdC Z (PI 0) tn (24 * kn + r)) y3 (by show 1 < vdC Z (PI 0) tn (24 * kn + r); omega) hlow hbad
            subst this; omega
          · exact ⟨0, rfl, s0, fun z => absurd z (by decide), sim_look (cFr_wA hfr hs0) sS sA⟩
          · have := y r0 hr0; omega
    · refine ⟨1, 6, ⟨by decide, by decide⟩, kx_cc ?_ (cL_delete_11 (d := 18) (Pq := fun h' => cOk G m S A h' Z) hst hx (cV_delete2 (d := 12) hst hZ hT.1 hT.2.1 t1 t2 t3 e2))⟩
      rintro o h' ⟨rfl, hz⟩
      refine oQi_t 1 (by decide) (by decide) hz rfl (rQi_of hM ?_)
      rintro h' o2 h2 hw (⟨-, rfl, rfl⟩ | ⟨tn', kn', u1, u2, u3, u4, u5, u6, u7, -⟩)
      · exact ⟨_, _, _, rfl, rfl, rfl, fun z => absurd z (by decide), sim_S0 hs0⟩
      · exact absurd ((tb_iff hB _).mp ⟨kn', u5, u6, u7⟩) e2
  · refine ⟨1, 6, ⟨by decide, by decide⟩, kx_cc ?_ (cL_delete_11 (d := 18) (Pq := fun h' => cOk G m S A h' Z) hst hx (cV_delete1 (d := 12) hst hZ hT.1 hT.2.1 e1))⟩
    rintro o h' ⟨rfl, hz⟩
    refine oQi_t 1 (by decide) (by decide) hz rfl (rQi_of hM ?_)
    rintro h' o2 h2 hw (⟨-, rfl, rfl⟩ | ⟨tn', kn', u1, u2, u3, u4, u5, -⟩)
    · exact ⟨_, _, _, rfl, rfl, rfl, fun z => absurd z (by decide), sim_S0 hs0⟩
    · exact absurd ((op_iff hT hZ.wf _).mp ⟨tn', u1, u2, u3, u4⟩) e1
end KS7
