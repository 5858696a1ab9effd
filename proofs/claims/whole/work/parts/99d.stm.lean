/-! ===== update ===== -/
section KS8
variable {G : kx_G} {l : Launch} {m : Nat} {S S1 : Nat → Int32} {A A1 : Nat → Nat → Int32} {h : kx_H} {Z Z' : cZ} {bg ln rs : Nat} {MD SC CL : Nat → Nat} {PI : Nat → List Int32}
theorem ev_one (hV : sVr Z A bg MD) (hP : sPr Z A PI) {tn kn r c : Nat} (hm : cMt Z (PI 0) tn kn r = true) (hc : c < 4) : (∀ v, lA (cVl Z tn kn r) (PI (c + 1)) = some v → evC (pP PI (1 + c)) (PI (1 + c)).length (mVals Z.V (A 5) tn kn r) = (v, false)) ∧ (lA (cVl Z tn kn r) (PI (c + 1)) = none → (evC (pP PI (1 + c)) (PI (1 + c)).length (mVals Z.V (A 5) tn kn r)).2 = true) := by
  rw [Nat.add_comm 1 c]
  have ev := evC_lA (vals := mVals Z.V (A 5) tn kn r) (hP.ty hc) (pP_at PI (c + 1))
  rw [lA_cg (hP.ty hc) (vl_eq hV hm)] at ev
  exact ev
theorem fine_iff (hV : sVr Z A bg MD) (hP : sPr Z A PI) {tn kn md : Nat} : (∀ r, r < md → cMt Z (PI 0) tn kn r = true → ∀ c, c < 4 → mFine Z.V (A 5) (A 10) (pP PI) (fun i => (PI i).length) tn kn r c) ↔ (∀ j r c : Nat, (selL (cMt Z (PI 0) tn kn) md)[j]? = some r → c < 4 → Z.pl (c + 1) = true → ¬ lA (cVl Z tn kn r) (PI (c + 1)) = none) := by
  constructor
  · intro hf j r c hj hc hp hn
    obtain ⟨y1, y2⟩ := selL_lt hj
    have a := hf r y1 y2 c hc ((hP.2.2.2.2.2.2 c hc).mpr hp)
    have b := (ev_one hV hP y2 hc).2 hn
    have a' : (evC (pP PI (1 + c)) (PI (1 + c)).length (mVals Z.V (A 5) tn kn r)).2 = false := a
    rw [b] at a'
    exact absurd a' (by decide)
  · intro hf r hr hm c hc ha
    obtain ⟨j, hj⟩ := selL_has hr hm
    have hn := hf j r c hj hc ((hP.2.2.2.2.2.2 c hc).mp ha)
    cases hl : lA (cVl Z tn kn r) (PI (c + 1)) with
    | none => exact absurd hl hn
    | some x =>
      show (evC (pP PI (1 + c)) (PI (1 + c)).length (mVals Z.V (A 5) tn kn r)).2 = false
      rw [(ev_one hV hP hm hc).1 x hl]
theorem new_eq (hV : sVr Z A bg MD) (hP : sPr Z A PI) {tn kn r c : Nat} (hm : cMt Z (PI 0) tn kn r = true) (hc : c < 4) (hn : Z.pl (c + 1) = true → ¬ lA (cVl Z tn kn r) (PI (c + 1)) = none) : mNew Z.V (A 5) (A 10) (pP PI) (fun i => (PI i).length) tn kn r c = nvC Z.pl (fun c => PI (c + 1)) (cVl Z tn kn r) c := by
  unfold mNew nvC
  have q := hP.2.2.2.2.2.2 c hc
  by_cases e : Z.pl (c + 1) = true
  · rw [if_neg (q.mpr e), if_pos e]
    cases hl : lA (cVl Z tn kn r) (PI (c + 1)) with
    | none => exact absurd hl (hn e)
    | some x =>
      show (evC (pP PI (1 + c)) (PI (1 + c)).length (mVals Z.V (A 5) tn kn r)).1 = x
      rw [(ev_one hV hP hm hc).1 x hl]
  · rw [if_pos (Classical.byContradiction fun z => e (q.mp z)), if_neg e]
    exact vl_eq hV hm c hc
def updP (G : kx_G) (m : Nat) (S : Nat → Int32) (A : Nat → Nat → Int32) (Z : cZ) (es : List Int32) (ES : Nat → List Int32) (tn k md sc : Nat) (v : Int32) (h' : kx_H) : Prop := v = nI (selL (cMt Z es tn k) md).length ∧ ∃ sc3 ia3 V2 Z', cOk G m S A h' Z' ∧ uFr Z sc3 ia3 ∧ (∀ j r : Nat, (selL (cMt Z es tn k) md)[j]? = some r → ∀ c, c < 4 → ia3 (rInn (24 * (1 - Z.fi) + j)) c = nvC Z.pl ES (cVl Z tn k r) c) ∧ zW (((Z.wA sc3 ia3).sS (rTab k) 3 (nI (max sc tn))).wV V2) Z' ∧ zWr (Z.wA sc3 ia3) V2 Z' (selL (cMt Z es tn k) md) k tn (selL (cMt Z es tn k) md).length false ∧ ∀ v, V2 v = mrk Z.V k md tn v
def lkU (G : kx_G) (m : Nat) (S : Nat → Int32) (A : Nat → Nat → Int32) (Z : cZ) (h' : kx_H) : Prop := ∃ sc2 ia2, cOk G m S A h' (Z.wA sc2 ia2) ∧ uFr Z sc2 ia2
def updY (S : Nat → Int32) (A : Nat → Nat → Int32) (Z : cZ) (es : List Int32) (PP : Nat → Nat → Int32) (SZ : Nat → Nat) (tn kn md sc cl : Nat) (o : Outcome) (S1 : Nat → Int32) (A1 : Nat → Nat → Int32) : Prop := ((∃ c, cl ≤ c ∧ c < 4 ∧ ¬ A 10 c = 0) ∧ S1 0 = 2 ∧ o = .returned (some (.int 0)) ∧ (∀ k, k ≠ 0 → k ≠ 22 → S1 k = S k) ∧ (∀ k, k ≠ 12 → k ≠ 16 → k ≠ 17 → k ≠ 18 → A1 k = A k)) ∨ (¬ (∃ c, cl ≤ c ∧ c < 4 ∧ ¬ A 10 c = 0) ∧ ((S1 0 = 3 ∧ o = .returned (some (.int 0)) ∧ (∃ r, r < md ∧ vdC Z es tn (24 * kn + r) = 2 ∧ ∀ p, p < r → vdC Z es tn (24 * kn + p) ≤ 1) ∧ (∀ k, k ≠ 0 → k ≠ 22 → S1 k = S k) ∧ (∀ k, k ≠ 12 → k ≠ 16 → k ≠ 17 → k ≠ 18 → A1 k = A k)) ∨ (S1 0 = 4 ∧ o = .returned (some (.int 0)) ∧ (∃ r, r < md ∧ vdC Z es tn (24 * kn + r) = 3 ∧ ∀ p, p < r → vdC Z es tn (24 * kn + p) ≤ 1) ∧ (∀ k, k ≠ 0 → k ≠ 22 → S1 k = S k) ∧ (∀ k, k ≠ 12 → k ≠ 16 → k ≠ 17 → k ≠ 18 → A1 k = A k)) ∨ ((∀ r, r < md → vdC Z es tn (24 * kn + r) ≤ 1) ∧ ((¬ (∀ r, r < md → cMt Z es tn kn r = true → ∀ c, c < 4 → mFine Z.V (A 5) (A 10) PP SZ tn kn r c) ∧ S1 0 = 4 ∧ o = .returned (some (.int 0)) ∧ (∀ k, k ≠ 0 → k ≠ 22 → S1 k = S k) ∧ (∀ k, k ≠ 12 → k ≠ 16 → k ≠ 17 → k ≠ 18 → A1 k = A k)) ∨ ((∀ r, r < md → cMt Z es tn kn r = true → ∀ c, c < 4 → mFine Z.V (A 5) (A 10) PP SZ tn kn r c) ∧ ((mLate Z.V (cMt Z es tn kn) tn kn md ∧ S1 0 = 5 ∧ o = .returned (some (.int 0)) ∧ S1 8 = S 8 + 1 ∧ (∀ k, k ≠ 0 → k ≠ 8 → k ≠ 22 → S1 k = S k) ∧ (∀ k, k ≠ 12 → k ≠ 16 → k ≠ 17 → k ≠ 18 → k ≠ 4 → k ≠ 6 → A1 k = A k) ∧ A1 6 = va_up (A 6) tn 3 ∧ A1 4 = fun v => nI (vBrk Z.V tn v)) ∨ (¬ mLate Z.V (cMt Z es tn kn) tn kn md ∧ S1 0 = 0 ∧ o = .returned (some (.int (nI (cnt (cMt Z es tn kn) md)))) ∧ (∀ k, k ≠ 0 → k ≠ 22 → S1 k = S k) ∧ (∀ k, k ≠ 12 → k ≠ 16 → k ≠ 17 → k ≠ 18 → k ≠ 3 → k ≠ 4 → k ≠ 5 → A1 k = A k) ∧ A1 3 = va_up (A 3) kn (nI (max sc tn)) ∧ ∃ news : Nat → Int32, (∀ r, r < md → cMt Z es tn kn r = true → ∀ c, c < 4 → news (4 * r + c) = mNew Z.V (A 5) (A 10) PP SZ tn kn r c) ∧ vWrote (vMark Z.V (hwq Z.V tn) kn tn md) (A 5) news (cMt Z es tn kn) kn tn md false (A1 4) (A1 5))))))))
theorem stp_update {t k : Int32} (hst : l.stackTraces = false) (hZ : cOk G m S A h Z) (hs : sim Z S A) : ∃ mc ms, nCl mc ms ∧ kx_c G l mL_update 19 mc ms [.ref (Z.ad rV), .int t, .int k, .ref (m + 19)] h (oQi G l m S A Z mM_update [.ref m, .int t, .int k]) := by
  have hs0 := hs
  obtain ⟨bg, ln, rs, MD, SC, CL, PI, hT, hL, hB, hV, hP, hR⟩ := hs
  have hM : ∀ h', mOk G h' m → kx_c G l mM_update 19 0 0 [.ref m, .int t, .int k] (mH h' m S A) (updQ h' m S A Z.V (pP PI) (fun i => (PI i).length) MD SC CL bg t k) := fun h' hm => cM_update (l := l) (t := t) (k := k) (d := 16) (S := S) (A := A) hst hm hT.2.2.1 hT.2.1 hB.2.2.2.1 hB.2.2.2.2.1 hB.2.2.2.2.2.1 hB.2.2.2.2.2.2.1 hB.2.1 hB.2.2.1 hV.1 hZ.wf.low hP.prog
  have hx := hZ.is rV rfl
  have hb40 := hT.2.1
  have vd := fun tn q => vd_eq hT hV hP hZ.wf tn q
  by_cases e1 : cOp Z bg t
  · have e0 := e1
    obtain ⟨tn, t1, t2, rfl, t3⟩ := e1
    by_cases e2 : cTb Z k
    · have e2' := e2
      obtain ⟨kn, hk, rfl, ht⟩ := e2
      obtain ⟨n1, n2, n3, n4, n5, n6, n7⟩ := hB.1 kn hk ht
      have both : mOp A bg (nI tn) ∧ mTb A (nI kn) := ⟨(op_iff hT hZ.wf _).mpr e0, (tb_iff hB _).mpr e2'⟩
      have key : ∀ (k2 : Nat) (v2 : Int32) (Z2 : cZ), (∀ (o2 : Outcome) (S1 : Nat → Int32) (A1 : Nat → Nat → Int32), updY S A Z (PI 0) (pP PI) (fun i => (PI i).length) tn kn (MD kn) (SC kn) (CL kn) o2 S1 A1 → ∃ b : Int32, o2 = .returned (some (.int b)) ∧ S1 0 = nI k2 ∧ (k2 = 0 → b = v2) ∧ sim Z2 S1 A1) → rQi G l m S A mM_update [.ref m, .int (nI tn), .int (nI kn)] Z2 k2 v2 := by
        intro k2 v2 Z2 hq
        refine rQi_of hM ?_
        rintro h' o2 h2 hw (⟨y, -⟩ | ⟨tn', kn', u1, u2, u3, u4, u5, u6, u7, S1, A1, rfl, y⟩)
        · exact absurd both y
        · have := nI_small (by omega) (by omega) u6
          subst this
          have := nI_small (by omega) (by omega) u3
          subst this
          rw [mt_eq hT hV hP hZ.wf] at y
          simp only [vd] at y
          obtain ⟨b, b1, b2, b3, b4⟩ := hq o2 S1 A1 y
          exact ⟨b, S1, A1, b1, rfl, b2, b3, b4⟩
      by_cases hbey : ∃ c, CL kn ≤ c ∧ c < 4 ∧ Z.pl (c + 1) = true
      · obtain ⟨c0, k1, k2, k3⟩ := hbey
        refine ⟨1, 6, ⟨by decide, by decide⟩, kx_cc ?_ (cL_update_9 (d := 18) (Pq := fun h' => cOk G m S A h' Z) hst hx (cV_update7 (d := 12) hst hZ hk ht hT.1 hT.2.1 t1 t2 t3 n1 n3 k1 k2 k3))⟩
        rintro o h' ⟨rfl, hz⟩
        refine oQi_t 2 (by decide) (by decide) hz rfl (key 2 0 _ ?_)
        rintro o2 S1 A1 (⟨-, s0, rfl, sS, sA⟩ | ⟨y, -⟩)
        · exact ⟨0, rfl, s0, fun z => absurd z (by decide), sim_look hs0 sS sA⟩
        · exact absurd ⟨c0, k1, k2, (hP.2.2.2.2.2.2 c0 k2).mpr k3⟩ y
      · have nbey : ¬ ∃ c, CL kn ≤ c ∧ c < 4 ∧ ¬ A 10 c = 0 := fun ⟨c, k1, k2, k3⟩ => hbey ⟨c, k1, k2, (hP.2.2.2.2.2.2 c k2).mp k3⟩
        have hb2 : ∀ c, CL kn ≤ c → c < 4 → Z.pl (c + 1) = false := fun c k1 k2 => kB_f (fun z => hbey ⟨c, k1, k2, z⟩)
        rcases fst_bad (fun r => vdC Z (PI 0) tn (24 * kn + r)) (MD kn) with hall | ⟨r0, hr0, hlow, hbad⟩
        · by_cases hfn : ∀ r, r < MD kn → cMt Z (PI 0) tn kn r = true → ∀ c, c < 4 → mFine Z.V (A 5) (A 10) (pP PI) (fun i => (PI i).length) tn kn r c
          · have hfn2 := (fine_iff hV hP).mp hfn
            by_cases hl : mLate Z.V (cMt Z (PI 0) tn kn) tn kn (MD kn)
            · have hC := cV_update5 (l := l) (d := 12) (ES := fun c => PI (c + 1)) hst hZ hB.1 hV.2.1 hk ht n4 n5 hT.1 hT.2.1 t1 t2 t3 hP.2.1 hP.1 hP.2.2.1 n6 n7 n1 n3 hb2 hP.2.2.2.1 hall hfn2 (late_iff.mp hl)
              refine ⟨2, 12, ⟨by decide, by decide⟩, kx_cc ?_ (cL_update_12 (d := 18) (Pq := ltP G m S A Z tn) hst hx hC)⟩
              rintro o h' ⟨rfl, sc2, ia2, V2, hz, hu, hV2⟩
              refine oQi_t 5 (by decide) (by decide) hz rfl (key 5 0 _ ?_)
              rintro o2 S1 A1 (⟨y, -⟩ | ⟨-, ⟨-, -, ⟨r, y1, y2, -⟩, -⟩ | ⟨-, -, ⟨r, y1, y2, -⟩, -⟩ | ⟨-, ⟨y, -⟩ | ⟨-, ⟨-, s0, rfl, s8, sS, sA, a6, a4⟩ | ⟨y, -⟩⟩⟩⟩)
              · exact absurd y nbey
              · have z : vdC Z (PI 0) tn (24 * kn + r) ≤ 1 := hall r y1
                omega
              · have z : vdC Z (PI 0) tn (24 * kn + r) ≤ 1 := hall r y1
                omega
              · exact absurd hfn y
              · exact ⟨0, rfl, s0, fun z => absurd z (by decide), sim_late ⟨hT, hL, hB, hV, hP, hR⟩ t1 t2 hu hV2 (sS _ (by decide) (by decide) (by decide)) s8 (sS _ (by decide) (by decide) (by decide)) (sS _ (by decide) (by decide) (by decide)) (sS _ (by decide) (by decide) (by decide)) a6 a4 (sA _ (by decide) (by decide) (by decide) (by decide) (by decide) (by decide)) (sA _ (by decide) (by decide) (by decide) (by decide) (by decide) (by decide)) (sA _ (by decide) (by decide) (by decide) (by decide) (by decide) (by decide)) (sA _ (by decide) (by decide) (by decide) (by decide) (by decide) (by decide)) (sA _ (by decide) (by decide) (by decide) (by decide) (by decide) (by decide)) (sA _ (by decide) (by decide) (by decide) (by decide) (by decide) (by decide)) (sA _ (by decide) (by decide) (by decide) (by decide) (by decide) (by decide)) (sA _ (by decide) (by decide) (by decide) (by decide) (by decide) (by decide)) (sA _ (by decide) (by decide) (by decide) (by decide) (by decide) (by decide)) (sA _ (by decide) (by decide) (by decide) (by decide) (by decide) (by decide))⟩
              · exact absurd hl y
            · have hC : kx_c G l mV_update 18 49 198 [.ref (Z.ad rV), .int (nI tn), .int (nI kn)] h (fun o h' => ∃ v : Int32, o = .returned (some (.int v)) ∧ updP G m S A Z (PI 0) (fun c => PI (c + 1)) tn kn (MD kn) (SC kn) v h') := kx_cc (fun o h' hq => ⟨_, hq.1, rfl, hq.2⟩) (cV_update0 (d := 12) (ES := fun c => PI (c + 1)) hst hZ hk ht n4 n5 hT.1 hT.2.1 t1 t2 t3 hP.2.1 hP.1 hP.2.2.1 n6 n7 n1 n3 hb2 hP.2.2.2.1 hall hfn2 (fun z => hl (late_iff.mpr z)))
              refine ⟨49, 198, ⟨by decide, by decide⟩, kx_cc ?_ (cL_update_r (d := 18) (a := m + 19) (Pq := updP G m S A Z (PI 0) (fun c => PI (c + 1)) tn kn (MD kn) (SC kn)) (fun v h1 hp => by obtain ⟨-, sc2, ia2, V2, Z', hz, -⟩ := hp; exact a19 hz) hst hx hC)⟩
              rintro o h' ⟨v, h1, f, rfl, ⟨rfl, sc2, ia2, V2, Z', hz, hu, hnv, hzw, hwr, hV2⟩, hf, rfl⟩
              refine oQi_r hz (hzw.1 0 0 (by decide) (by decide)) (key 0 _ _ ?_)
              rintro o2 S1 A1 (⟨y, -⟩ | ⟨-, ⟨-, -, ⟨r, y1, y2, -⟩, -⟩ | ⟨-, -, ⟨r, y1, y2, -⟩, -⟩ | ⟨-, ⟨y, -⟩ | ⟨-, ⟨y, -⟩ | ⟨-, s0, rfl, sS, sA, a3, news, hnw, hvw⟩⟩⟩⟩)
              · exact absurd y nbey
              · have z : vdC Z (PI 0) tn (24 * kn + r) ≤ 1 := hall r y1
                omega
              · have z : vdC Z (PI 0) tn (24 * kn + r) ≤ 1 := hall r y1
                omega
              · exact absurd hfn y
              · exact absurd y hl
              · refine ⟨_, rfl, s0, fun _ => by rw [selL_len], ?_⟩
                refine sim_wr ⟨hT, hL, hB, hV, hP, hR⟩ hk ht t1 t2 hu hzw hwr hV2 hvw (fun _ j r hj c hc => ?_) (sS _ (by decide) (by decide)) (sS _ (by decide) (by decide)) (sS _ (by decide) (by decide)) (sS _ (by decide) (by decide)) (sS _ (by decide) (by decide)) (sA _ (by decide) (by decide) (by decide) (by decide) (by decide) (by decide) (by decide)) (sA _ (by decide) (by decide) (by decide) (by decide) (by decide) (by decide) (by decide)) a3 (sA _ (by decide) (by decide) (by decide) (by decide) (by decide) (by decide) (by decide)) (sA _ (by decide) (by decide) (by decide) (by decide) (by decide) (by decide) (by decide)) (sA _ (by decide) (by decide) (by decide) (by decide) (by decide) (by decide) (by decide)) (sA _ (by decide) (by decide) (by decide) (by decide) (by decide) (by decide) (by decide)) (sA _ (by decide) (by decide) (by decide) (by decide) (by decide) (by decide) (by decide)) (sA _ (by decide) (by decide) (by decide) (by decide) (by decide) (by decide) (by decide)) (sA _ (by decide) (by decide) (by decide) (by decide) (by decide) (by decide) (by decide))
                obtain ⟨y1, y2⟩ := selL_lt hj
                rw [hnw r y1 y2 c hc, hnv j r hj c hc]
                exact new_eq hV hP y2 hc (hfn2 j r c hj hc)
          · have hbad2 : ∃ j r c : Nat, (selL (cMt Z (PI 0) tn kn) (MD kn))[j]? = some r ∧ c < 4 ∧ Z.pl (c + 1) = true ∧ lA (cVl Z tn kn r) (PI (c + 1)) = none := Classical.byContradiction fun z => hfn ((fine_iff hV hP).mpr (fun j r c q1 q2 q3 q4 => z ⟨j, r, c, q1, q2, q3, q4⟩))
            refine ⟨1, 6, ⟨by decide, by decide⟩, kx_cc ?_ (cL_update_13 (d := 18) (Pq := lkU G m S A Z) hst hx (cV_update6 (d := 12) (ES := fun c => PI (c + 1)) hst hZ hk ht n4 n5 hT.1 hT.2.1 t1 t2 t3 hP.2.1 hP.1 hP.2.2.1 n6 n7 n1 n3 hb2 hP.2.2.2.1 hall hbad2))⟩
            rintro o h' ⟨rfl, sc2, ia2, hz, hfr⟩
            refine oQi_t 4 (by decide) (by decide) hz rfl (key 4 0 _ ?_)
            rintro o2 S1 A1 (⟨y, -⟩ | ⟨-, ⟨-, -, ⟨r, y1, y2, -⟩, -⟩ | ⟨-, -, ⟨r, y1, y2, -⟩, -⟩ | ⟨-, ⟨-, s0, rfl, sS, sA⟩ | ⟨y, -⟩⟩⟩)
            · exact absurd y nbey
            · have z : vdC Z (PI 0) tn (24 * kn + r) ≤ 1 := hall r y1
              omega
            · have z : vdC Z (PI 0) tn (24 * kn + r) ≤ 1 := hall r y1
              omega
            · exact ⟨0, rfl, s0, fun z => absurd z (by decide), sim_look (uFr_wA hfr hs0) sS sA⟩
            · exact absurd y hfn
        · have hb3 := vdC_le Z (PI 0) tn (24 * kn + r0)
          have hbad' : 1 < vdC Z (PI 0) tn (24 * kn + r0) := hbad
          by_cases e5 : vdC Z (PI 0) tn (24 * kn + r0) = 2
          · refine ⟨1, 6, ⟨by decide, by decide⟩, kx_cc ?_ (cL_update_10 (d := 18) (Pq := lkP G m S A Z) hst hx (cV_update3 (d := 12) hst hZ hk ht n4 n5 hT.1 hT.2.1 t1 t2 t3 hP.2.1 hP.1 hP.2.2.1 n1 n3 hb2 hr0 hlow e5))⟩
            rintro o h' ⟨rfl, sc2, ia2, hz, hfr⟩
            refine oQi_t 3 (by decide) (by decide) hz rfl (key 3 0 _ ?_)
            rintro o2 S1 A1 (⟨y, -⟩ | ⟨-, ⟨s0, rfl, -, sS, sA⟩ | ⟨-, -, ⟨r, y1, y2, y3⟩, -⟩ | ⟨y, -⟩⟩)
            · exact absurd y nbey
            · exact ⟨0, rfl, s0, fun z => absurd z (by decide), sim_look (cFr_wA hfr hs0) sS sA⟩
            · have := fst_un (f := fun r => vdC Z (PI 0) tn (24 * kn + r)) y3 (by show 1 < vdC Z (PI 0) tn (24 * kn + r); omega) hlow hbad
              subst this; omega
            · have := y r0 hr0; omega
          · have e6 : vdC Z (PI 0) tn (24 * kn + r0) = 3 := by omega
            refine ⟨1, 6, ⟨by decide, by decide⟩, kx_cc ?_ (cL_update_13 (d := 18) (Pq := lkP G m S A Z) hst hx (cV_update4 (d := 12) hst hZ hk ht n4 n5 hT.1 hT.2.1 t1 t2 t3 hP.2.1 hP.1 hP.2.2.1 n1 n3 hb2 hr0 hlow e6))⟩
            rintro o h' ⟨rfl, sc2, ia2, hz, hfr⟩
            refine oQi_t 4 (by decide) (by decide) hz rfl (key 4 0 _ ?_)
            rintro o2 S1 A1 (⟨y, -⟩ | ⟨-, ⟨-, -, ⟨r, y1, y2, y3⟩, -⟩ | ⟨s0, rfl, -, sS, sA⟩ | ⟨y, -⟩⟩)
            · exact absurd y nbey
            · have := fst_un (f := fun r => vdC Z (PI 0) tn (24 * kn + r)) y3 (by show 1 < vdC Z (PI 0) tn (24 * kn + r); omega) hlow hbad
              subst this; omega
            · exact ⟨0, rfl, s0, fun z => absurd z (by decide), sim_look (cFr_wA hfr hs0) sS sA⟩
            · have := y r0 hr0; omega
    · refine ⟨1, 6, ⟨by decide, by decide⟩, kx_cc ?_ (cL_update_11 (d := 18) (Pq := fun h' => cOk G m S A h' Z) hst hx (cV_update2 (d := 12) hst hZ hT.1 hT.2.1 t1 t2 t3 e2))⟩
      rintro o h' ⟨rfl, hz⟩
      refine oQi_t 1 (by decide) (by decide) hz rfl (rQi_of hM ?_)
      rintro h' o2 h2 hw (⟨-, rfl, rfl⟩ | ⟨tn', kn', u1, u2, u3, u4, u5, u6, u7, -⟩)
      · exact ⟨_, _, _, rfl, rfl, rfl, fun z => absurd z (by decide), sim_S0 hs0⟩
      · exact absurd ((tb_iff hB _).mp ⟨kn', u5, u6, u7⟩) e2
  · refine ⟨1, 6, ⟨by decide, by decide⟩, kx_cc ?_ (cL_update_11 (d := 18) (Pq := fun h' => cOk G m S A h' Z) hst hx (cV_update1 (d := 12) hst hZ hT.1 hT.2.1 e1))⟩
    rintro o h' ⟨rfl, hz⟩
    refine oQi_t 1 (by decide) (by decide) hz rfl (rQi_of hM ?_)
    rintro h' o2 h2 hw (⟨-, rfl, rfl⟩ | ⟨tn', kn', u1, u2, u3, u4, u5, -⟩)
    · exact ⟨_, _, _, rfl, rfl, rfl, fun z => absurd z (by decide), sim_S0 hs0⟩
    · exact absurd ((op_iff hT hZ.wf _).mp ⟨tn', u1, u2, u3, u4⟩) e1
end KS8
