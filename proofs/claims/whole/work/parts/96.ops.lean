/-! ===== the calls one by one ===== -/
section KS1
variable {G : kx_G} {l : Launch} {m : Nat} {S : Nat → Int32} {A : Nat → Nat → Int32} {h : kx_H} {Z : cZ}
abbrev nCl (c s : Nat) : Prop := c ≤ 50 ∧ s ≤ 1036
theorem stp_errorAt (hst : l.stackTraces = false) (hZ : cOk G m S A h Z) (hs : sim Z S A) : ∃ mc ms, nCl mc ms ∧ kx_c G l mV_errorAt 19 mc ms [.ref (Z.ad rV)] h (oQs G l m S A Z mM_errorAt [.ref m]) := by
  refine ⟨0, 0, ⟨by decide, by decide⟩, kx_cc ?_ (cV_errorAt hst hZ)⟩
  rintro o h' ⟨rfl, hz⟩
  refine oQs_r hz rfl (rQi_of (fun h' hm => cM_errorAt hst hm) ?_)
  rintro h' o2 h2 hw ⟨rfl, rfl⟩
  refine ⟨_, _, _, rfl, rfl, rfl, fun _ => ?_, sim_S0 hs⟩
  obtain ⟨bg, ln, rs, MD, SC, CL, PI, hT, hL, hB, hV, hP, hR⟩ := hs
  exact hL.2.2.2.1
theorem cnt_cg {p q : Nat → Bool} : ∀ {n : Nat}, (∀ i, i < n → p i = q i) → cnt p n = cnt q n
  | 0, _ => rfl
  | n + 1, h => by
    show cnt p n + _ = cnt q n + _
    rw [cnt_cg (fun i hi => h i (by omega)), h n (by omega)]
theorem set_cnt {PI : Nat → List Int32} (hP : sPr Z A PI) : cnt (fun c => decide (¬ A 10 c = 0)) 4 = cnt (fun c => Z.pl (c + 1)) 4 :=
  cnt_cg fun i hi => by
    by_cases e : Z.pl (i + 1) = true
    · rw [e]; exact decide_eq_true ((hP.2.2.2.2.2.2 i hi).mpr e)
    · rw [kB_f e]; exact decide_eq_false (fun z => e ((hP.2.2.2.2.2.2 i hi).mp z))
theorem stp_clear (hst : l.stackTraces = false) (hZ : cOk G m S A h Z) (hs : sim Z S A) : ∃ mc ms, nCl mc ms ∧ kx_c G l mV_clear 19 mc ms [.ref (Z.ad rV)] h (oQs G l m S A Z mM_clear [.ref m]) := by
  refine ⟨0, 0, ⟨by decide, by decide⟩, kx_cc ?_ (cV_clear (d := 18) hst hZ)⟩
  rintro o h' ⟨rfl, hz⟩
  refine oQs_r hz rfl (rQi_of (fun h' hm => cM_clear (d := 18) hst hm) ?_)
  rintro h' o2 h2 hw ⟨rfl, rfl⟩
  obtain ⟨bg, ln, rs, MD, SC, CL, PI, hT, hL, hB, hV, hP, hR⟩ := hs
  refine ⟨_, _, _, rfl, rfl, rfl, fun _ => by rw [set_cnt hP], bg, ln, rs, MD, SC, CL, PI, hT, hL, hB, hV, ?_, hR⟩
  obtain ⟨p1, p2, p3, p4, p5, p6, p7⟩ := hP
  refine ⟨p1, p2, p3, fun c hc hp => ?_, p5, p6, fun c hc => ?_⟩
  · exact absurd hp (by show ¬ (if 1 ≤ c + 1 ∧ c + 1 ≤ 4 then false else Z.pl (c + 1)) = true; rw [if_pos ⟨by omega, by omega⟩]; decide)
  · show ¬ (if c < 4 then (0 : Int32) else A 10 c) = 0 ↔ (if 1 ≤ c + 1 ∧ c + 1 ≤ 4 then false else Z.pl (c + 1)) = true
    rw [if_pos hc, if_pos ⟨by omega, by omega⟩]
    exact ⟨fun z => absurd rfl z, fun z => absurd z (by decide)⟩
theorem i_lt_nI {x : Int32} {n : Nat} (hn : n < 1000) (h0 : ¬ x < 0) (h1 : x < nI n) : ∃ k, k < n ∧ x = nI k := by
  have a : ¬ x.toInt < 0 := fun z => h0 (kI_lt.mpr z)
  have b : x.toInt < (nI n).toInt := kI_lt.mp h1
  rw [nI_toInt (by omega)] at b
  obtain ⟨k, e, e2, -⟩ := kI_nat (x := x) (by omega)
  exact ⟨k, by omega, e⟩
theorem i_not_lt {x : Int32} {n k : Nat} (hn : n < 1000) (hk : k < n) (e : x = nI k) : ¬ (x < 0 ∨ nI n ≤ x) := by
  rintro (z | z)
  · have := kI_lt.mp z
    rw [e, nI_toInt (by omega)] at this
    exact absurd this (by show ¬ (k : Int) < 0; omega)
  · have := kI_le.mp z
    rw [e, nI_toInt (by omega), nI_toInt (by omega)] at this
    omega
theorem stp_type {c : Int32} (hst : l.stackTraces = false) (hZ : cOk G m S A h Z) (hs : sim Z S A) : ∃ mc ms, nCl mc ms ∧ kx_c G l mL_type 19 mc ms [.ref (Z.ad rV), .int c, .ref (m + 19)] h (oQi G l m S A Z mM_type [.ref m, .int c]) := by
  have hs0 := hs
  obtain ⟨bg, ln, rs, MD, SC, CL, PI, hT, hL, hB, hV, hP, hR⟩ := hs
  have hM : ∀ h', mOk G h' m → _ := fun h' hm => cM_type (l := l) (c := c) (d := 18) (S := S) (A := A) hst hm hL.2.2.1 hL.2.1
  have hx := hZ.is rV rfl
  have e127 : ∀ c : Int32, 127 < c ↔ ¬ c < 128 := fun c => by
    rw [kI_lt, kI_lt]
    have z1 : (127 : Int32).toInt = 127 := rfl
    have z2 : (128 : Int32).toInt = 128 := rfl
    omega
  by_cases e1 : c < 0 ∨ ¬ c < 128
  · refine ⟨1, 6, ⟨by decide, by decide⟩, kx_cc ?_ (cL_type_9 (d := 18) (Pq := fun h' => cOk G m S A h' Z) hst hx (cV_type1 hst hZ e1))⟩
    rintro o h' ⟨rfl, hz⟩
    refine oQi_t 1 (by decide) (by decide) hz rfl (rQi_of hM ?_)
    rintro h' o2 h2 hw (⟨-, rfl, rfl⟩ | ⟨a, b, -⟩ | ⟨a, b, -⟩)
    · exact ⟨_, _, _, rfl, rfl, rfl, fun z => absurd z (by decide), sim_S0 hs0⟩
    · exact absurd e1 (fun z => z.elim a (fun z => b ((e127 c).mpr z)))
    · exact absurd e1 (fun z => z.elim a (fun z => b ((e127 c).mpr z)))
  · have c0 : ¬ c < 0 := fun z => e1 (Or.inl z)
    have c1 : c < 128 := Classical.byContradiction fun z => e1 (Or.inr z)
    by_cases e2 : ln < 40
    · refine ⟨0, 0, ⟨by decide, by decide⟩, kx_cc ?_ (cL_type_r (d := 18) (a := m + 19) (Pq := fun v h' => v = nI (ln + 1) ∧ cOk G m S A h' ((Z.sI rLin (va_up (Z.ia rLin) ln c)).sS rV 3 (nI (ln + 1)))) (fun v h1 hp => a19 hp.2) hst hx (kx_cc (fun o h' hq => ⟨_, hq.1, rfl, hq.2⟩) (cV_type0 hst hZ hL.1 hL.2.1 c0 c1 e2)))⟩
      rintro o h' ⟨v, h1, f, rfl, ⟨rfl, hz⟩, hf, rfl⟩
      refine oQi_r hz rfl (rQi_of hM ?_)
      rintro h' o2 h2 hw (⟨a, -⟩ | ⟨-, -, a, -⟩ | ⟨-, -, -, rfl, rfl⟩)
      · exact absurd a (fun z => z.elim c0 (fun z => (e127 c).mp z c1))
      · omega
      · refine ⟨_, _, _, rfl, rfl, rfl, fun _ => rfl, bg, ln + 1, rs, MD, SC, CL, PI, hT.of rfl rfl rfl rfl rfl rfl, ⟨rfl, by omega, rfl, hL.2.2.2.1, ?_⟩, hB.of (fun _ => rfl) (fun _ => rfl) (fun _ => rfl) rfl rfl rfl rfl, hV.of rfl (fun _ _ => rfl) rfl rfl, hP.of (fun _ => rfl) (fun _ => rfl) rfl rfl rfl rfl, hR.of rfl rfl (fun _ _ => rfl) rfl rfl rfl rfl⟩
        show va_up (A 7) ln c = va_up (Z.ia rLin) ln c
        rw [hL.2.2.2.2]
    · refine ⟨1, 6, ⟨by decide, by decide⟩, kx_cc ?_ (cL_type_10 (d := 18) (Pq := fun h' => cOk G m S A h' Z) hst hx (cV_type2 hst hZ hL.1 hL.2.1 c0 c1 e2))⟩
      rintro o h' ⟨rfl, hz⟩
      refine oQi_t 2 (by decide) (by decide) hz rfl (rQi_of hM ?_)
      rintro h' o2 h2 hw (⟨a, -⟩ | ⟨-, -, -, rfl, rfl⟩ | ⟨-, -, a, -⟩)
      · exact absurd a (fun z => z.elim c0 (fun z => (e127 c).mp z c1))
      · exact ⟨_, _, _, rfl, rfl, rfl, fun z => absurd z (by decide), sim_S0 hs0⟩
      · omega
theorem stp_begin (hst : l.stackTraces = false) (hZ : cOk G m S A h Z) (hs : sim Z S A) : ∃ mc ms, nCl mc ms ∧ kx_c G l mL_begin 19 mc ms [.ref (Z.ad rV), .ref (m + 19)] h (oQi G l m S A Z mM_begin [.ref m]) := by
  have hs0 := hs
  obtain ⟨bg, ln, rs, MD, SC, CL, PI, hT, hL, hB, hV, hP, hR⟩ := hs
  have hM : ∀ h', mOk G h' m → _ := fun h' hm => cM_begin (l := l) (d := 18) (S := S) (A := A) hst hm hT.2.2.1 hT.2.1
  have hx := hZ.is rV rfl
  by_cases e2 : bg < 40
  · refine ⟨0, 0, ⟨by decide, by decide⟩, kx_cc ?_ (cL_begin_r (d := 18) (a := m + 19) (Pq := fun v h' => v = nI (bg + 1) ∧ cOk G m S A h' ((Z.sS rTr 1 (nI (bg + 1))).sT (bg + 1) 1)) (fun v h1 hp => a19 hp.2) hst hx (kx_cc (fun o h' hq => ⟨_, hq.1, rfl, hq.2⟩) (cV_begin0 (d := 17) hst hZ hT.1 e2)))⟩
    rintro o h' ⟨v, h1, f, rfl, ⟨rfl, hz⟩, hf, rfl⟩
    refine oQi_r hz rfl (rQi_of hM ?_)
    rintro h' o2 h2 hw (⟨a, -⟩ | ⟨-, rfl, rfl⟩)
    · omega
    · refine ⟨_, _, _, rfl, rfl, rfl, fun _ => rfl, bg + 1, ln, rs, MD, SC, CL, PI, ⟨rfl, by omega, rfl, hT.2.2.2.1, fun t => ?_, fun t ht => ?_⟩, hL.of rfl rfl rfl rfl rfl rfl, hB.of (fun _ => rfl) (fun _ => rfl) (fun _ => rfl) rfl rfl rfl rfl, ⟨hV.1, hV.2.1, fun v hv => Nat.le_succ_of_le (hV.2.2.1 v hv), hV.2.2.2⟩, hP.of (fun _ => rfl) (fun _ => rfl) rfl rfl rfl rfl, hR.of rfl rfl (fun _ _ => rfl) rfl rfl rfl rfl⟩
      · show va_up (A 6) (bg + 1) 1 t = nI (va_up Z.st (bg + 1) 1 t)
        by_cases e : t = bg + 1
        · rw [e, va_up_self, va_up_self]; rfl
        · rw [va_up_ne _ _ e, va_up_ne _ _ e]; exact hT.2.2.2.2.1 t
      · show va_up Z.st (bg + 1) 1 t = 0
        rw [va_up_ne _ _ (by omega)]
        exact hT.2.2.2.2.2 t (by omega)
  · refine ⟨1, 6, ⟨by decide, by decide⟩, kx_cc ?_ (cL_begin_10 (d := 18) (Pq := fun h' => cOk G m S A h' Z) hst hx (cV_begin1 (d := 17) hst hZ hT.1 hT.2.1 e2))⟩
    rintro o h' ⟨rfl, hz⟩
    refine oQi_t 1 (by decide) (by decide) hz rfl (rQi_of hM ?_)
    rintro h' o2 h2 hw (⟨-, rfl, rfl⟩ | ⟨a, -⟩)
    · exact ⟨_, _, _, rfl, rfl, rfl, fun z => absurd z (by decide), sim_S0 hs0⟩
    · omega
/-- a transaction ends -/
theorem sTr.end {bg tn x : Nat} (hT : sTr Z S A bg) (h1 : 1 ≤ tn) (h2 : tn ≤ bg) : (∀ t, va_up (A 6) tn (nI x) t = nI (va_up Z.st tn x t)) ∧ ∀ t, t = 0 ∨ bg < t → va_up Z.st tn x t = 0 := by
  refine ⟨fun t => ?_, fun t ht => ?_⟩
  · by_cases e : t = tn
    · rw [e, va_up_self, va_up_self]
    · rw [va_up_ne _ _ e, va_up_ne _ _ e]; exact hT.2.2.2.2.1 t
  · rw [va_up_ne _ _ (by omega)]
    exact hT.2.2.2.2.2 t (by omega)
theorem stp_commit {t : Int32} (hst : l.stackTraces = false) (hZ : cOk G m S A h Z) (hs : sim Z S A) : ∃ mc ms, nCl mc ms ∧ kx_c G l mL_commit 19 mc ms [.ref (Z.ad rV), .int t] h (oQv G l m S A Z mM_commit [.ref m, .int t]) := by
  have hs0 := hs
  obtain ⟨bg, ln, rs, MD, SC, CL, PI, hT, hL, hB, hV, hP, hR⟩ := hs
  have hM : ∀ h', mOk G h' m → _ := fun h' hm => cM_commit (l := l) (t := t) (d := 18) (S := S) (A := A) hst hm hT.2.2.1 hT.2.1
  have hx := hZ.is rV rfl
  by_cases e : cOp Z bg t
  · have e0 := e
    obtain ⟨tn, t1, t2, rfl, t3⟩ := e
    refine ⟨0, 0, ⟨by decide, by decide⟩, kx_cc ?_ (cL_commit_r (d := 18) (Pq := fun h' => cOk G m S A h' (Z.sT tn 2)) hst hx (cV_commit0 (d := 16) hst hZ hT.1 hT.2.1 t1 t2 t3))⟩
    rintro o h' ⟨rfl, hz⟩
    refine oQv_r 0 (by decide) hz rfl (rQv_of hM ?_)
    rintro h' o2 h2 hw ⟨rfl, ⟨a, -⟩ | ⟨tn', u1, u2, u3, u4, rfl⟩⟩
    · exact absurd ((op_iff hT hZ.wf _).mpr e0) a
    · have := nI_small (by have := hT.2.1; omega) (by have := hT.2.1; omega) u3
      subst this
      have z := hT.end (x := 2) t1 t2
      exact ⟨_, _, rfl, rfl, rfl, bg, ln, rs, MD, SC, CL, PI, ⟨hT.1, hT.2.1, hT.2.2.1, hT.2.2.2.1, z.1, z.2⟩, hL.of rfl rfl rfl rfl rfl rfl, hB.of (fun _ => rfl) (fun _ => rfl) (fun _ => rfl) rfl rfl rfl rfl, hV.of rfl (fun _ _ => rfl) rfl rfl, hP.of (fun _ => rfl) (fun _ => rfl) rfl rfl rfl rfl, hR.of rfl rfl (fun _ _ => rfl) rfl rfl rfl rfl⟩
  · refine ⟨1, 6, ⟨by decide, by decide⟩, kx_cc ?_ (cL_commit_11 (d := 18) (Pq := fun h' => cOk G m S A h' Z) hst hx (cV_commit1 (d := 16) hst hZ hT.1 hT.2.1 e))⟩
    rintro o h' ⟨rfl, hz⟩
    refine oQv_r 1 (by decide) hz rfl (rQv_of hM ?_)
    rintro h' o2 h2 hw ⟨rfl, ⟨-, rfl⟩ | ⟨tn', u1, u2, u3, u4, rfl⟩⟩
    · exact ⟨_, _, rfl, rfl, rfl, sim_S0 hs0⟩
    · exact absurd ((op_iff hT hZ.wf _).mp ⟨tn', u1, u2, u3, u4⟩) e
/-- a transaction's versions go -/
theorem sVr.brk {bg tn : Nat} {MD : Nat → Nat} {Z' : cZ} {A1 : Nat → Nat → Int32} (hV : sVr Z A bg MD) (h1 : ∀ v, Z'.V v = vBrk Z.V tn v) (h2 : ∀ v, Z'.ia (rVal v) = Z.ia (rVal v)) (h4 : A1 4 = fun v => nI (vBrk Z.V tn v)) (h5 : A1 5 = A 5) : sVr Z' A1 bg MD := by
  obtain ⟨v1, v2, v3, v4⟩ := hV
  have z : ∀ v, ¬ Z'.V v = 0 → Z'.V v = Z.V v := fun v hv => by
    rw [h1] at hv ⊢
    unfold vBrk at hv ⊢
    by_cases e : v % 40 = tn - 1 ∧ v < 2880
    · rw [if_pos e] at hv; exact absurd rfl hv
    · rw [if_neg e]
  refine ⟨fun v => by rw [h4, h1], fun v hv => v2 v (by rw [← z v hv]; exact hv), fun v hv => v3 v (by rw [← z v hv]; exact hv), fun v hv hg c hc => ?_⟩
  rw [h2, h5]
  exact v4 v (by rw [← z v hv]; exact hv) (by rw [← z v hv]; exact hg) c hc
theorem stp_abort {t : Int32} (hst : l.stackTraces = false) (hZ : cOk G m S A h Z) (hs : sim Z S A) : ∃ mc ms, nCl mc ms ∧ kx_c G l mL_abort 19 mc ms [.ref (Z.ad rV), .int t, .ref (m + 19)] h (oQi G l m S A Z mM_abort [.ref m, .int t]) := by
  have hs0 := hs
  obtain ⟨bg, ln, rs, MD, SC, CL, PI, hT, hL, hB, hV, hP, hR⟩ := hs
  have hM : ∀ h', mOk G h' m → _ := fun h' hm => cM_abort (l := l) (t := t) (d := 18) (S := S) (A := A) hst hm hT.2.2.1 hT.2.1 hV.1 hZ.wf.low
  have hx := hZ.is rV rfl
  by_cases e : cOp Z bg t
  · have e0 := e
    obtain ⟨tn, t1, t2, rfl, t3⟩ := e
    refine ⟨0, 0, ⟨by decide, by decide⟩, kx_cc ?_ (cL_abort_r (d := 18) (a := m + 19) (Pq := fun v h' => v = _ ∧ ∃ V2, cOk G m S A h' ((Z.sT tn 3).wV V2) ∧ ∀ v, V2 v = vBrk Z.V tn v) (fun v h1 hp => by obtain ⟨-, V2, hz, -⟩ := hp; exact a19 hz) hst hx (kx_cc (fun o h' hq => ⟨_, hq.1, rfl, hq.2⟩) (cV_abort0 (d := 14) hst hZ hB.1 hV.2.1 hT.1 hT.2.1 t1 t2 t3)))⟩
    rintro o h' ⟨v, h1, f, rfl, ⟨rfl, V2, hz, hV2⟩, hf, rfl⟩
    refine oQi_r hz rfl (rQi_of hM ?_)
    rintro h' o2 h2 hw (⟨a, -⟩ | ⟨tn', u1, u2, u3, u4, rfl, rfl⟩)
    · exact absurd ((op_iff hT hZ.wf _).mpr e0) a
    · have := nI_small (by have := hT.2.1; omega) (by have := hT.2.1; omega) u3
      subst this
      have z := hT.end (x := 3) t1 t2
      exact ⟨_, _, _, rfl, rfl, rfl, fun _ => rfl, bg, ln, rs, MD, SC, CL, PI, ⟨hT.1, hT.2.1, hT.2.2.1, hT.2.2.2.1, z.1, z.2⟩, hL.of rfl rfl rfl rfl rfl rfl, hB.of (fun _ => rfl) (fun _ => rfl) (fun _ => rfl) rfl rfl rfl rfl, hV.brk hV2 (fun _ => rfl) rfl rfl, hP.of (fun _ => rfl) (fun _ => rfl) rfl rfl rfl rfl, hR.of rfl rfl (fun _ _ => rfl) rfl rfl rfl rfl⟩
  · refine ⟨1, 6, ⟨by decide, by decide⟩, kx_cc ?_ (cL_abort_11 (d := 18) (Pq := fun h' => cOk G m S A h' Z) hst hx (cV_abort1 (d := 14) hst hZ hT.1 hT.2.1 e))⟩
    rintro o h' ⟨rfl, hz⟩
    refine oQi_t 1 (by decide) (by decide) hz rfl (rQi_of hM ?_)
    rintro h' o2 h2 hw (⟨-, rfl, rfl⟩ | ⟨tn', u1, u2, u3, u4, -⟩)
    · exact ⟨_, _, _, rfl, rfl, rfl, fun z => absurd z (by decide), sim_S0 hs0⟩
    · exact absurd ((op_iff hT hZ.wf _).mp ⟨tn', u1, u2, u3, u4⟩) e
end KS1
