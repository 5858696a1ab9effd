/-! ===== more calls ===== -/
section KS2
variable {G : kx_G} {l : Launch} {m : Nat} {S : Nat → Int32} {A : Nat → Nat → Int32} {h : kx_H} {Z : cZ}
theorem stp_create {k c : Int32} (hst : l.stackTraces = false) (hZ : cOk G m S A h Z) (hs : sim Z S A) : ∃ mc ms, nCl mc ms ∧ kx_c G l mL_create 19 mc ms [.ref (Z.ad rV), .int k, .int c] h (oQv G l m S A Z mM_create [.ref m, .int k, .int c]) := by
  have hs0 := hs
  obtain ⟨bg, ln, rs, MD, SC, CL, PI, hT, hL, hB, hV, hP, hR⟩ := hs
  have hM : ∀ h', mOk G h' m → _ := fun h' hm => cM_create (l := l) (k := k) (c := c) (d := 18) (S := S) (A := A) hst hm
  have hx := hZ.is rV rfl
  have k3 : ∀ y : Int32, 3 ≤ y ↔ ¬ y < 3 := fun y => by rw [kI_lt, kI_le]; omega
  have k4 : ∀ y : Int32, 4 < y ↔ ¬ y ≤ 4 := fun y => by rw [kI_lt, kI_le]; omega
  by_cases e1 : k < 0 ∨ ¬ k < 3 ∨ c < 1 ∨ ¬ c ≤ 4
  · refine ⟨1, 6, ⟨by decide, by decide⟩, kx_cc ?_ (cL_create_9 (d := 18) (Pq := fun h' => cOk G m S A h' Z) hst hx (cV_create1 (d := 16) hst hZ e1))⟩
    rintro o h' ⟨rfl, hz⟩
    refine oQv_r 1 (by decide) hz rfl (rQv_of hM ?_)
    rintro h' o2 h2 hw ⟨rfl, ⟨-, rfl⟩ | ⟨kn, a, b, c1, c2, -⟩⟩
    · exact ⟨_, _, rfl, rfl, rfl, sim_S0 hs0⟩
    · refine absurd e1 ?_
      have z := i_not_lt (n := 3) (by decide) a b
      rintro (y | y | y | y)
      · exact z (Or.inl y)
      · exact z (Or.inr ((k3 k).mpr y))
      · exact c1 y
      · exact c2 ((k4 c).mpr y)
  · have a0 : ¬ k < 0 := fun z => e1 (Or.inl z)
    have a1 : k < nI 3 := Classical.byContradiction fun z => e1 (Or.inr (Or.inl z))
    have a2 : ¬ c < 1 := fun z => e1 (Or.inr (Or.inr (Or.inl z)))
    have a3 : c ≤ 4 := Classical.byContradiction fun z => e1 (Or.inr (Or.inr (Or.inr z)))
    obtain ⟨kn, hk, rfl⟩ := i_lt_nI (by decide) a0 a1
    have z1 : (1 : Int32).toInt = 1 := rfl
    have z4 : (4 : Int32).toInt = 4 := rfl
    have b2 : ¬ c.toInt < 1 := fun z => a2 (kI_lt.mpr z)
    have b3 : c.toInt ≤ 4 := kI_le.mp a3
    obtain ⟨cl, rfl, hcl, -⟩ := kI_nat (x := c) (by omega)
    have hc1 : 1 ≤ cl := by omega
    have hc2 : cl ≤ 4 := by omega
    have nb : ¬ ((nI kn < 0 ∨ 3 ≤ nI kn) ∨ nI cl < 1 ∨ 4 < nI cl) := by
      rintro (y | y | y)
      · exact i_not_lt (n := 3) (by decide) hk rfl y
      · exact a2 y
      · exact (k4 _).mp y a3
    have pos : ∀ j, 0 < A 1 j ↔ ¬ CL j = 0 := fun j => by
      rw [hB.2.1 j, kI_lt, nI_toInt (by have := hB.2.2.1 j; omega)]
      have : (0 : Int32).toInt = 0 := rfl
      omega
    by_cases e2 : Z.tb kn = true
    · refine ⟨1, 6, ⟨by decide, by decide⟩, kx_cc ?_ (cL_create_10 (d := 18) (Pq := fun h' => cOk G m S A h' Z) hst hx (cV_create2 (d := 16) hst hZ hk hc1 hc2 e2))⟩
      rintro o h' ⟨rfl, hz⟩
      refine oQv_r 2 (by decide) hz rfl (rQv_of hM ?_)
      rintro h' o2 h2 hw ⟨rfl, ⟨y, -⟩ | ⟨kn', a, b, c1, c2, ⟨d1, rfl⟩ | ⟨d1, -⟩⟩⟩
      · exact absurd y nb
      · exact ⟨_, _, rfl, rfl, rfl, sim_S0 hs0⟩
      · have := nI_small (by omega) (by omega) b
        subst this
        exact absurd ((pos kn).mpr ((hB.2.2.2.2.2.2.2 kn hk).1 e2)) d1
    · have e2 := kB_f e2
      refine ⟨50, 1036, ⟨by decide, by decide⟩, kx_cc ?_ (cL_create_r (d := 18) (Pq := fun h' => ∃ a, cOk G m S A h' (Z.nT kn a (nI cl))) hst hx (cV_create0 (d := 16) hst hZ hk hc1 hc2 e2))⟩
      rintro o h' ⟨rfl, a, hz⟩
      refine oQv_r 0 (by decide) hz rfl (rQv_of hM ?_)
      rintro h' o2 h2 hw ⟨rfl, ⟨y, -⟩ | ⟨kn', a1, b, c1, c2, ⟨d1, -⟩ | ⟨d1, rfl⟩⟩⟩
      · exact absurd y nb
      · have := nI_small (by omega) (by omega) b
        subst this
        exact absurd ((hB.2.2.2.2.2.2.2 kn hk).2 e2).1 ((pos kn).mp d1)
      · have := nI_small (by omega) (by omega) b
        subst this
        obtain ⟨w0, w1, w2, w3, w4, w5, w6, w7⟩ := hB
        obtain ⟨q1, q2, q3⟩ := (w7 kn hk).2 e2
        refine ⟨_, _, rfl, rfl, rfl, bg, ln, rs, MD, SC, va_up CL kn cl, PI, hT.of rfl rfl rfl rfl rfl rfl, hL.of rfl rfl rfl rfl rfl rfl, ⟨fun j hj ht => ?_, fun j => ?_, fun j => ?_, w3, w4, w5, w6, fun j hj => ?_⟩, hV.of rfl (fun _ _ => rfl) rfl rfl, hP.of (fun _ => rfl) (fun _ => rfl) rfl rfl rfl rfl, hR.of rfl rfl (fun _ _ => rfl) rfl rfl rfl rfl⟩
        · by_cases e : j = kn
          · subst e
            have s0 : ∀ x, (Z.nT j a (nI cl)).sc (rTab j) x = if x = 0 then nI cl else 0 := fun x => if_pos ⟨rfl, rfl⟩
            rw [s0, s0, s0, va_up_self, q2, q3]
            exact ⟨rfl, hc1, hc2, rfl, by omega, rfl, by omega⟩
          · have s0 : ∀ x, (Z.nT kn a (nI cl)).sc (rTab j) x = Z.sc (rTab j) x := fun x => if_neg (fun z => e z.2)
            rw [s0, s0, s0, va_up_ne _ _ e]
            exact w0 j hj (by rw [← ht]; exact (va_up_ne _ _ e).symm)
        · show va_up (A 1) kn (nI cl) j = nI (va_up CL kn cl j)
          by_cases e : j = kn
          · rw [e, va_up_self, va_up_self]
          · rw [va_up_ne _ _ e, va_up_ne _ _ e]; exact w1 j
        · by_cases e : j = kn
          · rw [e, va_up_self]; exact hc2
          · rw [va_up_ne _ _ e]; exact w2 j
        · show (va_up Z.tb kn true j = true → _) ∧ (va_up Z.tb kn true j = false → _)
          by_cases e : j = kn
          · rw [e, va_up_self, va_up_self]; exact ⟨fun _ => by omega, fun z => absurd z (by decide)⟩
          · rw [va_up_ne _ _ e, va_up_ne _ _ e]; exact w7 j hj
theorem stp_result {i c : Int32} (hst : l.stackTraces = false) (hZ : cOk G m S A h Z) (hs : sim Z S A) : ∃ mc ms, nCl mc ms ∧ kx_c G l mL_result 19 mc ms [.ref (Z.ad rV), .int i, .int c, .ref (m + 19)] h (oQi G l m S A Z mM_result [.ref m, .int i, .int c]) := by
  have hs0 := hs
  obtain ⟨bg, ln, rs, MD, SC, CL, PI, hT, hL, hB, hV, hP, hR⟩ := hs
  have hM : ∀ h', mOk G h' m → _ := fun h' hm => cM_result (l := l) (i := i) (c := c) (d := 18) (S := S) (A := A) hst hm hR.1 hR.2.1
  have hx := hZ.is rV rfl
  have hr24 := hR.2.1
  by_cases e1 : i < 0 ∨ ¬ i < nI rs
  · refine ⟨1, 6, ⟨by decide, by decide⟩, kx_cc ?_ (cL_result_11 (d := 18) (Pq := fun h' => cOk G m S A h' Z) hst hx (cV_result1 (d := 17) hst hZ hR.2.2.1 hr24 e1))⟩
    rintro o h' ⟨rfl, hz⟩
    refine oQi_t 1 (by decide) (by decide) hz rfl (rQi_of hM ?_)
    rintro h' o2 h2 hw (⟨-, rfl, rfl⟩ | ⟨n, hn, e, -⟩)
    · exact ⟨_, _, _, rfl, rfl, rfl, fun z => absurd z (by decide), sim_S0 hs0⟩
    · refine absurd e1 ?_
      have z := i_not_lt (n := rs) (by omega) hn e
      rintro (y | y)
      · exact z (Or.inl y)
      · exact z (Or.inr (by rw [kI_le]; rw [kI_lt] at y; omega))
  · have a0 : ¬ i < 0 := fun z => e1 (Or.inl z)
    have a1 : i < nI rs := Classical.byContradiction fun z => e1 (Or.inr z)
    obtain ⟨n, hn, rfl⟩ := i_lt_nI (by omega) a0 a1
    have nb := i_not_lt (n := rs) (by omega) hn rfl
    have m1 : (-1 : Int32).toInt = -1 := rfl
    have m3 : (3 : Int32).toInt = 3 := rfl
    have m4 : (4 : Int32).toInt = 4 := rfl
    have m0 : (0 : Int32).toInt = 0 := rfl
    by_cases e2 : c = -1
    · subst e2
      refine ⟨0, 0, ⟨by decide, by decide⟩, kx_cc ?_ (cL_result_r (d := 18) (a := m + 19) (Pq := fun v h' => v = _ ∧ cOk G m S A h' Z) (fun v h1 hp => a19 hp.2) hst hx (kx_cc (fun o h' hq => ⟨_, hq.1, rfl, hq.2⟩) (cV_result2 (d := 17) hst hZ hR.2.2.1 hr24 hn)))⟩
      rintro o h' ⟨v, h1, f, rfl, ⟨rfl, hz⟩, hf, rfl⟩
      refine oQi_r hz rfl (rQi_of hM ?_)
      rintro h' o2 h2 hw (⟨y, -⟩ | ⟨n', hn', e, ⟨y, -⟩ | ⟨-, rfl, rfl⟩ | ⟨cn, h4, y, -⟩⟩)
      · exact absurd y nb
      · exact absurd y (by decide)
      · have := nI_small (by omega) (by omega) e
        subst this
        exact ⟨_, _, _, rfl, rfl, rfl, fun _ => (hR.2.2.2 n hn).1, sim_S0 hs0⟩
      · have := congrArg Int32.toInt y
        rw [nI_toInt (by omega)] at this
        omega
    · by_cases e3 : c < 0 ∨ ¬ c < 4
      · refine ⟨1, 6, ⟨by decide, by decide⟩, kx_cc ?_ (cL_result_14 (d := 18) (Pq := fun h' => cOk G m S A h' Z) hst hx (cV_result3 (d := 17) hst hZ hR.2.2.1 hr24 hn e2 e3))⟩
        rintro o h' ⟨rfl, hz⟩
        refine oQi_t 2 (by decide) (by decide) hz rfl (rQi_of hM ?_)
        rintro h' o2 h2 hw (⟨y, -⟩ | ⟨n', hn', e, ⟨-, rfl, rfl⟩ | ⟨y, -⟩ | ⟨cn, h4, y, -⟩⟩)
        · exact absurd y nb
        · exact ⟨_, _, _, rfl, rfl, rfl, fun z => absurd z (by decide), sim_S0 hs0⟩
        · exact absurd y e2
        · refine absurd e3 ?_
          have z := i_not_lt (n := 4) (by decide) h4 y
          rintro (y | y)
          · exact z (Or.inl y)
          · exact z (Or.inr (by rw [kI_le]; rw [kI_lt] at y; have : (nI 4).toInt = 4 := rfl; omega))
      · obtain ⟨cn, hc4, rfl⟩ := i_lt_nI (n := 4) (by decide) (fun z => e3 (Or.inl z)) (Classical.byContradiction fun z => e3 (Or.inr z))
        refine ⟨0, 0, ⟨by decide, by decide⟩, kx_cc ?_ (cL_result_r (d := 18) (a := m + 19) (Pq := fun v h' => v = _ ∧ cOk G m S A h' Z) (fun v h1 hp => a19 hp.2) hst hx (kx_cc (fun o h' hq => ⟨_, hq.1, rfl, hq.2⟩) (cV_result0 (d := 17) hst hZ hR.2.2.1 hr24 hn hc4)))⟩
        rintro o h' ⟨v, h1, f, rfl, ⟨rfl, hz⟩, hf, rfl⟩
        refine oQi_r hz rfl (rQi_of hM ?_)
        rintro h' o2 h2 hw (⟨y, -⟩ | ⟨n', hn', e, ⟨y, -⟩ | ⟨y, -⟩ | ⟨cn', h4, y, rfl, rfl⟩⟩)
        · exact absurd y nb
        · rw [kI_lt, kI_lt, nI_toInt (by omega)] at y
          omega
        · exact absurd y e2
        · have := nI_small (by omega) (by omega) e
          subst this
          have := nI_small (by omega) (by omega) y
          subst this
          exact ⟨_, _, _, rfl, rfl, rfl, fun _ => (hR.2.2.2 n hn).2 cn hc4, sim_S0 hs0⟩
theorem lsum_cg {f g : Nat → Int32} : ∀ {n : Nat}, (∀ i, i < n → f i = g i) → lsum f n = lsum g n
  | 0, _ => rfl
  | n + 1, h => by
    show lsum f n + _ = lsum g n + _
    rw [lsum_cg (fun i hi => h i (by omega)), h n (by omega)]
theorem stp_mean {c : Int32} (hst : l.stackTraces = false) (hZ : cOk G m S A h Z) (hs : sim Z S A) : ∃ mc ms, nCl mc ms ∧ kx_c G l mL_mean 19 mc ms [.ref (Z.ad rV), .int c, .ref (m + 20)] h (oQd G l m S A Z mM_mean [.ref m, .int c]) := by
  have hs0 := hs
  obtain ⟨bg, ln, rs, MD, SC, CL, PI, hT, hL, hB, hV, hP, hR⟩ := hs
  have hM : ∀ h', mOk G h' m → _ := fun h' hm => cM_mean (l := l) (c := c) (d := 18) (S := S) (A := A) hst hm hR.1 hR.2.1
  have hx := hZ.is rV rfl
  have hr24 := hR.2.1
  have m4 : (4 : Int32).toInt = 4 := rfl
  by_cases e3 : c < 0 ∨ ¬ c < 4
  · refine ⟨1, 6, ⟨by decide, by decide⟩, kx_cc ?_ (cL_mean_14 (d := 18) (Pq := fun h' => cOk G m S A h' Z) hst hx (cV_mean1 (d := 17) hst hZ e3))⟩
    rintro o h' ⟨rfl, hz⟩
    refine oQd_t 1 (by decide) (by decide) hz rfl (rQd_of hM ?_)
    rintro h' o2 h2 hw (⟨-, ⟨x, rfl⟩, rfl⟩ | ⟨cn, h4, y, -⟩)
    · exact ⟨_, _, _, rfl, rfl, rfl, fun z => absurd z (by decide), sim_S0 hs0⟩
    · refine absurd e3 ?_
      have z := i_not_lt (n := 4) (by decide) h4 y
      rintro (y | y)
      · exact z (Or.inl y)
      · exact z (Or.inr (by rw [kI_le]; rw [kI_lt] at y; have : (nI 4).toInt = 4 := rfl; omega))
  · obtain ⟨cn, hc4, rfl⟩ := i_lt_nI (n := 4) (by decide) (fun z => e3 (Or.inl z)) (Classical.byContradiction fun z => e3 (Or.inr z))
    have nb := i_not_lt (n := 4) (by decide) hc4 rfl
    by_cases e4 : rs = 0
    · refine ⟨1, 6, ⟨by decide, by decide⟩, kx_cc ?_ (cL_mean_13 (d := 18) (Pq := fun h' => cOk G m S A h' Z) hst hx (cV_mean2 (d := 17) hst hZ hR.2.2.1 hr24 hc4 e4))⟩
      rintro o h' ⟨rfl, hz⟩
      refine oQd_t 2 (by decide) (by decide) hz rfl (rQd_of hM ?_)
      rintro h' o2 h2 hw (⟨y, -⟩ | ⟨cn', h4, y, ⟨-, ⟨x, rfl⟩, rfl⟩ | ⟨y2, -⟩⟩)
      · exact absurd y nb
      · exact ⟨_, _, _, rfl, rfl, rfl, fun z => absurd z (by decide), sim_S0 hs0⟩
      · exact absurd e4 y2
    · refine ⟨0, 0, ⟨by decide, by decide⟩, kx_cc ?_ (cL_mean_r (d := 18) (a := m + 20) (Pq := fun v h' => v = _ ∧ cOk G m S A h' Z) (fun v h1 hp => a20 hp.2) hst hx (kx_cc (fun o h' hq => ⟨_, hq.1, rfl, hq.2⟩) (cV_mean0 (d := 17) hst hZ hR.2.2.1 hr24 hc4 e4)))⟩
      rintro o h' ⟨v, h1, f, rfl, ⟨rfl, hz⟩, hf, rfl⟩
      refine oQd_r hz rfl (rQd_of hM ?_)
      rintro h' o2 h2 hw (⟨y, -⟩ | ⟨cn', h4, y, ⟨y2, -⟩ | ⟨-, rfl, rfl⟩⟩)
      · exact absurd y nb
      · exact absurd y2 e4
      · have := nI_small (by omega) (by omega) y
        subst this
        exact ⟨_, _, _, rfl, rfl, rfl, fun _ => by rw [lsum_cg (fun i hi => (hR.2.2.2 i hi).2 cn hc4)], sim_S0 hs0⟩
theorem stp_versions {k r : Int32} (hst : l.stackTraces = false) (hZ : cOk G m S A h Z) (hs : sim Z S A) : ∃ mc ms, nCl mc ms ∧ kx_c G l mL_versions 19 mc ms [.ref (Z.ad rV), .int k, .int r, .ref (m + 19)] h (oQi G l m S A Z mM_versions [.ref m, .int k, .int r]) := by
  have hs0 := hs
  obtain ⟨bg, ln, rs, MD, SC, CL, PI, hT, hL, hB, hV, hP, hR⟩ := hs
  have hM : ∀ h', mOk G h' m → _ := fun h' hm => cM_versions (l := l) (k := k) (r := r) (d := 17) (S := S) (A := A) hst hm hB.2.2.2.1 hB.2.2.2.2.1 hV.1 hZ.wf.low
  have hx := hZ.is rV rfl
  by_cases e : cTb Z k
  · obtain ⟨kn, hk, rfl, ht⟩ := e
    obtain ⟨n1, n2, n3, n4, n5, n6, n7⟩ := hB.1 kn hk ht
    by_cases e2 : r < 0 ∨ ¬ r < nI (MD kn)
    · refine ⟨1, 6, ⟨by decide, by decide⟩, kx_cc ?_ (cL_versions_11 (d := 18) (Pq := fun h' => cOk G m S A h' Z) hst hx (cV_versions1 (d := 16) hst hZ hk ht n4 n5 e2))⟩
      rintro o h' ⟨rfl, hz⟩
      refine oQi_t 1 (by decide) (by decide) hz rfl (rQi_of hM ?_)
      rintro h' o2 h2 hw (⟨-, rfl, rfl⟩ | ⟨kn', rn, u1, u2, u3, u4, u5, -⟩)
      · exact ⟨_, _, _, rfl, rfl, rfl, fun z => absurd z (by decide), sim_S0 hs0⟩
      · have := nI_small (by omega) (by omega) u2
        subst this
        refine absurd e2 ?_
        have z := i_not_lt (n := MD kn) (by omega) u4 u5
        rintro (y | y)
        · exact z (Or.inl y)
        · exact z (Or.inr (by rw [kI_le]; rw [kI_lt] at y; omega))
    · obtain ⟨rn, hr, rfl⟩ := i_lt_nI (n := MD kn) (by omega) (fun z => e2 (Or.inl z)) (Classical.byContradiction fun z => e2 (Or.inr z))
      refine ⟨0, 0, ⟨by decide, by decide⟩, kx_cc ?_ (cL_versions_r (d := 18) (a := m + 19) (Pq := fun v h' => v = _ ∧ cOk G m S A h' Z) (fun v h1 hp => a19 hp.2) hst hx (kx_cc (fun o h' hq => ⟨_, hq.1, rfl, hq.2⟩) (cV_versions0 (d := 16) hst hZ hk ht n4 n5 hr)))⟩
      rintro o h' ⟨v, h1, f, rfl, ⟨rfl, hz⟩, hf, rfl⟩
      refine oQi_r hz rfl (rQi_of hM ?_)
      rintro h' o2 h2 hw (⟨y, -⟩ | ⟨kn', rn', u1, u2, u3, u4, u5, rfl, rfl⟩)
      · exact absurd ⟨kn, rn, hk, rfl, (cl_iff hB hk).mpr ht, hr, rfl⟩ y
      · have := nI_small (by omega) (by omega) u2
        subst this
        have := nI_small (by omega) (by omega) u5
        subst this
        exact ⟨_, _, _, rfl, rfl, rfl, fun _ => rfl, sim_S0 hs0⟩
  · refine ⟨1, 6, ⟨by decide, by decide⟩, kx_cc ?_ (cL_versions_11 (d := 18) (Pq := fun h' => cOk G m S A h' Z) hst hx (cV_versions2 (d := 16) hst hZ e))⟩
    rintro o h' ⟨rfl, hz⟩
    refine oQi_t 1 (by decide) (by decide) hz rfl (rQi_of hM ?_)
    rintro h' o2 h2 hw (⟨-, rfl, rfl⟩ | ⟨kn', rn, u1, u2, u3, -⟩)
    · exact ⟨_, _, _, rfl, rfl, rfl, fun z => absurd z (by decide), sim_S0 hs0⟩
    · exact absurd ((tb_iff hB _).mp ⟨kn', u1, u2, u3⟩) e
end KS2
