/-! ===== where, setting ===== -/
section KS4
variable {G : kx_G} {l : Launch} {m : Nat} {S S1 : Nat → Int32} {A A1 : Nat → Nat → Int32} {h : kx_H} {Z Z' : cZ} {bg ln rs : Nat} {MD SC CL : Nat → Nat} {PI : Nat → List Int32}
theorem sPr.len (hP : sPr Z A PI) {i : Nat} (hi : i < 5) : (PI i).length ≤ 40 := by
  cases i with
  | zero => exact hP.1.1
  | succ c =>
    rcases hP.2.2.2.2.1 c (by omega) with z | z
    · rw [z]; exact Nat.zero_le _
    · exact z.1
theorem atL_cg {F F1 : Nat → Int32} {b : Nat} {es : List Int32} (h : atL F b es) (hk : ∀ i, b ≤ i → i < b + es.length → F1 i = F i) : atL F1 b es := fun i x hx => by
  have hi : i < es.length := by
    rw [List.getElem?_eq_some_iff] at hx
    exact hx.1
  rw [hk (b + i) (by omega) (by omega)]; exact h i x hx
theorem sPr.fail (hP : sPr Z A PI) (a : ∀ i, Z'.sc (rPrg i) 2 = Z.sc (rPrg i) 2) (b : ∀ i, Z'.ia (rStp i) = Z.ia (rStp i)) (c : Z'.pl = Z.pl) (c8 : ∀ i, i < 220 → A1 8 i = A 8 i) (c9 : A1 9 = A 9) (c10 : A1 10 = A 10) : sPr Z' A1 PI := by
  have hl := fun i hi => hP.len (i := i) hi
  obtain ⟨h1, h2, h3, h4, h5, h6, h7⟩ := hP
  refine ⟨h1, by rw [a]; exact h2, by rw [b]; exact h3, fun x hx hp => ?_, h5, fun i hi => ?_, by rw [c, c10]; exact h7⟩
  · rw [a, b]; exact h4 x hx (by rw [← c]; exact hp)
  · rw [c9]
    exact ⟨(h6 i hi).1, atL_cg (h6 i hi).2 (fun j h1 h2 => c8 j (by have := hl i hi; omega))⟩
theorem sPr.new {i n : Nat} {F : Nat → Int32} {es : List Int32} (hP : sPr Z A PI) (hi : i < 5) (ok0 : i = 0 → okC es) (ok1 : ¬ i = 0 → okS es) (hn : n = es.length) (hF : prg F es) (a : ∀ j, ¬ j = i → Z'.sc (rPrg j) 2 = Z.sc (rPrg j) 2) (a' : Z'.sc (rPrg i) 2 = nI n) (b : ∀ j, ¬ j = i → Z'.ia (rStp j) = Z.ia (rStp j)) (b' : Z'.ia (rStp i) = F) (c : Z'.pl = va_up Z.pl i true)
    (c9 : A1 9 = va_up (A 9) i (nI es.length)) (c8 : atL (A1 8) (44 * i) es) (c8' : ∀ j, j < 220 → ¬ (44 * i ≤ j ∧ j < 44 * i + 44) → A1 8 j = A 8 j) (c10 : ∀ c, c < 4 → (¬ A1 10 c = 0 ↔ va_up Z.pl i true (c + 1) = true)) : sPr Z' A1 (va_up PI i es) := by
  have hl := fun i hi => hP.len (i := i) hi
  obtain ⟨h1, h2, h3, h4, h5, h6, h7⟩ := hP
  subst hn
  refine ⟨?_, ?_, ?_, fun x hx hp => ?_, fun x hx => ?_, fun j hj => ?_, fun x hx => ?_⟩
  · by_cases e : 0 = i
    · rw [← e, va_up_self]; exact ok0 e.symm
    · rw [va_up_ne _ _ e]; exact h1
  · by_cases e : 0 = i
    · rw [← e] at a' ⊢; rw [va_up_self]; exact a'
    · rw [va_up_ne _ _ e, a 0 e]; exact h2
  · by_cases e : 0 = i
    · rw [← e] at b' ⊢; rw [va_up_self, b']; exact hF
    · rw [va_up_ne _ _ e, b 0 e]; exact h3
  · show okS (va_up PI i es (x + 1)) ∧ Z'.sc (rPrg (x + 1)) 2 = nI (va_up PI i es (x + 1)).length ∧ prg (Z'.ia (rStp (x + 1))) (va_up PI i es (x + 1))
    by_cases e : x + 1 = i
    · rw [e, va_up_self, a', b']; exact ⟨ok1 (by omega), rfl, hF⟩
    · rw [va_up_ne _ _ e, a _ e, b _ e]
      exact h4 x hx (by rw [c, va_up_ne _ _ e] at hp; exact hp)
  · by_cases e : x + 1 = i
    · rw [e, va_up_self]; exact Or.inr (ok1 (by omega))
    · rw [va_up_ne _ _ e]; exact h5 x hx
  · rw [c9]
    by_cases e : j = i
    · rw [e, va_up_self, va_up_self]; exact ⟨rfl, c8⟩
    · rw [va_up_ne _ _ e, va_up_ne _ _ e]
      exact ⟨(h6 j hj).1, atL_cg (h6 j hj).2 (fun q h1 h2 => c8' q (by have := hl j hj; omega) (by have := hl j hj; omega))⟩
  · rw [c]; exact c10 x hx
theorem stp_where (hst : l.stackTraces = false) (hZ : cOk G m S A h Z) (hs : sim Z S A) : ∃ mc ms, nCl mc ms ∧ kx_c G l mL_where 19 mc ms [.ref (Z.ad rV)] h (oQv G l m S A Z mM_where [.ref m]) := by
  obtain ⟨bg, ln, rs, MD, SC, CL, PI, hT, hL, hB, hV, hP, hR⟩ := hs
  have hM : ∀ h', mOk G h' m → _ := fun h' hm => cM_where (l := l) (d := 12) (S := S) (A := A) hst hm hL.2.2.1 hL.2.1
  have hx := hZ.is rV rfl
  have e7 := hL.2.2.2.2
  cases hr : (pCond (Z.ia rLin) ln).1 with
  | true =>
    refine ⟨4, 89, ⟨by decide, by decide⟩, kx_cc ?_ (cL_where_r (d := 18) (Pq := fun h' => ∃ (F : Nat → Int32) (n p s k : Nat), cOk G m S A h' (((Z.sS rV 3 0).sS rV 4 (-1)).nP 0 p s k (nI n) F (fun _ => 0)) ∧ n = (pCond (Z.ia rLin) ln).2.2.length ∧ prg F (pCond (Z.ia rLin) ln).2.2) hst hx (cV_where0 (d := 1) hst hZ hL.1 hL.2.1 hr))⟩
    rintro o h' ⟨rfl, F, n, p, s, k, hz, hn, hF⟩
    refine oQv_r 0 (by decide) hz rfl (rQv_of hM ?_)
    rintro h' o2 h2 hw ⟨S1, A1, rfl, rfl, ⟨q0, q1, q2, q3, q4, q5, -⟩, q10⟩
    rw [e7] at q0 q2 q5
    rw [hr] at q0 q2 q5
    obtain ⟨r1, r2, r3⟩ := q5 rfl
    refine ⟨_, _, rfl, rfl, q0, bg, 0, rs, MD, SC, CL, va_up PI 0 (pCond (Z.ia rLin) ln).2.2, hT.of rfl rfl rfl (q3 _ (by decide) (by decide) (by decide) (by decide) (by decide) (by decide) (by decide)) (q3 _ (by decide) (by decide) (by decide) (by decide) (by decide) (by decide) (by decide)) (q4 _ (by decide) (by decide) (by decide) (by decide) (by decide)), ⟨rfl, by decide, q1, q2, ?_⟩, hB.of (fun _ => rfl) (fun _ => rfl) (fun _ => rfl) rfl (q4 _ (by decide) (by decide) (by decide) (by decide) (by decide)) (q4 _ (by decide) (by decide) (by decide) (by decide) (by decide)) (q4 _ (by decide) (by decide) (by decide) (by decide) (by decide)), hV.of rfl (fun _ _ => rfl) (q4 _ (by decide) (by decide) (by decide) (by decide) (by decide)) (q4 _ (by decide) (by decide) (by decide) (by decide) (by decide)), ?_, hR.of rfl rfl (fun _ _ => rfl) rfl (q3 _ (by decide) (by decide) (by decide) (by decide) (by decide) (by decide) (by decide)) (q4 _ (by decide) (by decide) (by decide) (by decide) (by decide)) (q4 _ (by decide) (by decide) (by decide) (by decide) (by decide))⟩
    · rw [q4 7 (by decide) (by decide) (by decide) (by decide) (by decide)]; exact e7
    · refine hP.new (i := 0) (by decide) (fun _ => pCond_ok hL.2.1 hr) (fun z => absurd rfl z) hn hF (fun j hj => ?_) ?_ (fun j hj => ?_) ?_ rfl r1 r2 r3 (fun c hc => ?_)
      · exact if_neg (fun z => hj (congrArg Prod.snd z))
      · rfl
      · exact if_neg (fun z => hj (congrArg Prod.snd z))
      · rfl
      · rw [q10, va_up_ne _ _ (by omega)]; exact hP.2.2.2.2.2.2 c hc
  | false =>
    refine ⟨5, 95, ⟨by decide, by decide⟩, kx_cc ?_ (cL_where_9 (d := 18) (Pq := fun h' => cOk G m S A h' ((Z.sS rV 3 0).sS rV 4 (nI (pCond (Z.ia rLin) ln).2.1))) hst hx (cV_where1 (d := 1) hst hZ hL.1 hL.2.1 hr))⟩
    rintro o h' ⟨rfl, hz⟩
    refine oQv_r 1 (by decide) hz rfl (rQv_of hM ?_)
    rintro h' o2 h2 hw ⟨S1, A1, rfl, rfl, ⟨q0, q1, q2, q3, q4, -, q5⟩, q10⟩
    rw [e7] at q0 q2 q5
    rw [hr] at q0 q2 q5
    obtain ⟨r1, r2⟩ := q5 rfl
    refine ⟨_, _, rfl, rfl, q0, bg, 0, rs, MD, SC, CL, PI, hT.of rfl rfl rfl (q3 _ (by decide) (by decide) (by decide) (by decide) (by decide) (by decide) (by decide)) (q3 _ (by decide) (by decide) (by decide) (by decide) (by decide) (by decide) (by decide)) (q4 _ (by decide) (by decide) (by decide) (by decide) (by decide)), ⟨rfl, by decide, q1, q2, ?_⟩, hB.of (fun _ => rfl) (fun _ => rfl) (fun _ => rfl) rfl (q4 _ (by decide) (by decide) (by decide) (by decide) (by decide)) (q4 _ (by decide) (by decide) (by decide) (by decide) (by decide)) (q4 _ (by decide) (by decide) (by decide) (by decide) (by decide)), hV.of rfl (fun _ _ => rfl) (q4 _ (by decide) (by decide) (by decide) (by decide) (by decide)) (q4 _ (by decide) (by decide) (by decide) (by decide) (by decide)), hP.fail (fun _ => rfl) (fun _ => rfl) rfl r2 r1 q10, hR.of rfl rfl (fun _ _ => rfl) rfl (q3 _ (by decide) (by decide) (by decide) (by decide) (by decide) (by decide) (by decide)) (q4 _ (by decide) (by decide) (by decide) (by decide) (by decide)) (q4 _ (by decide) (by decide) (by decide) (by decide) (by decide))⟩
    rw [q4 7 (by decide) (by decide) (by decide) (by decide) (by decide)]; exact e7
def setP (G : kx_G) (m : Nat) (S : Nat → Int32) (A : Nat → Nat → Int32) (Z : cZ) (ln : Nat) (v : Int32) (h' : kx_H) : Prop := ∃ c, c < 4 ∧ Z.ia rLin 0 = nI (97 + c) ∧ v = nI (cnt (fun c2 => va_up Z.pl (c + 1) true (c2 + 1)) 4) ∧ ∃ (F : Nat → Int32) (n p s k : Nat), cOk G m S A h' (((Z.sS rV 3 0).sS rV 4 (-1)).nP (c + 1) p s k (nI n) F (fun _ => 0)) ∧ n = (pSet (Z.ia rLin) ln).2.2.length ∧ prg F (pSet (Z.ia rLin) ln).2.2
theorem stp_setting (hst : l.stackTraces = false) (hZ : cOk G m S A h Z) (hs : sim Z S A) : ∃ mc ms, nCl mc ms ∧ kx_c G l mL_setting 19 mc ms [.ref (Z.ad rV), .ref (m + 19)] h (oQi G l m S A Z mM_setting [.ref m]) := by
  obtain ⟨bg, ln, rs, MD, SC, CL, PI, hT, hL, hB, hV, hP, hR⟩ := hs
  have hM : ∀ h', mOk G h' m → _ := fun h' hm => cM_setting (l := l) (d := 12) (S := S) (A := A) hst hm hL.2.2.1 hL.2.1
  have hx := hZ.is rV rfl
  have e7 := hL.2.2.2.2
  cases hr : (pSet (Z.ia rLin) ln).1 with
  | true =>
    have hC : kx_c G l mV_setting 18 4 89 [.ref (Z.ad rV)] h (fun o h' => ∃ v : Int32, o = .returned (some (.int v)) ∧ setP G m S A Z ln v h') := kx_cc (fun o h' hq => by
      obtain ⟨c, a1, a2, a3, a4⟩ := hq
      exact ⟨_, a3, c, a1, a2, rfl, a4⟩) (cV_setting0 (d := 14) hst hZ hL.1 hL.2.1 hr)
    refine ⟨4, 89, ⟨by decide, by decide⟩, kx_cc ?_ (cL_setting_r (d := 18) (a := m + 19) (Pq := setP G m S A Z ln) (fun v h1 hp => by obtain ⟨c, -, -, -, F, n, p, s, k, hz, -⟩ := hp; exact a19 hz) hst hx hC)⟩
    rintro o h' ⟨v, h1, f, rfl, ⟨c, hc4, hc97, rfl, F, n, p, s, k, hz, hn, hF⟩, hf, rfl⟩
    refine oQi_r hz rfl (rQi_of hM ?_)
    rintro h' o2 h2 hw ⟨S1, A1, rfl, ⟨q, -⟩ | ⟨c', d1, d2, -, rfl, ⟨q0, q1, q2, q3, q4, q5, -⟩, q10⟩⟩
    · rw [e7, hr] at q; exact absurd q (by decide)
    · have ec : c' = c := by
        rw [e7, hc97] at d2
        have := nI_small (by omega) (by omega) d2
        omega
      subst ec
      rw [e7] at q0 q2 q5
      rw [hr] at q0 q2 q5
      rw [show 1 + c' = c' + 1 by omega] at q5
      obtain ⟨r1, r2, r3⟩ := q5 rfl
      have k10 : ∀ c2, c2 < 4 → (¬ A1 10 c2 = 0 ↔ va_up Z.pl (c' + 1) true (c2 + 1) = true) := fun c2 hc2 => by
        rw [q10]
        by_cases e : c2 = c'
        · rw [e, va_up_self, va_up_self]; exact ⟨fun _ => rfl, fun _ => by decide⟩
        · rw [va_up_ne _ _ e, va_up_ne _ _ (by omega)]; exact hP.2.2.2.2.2.2 c2 hc2
      refine ⟨_, _, _, rfl, rfl, q0, fun _ => ?_, bg, 0, rs, MD, SC, CL, va_up PI (c' + 1) (pSet (Z.ia rLin) ln).2.2, hT.of rfl rfl rfl (q3 _ (by decide) (by decide) (by decide) (by decide) (by decide) (by decide) (by decide)) (q3 _ (by decide) (by decide) (by decide) (by decide) (by decide) (by decide) (by decide)) (q4 _ (by decide) (by decide) (by decide) (by decide) (by decide)), ⟨rfl, by decide, q1, q2, ?_⟩, hB.of (fun _ => rfl) (fun _ => rfl) (fun _ => rfl) rfl (q4 _ (by decide) (by decide) (by decide) (by decide) (by decide)) (q4 _ (by decide) (by decide) (by decide) (by decide) (by decide)) (q4 _ (by decide) (by decide) (by decide) (by decide) (by decide)), hV.of rfl (fun _ _ => rfl) (q4 _ (by decide) (by decide) (by decide) (by decide) (by decide)) (q4 _ (by decide) (by decide) (by decide) (by decide) (by decide)), ?_, hR.of rfl rfl (fun _ _ => rfl) rfl (q3 _ (by decide) (by decide) (by decide) (by decide) (by decide) (by decide) (by decide)) (q4 _ (by decide) (by decide) (by decide) (by decide) (by decide)) (q4 _ (by decide) (by decide) (by decide) (by decide) (by decide))⟩
      · refine congrArg nI (cnt_cg fun c2 hc2 => ?_)
        by_cases e : va_up Z.pl (c' + 1) true (c2 + 1) = true
        · rw [e]; exact decide_eq_true ((k10 c2 hc2).mpr e)
        · rw [kB_f e]; exact decide_eq_false (fun z => e ((k10 c2 hc2).mp z))
      · rw [q4 7 (by decide) (by decide) (by decide) (by decide) (by decide)]; exact e7
      · refine hP.new (i := c' + 1) (by omega) (fun z => absurd z (by omega)) (fun _ => pSet_ok hL.2.1 hr) hn hF (fun j hj => ?_) ?_ (fun j hj => ?_) ?_ rfl r1 r2 r3 k10
        · exact if_neg (fun z => hj (congrArg Prod.snd z))
        · exact if_pos rfl
        · exact (if_neg (fun z => hj (congrArg Prod.snd z))).trans (if_neg (fun z => absurd (congrArg Prod.fst z) (show (8 : Nat) ≠ 9 by decide)))
        · exact if_pos rfl
  | false =>
    refine ⟨5, 95, ⟨by decide, by decide⟩, kx_cc ?_ (cL_setting_9 (d := 18) (Pq := fun h' => cOk G m S A h' ((Z.sS rV 3 0).sS rV 4 (nI (pSet (Z.ia rLin) ln).2.1))) hst hx (cV_setting1 (d := 14) hst hZ hL.1 hL.2.1 hr))⟩
    rintro o h' ⟨rfl, hz⟩
    refine oQi_t 1 (by decide) (by decide) hz rfl (rQi_of hM ?_)
    rintro h' o2 h2 hw ⟨S1, A1, rfl, ⟨-, rfl, ⟨q0, q1, q2, q3, q4, -, q5⟩, q10⟩ | ⟨c', d1, d2, q, -⟩⟩
    · rw [e7] at q0 q2 q5
      rw [hr] at q0 q2 q5
      obtain ⟨r1, r2⟩ := q5 rfl
      refine ⟨_, _, _, rfl, rfl, q0, fun z => absurd z (by decide), bg, 0, rs, MD, SC, CL, PI, hT.of rfl rfl rfl (q3 _ (by decide) (by decide) (by decide) (by decide) (by decide) (by decide) (by decide)) (q3 _ (by decide) (by decide) (by decide) (by decide) (by decide) (by decide) (by decide)) (q4 _ (by decide) (by decide) (by decide) (by decide) (by decide)), ⟨rfl, by decide, q1, q2, ?_⟩, hB.of (fun _ => rfl) (fun _ => rfl) (fun _ => rfl) rfl (q4 _ (by decide) (by decide) (by decide) (by decide) (by decide)) (q4 _ (by decide) (by decide) (by decide) (by decide) (by decide)) (q4 _ (by decide) (by decide) (by decide) (by decide) (by decide)), hV.of rfl (fun _ _ => rfl) (q4 _ (by decide) (by decide) (by decide) (by decide) (by decide)) (q4 _ (by decide) (by decide) (by decide) (by decide) (by decide)), hP.fail (fun _ => rfl) (fun _ => rfl) rfl r2 r1 q10, hR.of rfl rfl (fun _ _ => rfl) rfl (q3 _ (by decide) (by decide) (by decide) (by decide) (by decide) (by decide) (by decide)) (q4 _ (by decide) (by decide) (by decide) (by decide) (by decide)) (q4 _ (by decide) (by decide) (by decide) (by decide) (by decide))⟩
      rw [q4 7 (by decide) (by decide) (by decide) (by decide) (by decide)]; exact e7
    · rw [e7, hr] at q; exact absurd q (by decide)
end KS4
