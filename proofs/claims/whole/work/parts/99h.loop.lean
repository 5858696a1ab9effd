/-! ===== the law: its loop, its beginning ===== -/
section KL2
variable {G : kx_G} {l : Launch} {Q : Outcome → kx_H → Prop} {m : Nat}
theorem and31 (y : Int32) : ∃ w, w ≤ 31 ∧ (y &&& 31) = nI w := by
  refine ⟨(y &&& 31).toBitVec.toNat, ?_, ?_⟩
  · rw [Int32.toBitVec_and, BitVec.toNat_and]
    exact Nat.and_le_right
  · apply Int32.toBitVec_inj.mp
    show _ = (Int32.ofNat _).toBitVec
    rw [Int32.toBitVec_ofNat']
    simp
set_option maxRecDepth 100000 in
theorem law_loop (hst : l.stackTraces = false) (hN : gN G ≤ 3584) (hQ : ∀ h', Q (.returned (some (.int 1))) h') : ∀ (n i : Nat) (Z : cZ) (S : Nat → Int32) (A : Nat → Nat → Int32) (h : kx_H), gN G < i + 7 * n + 7 → i ≤ 3584 → cOk G m S A h Z → sim Z S A → kx_w G l mL_law 20 Q (n * 50) (n * 1036) 28 [(0, .ref (gS G)), (1, .ref (Z.ad rV)), (2, .ref m), (3, .ref (m + 19)), (4, .ref (m + 20)), (5, .int (nI i))] [] h := by
  intro n
  induction n with
  | zero =>
    intro i Z S A h hlt hi hZ hs
    refine kx_rn dL_law00 2 31 [(0, .ref (gS G)), (1, .ref (Z.ad rV)), (2, .ref m), (3, .ref (m + 19)), (4, .ref (m + 20)), (5, .int (nI i))] [.ref (gS G), .int (nI i)] rfl ?_
    refine kx_sleN (kx_tk_dec rfl dL_law00) ?_
    refine kx_rn dL_law00 2 35 [(0, .ref (gS G)), (1, .ref (Z.ad rV)), (2, .ref m), (3, .ref (m + 19)), (4, .ref (m + 20)), (5, .int (nI i))] [.int (nI (gN G) - 7), .int (nI i)] rfl ?_
    refine kx_ic (tgt := 1045) (kx_tk_dec rfl dL_law00) rfl (fun e35 => ?_) (fun e35 => ?_)
    · refine kx_rn dL_law15 1 1046 [(0, .ref (gS G)), (1, .ref (Z.ad rV)), (2, .ref m), (3, .ref (m + 19)), (4, .ref (m + 20)), (5, .int (nI i))] [.int 1] rfl ?_
      refine kx_ret (ty := .boolean) (kx_tk_dec rfl dL_law15) rfl rfl ?_
      exact hQ _
    · exact absurd ((law_cmp hN (by omega)).mpr (by omega)) e35
  | succ n ih =>
    intro i Z S A h hlt hi hZ hs
    refine kx_rn dL_law00 2 31 [(0, .ref (gS G)), (1, .ref (Z.ad rV)), (2, .ref m), (3, .ref (m + 19)), (4, .ref (m + 20)), (5, .int (nI i))] [.ref (gS G), .int (nI i)] rfl ?_
    refine kx_sleN (kx_tk_dec rfl dL_law00) ?_
    refine kx_rn dL_law00 2 35 [(0, .ref (gS G)), (1, .ref (Z.ad rV)), (2, .ref m), (3, .ref (m + 19)), (4, .ref (m + 20)), (5, .int (nI i))] [.int (nI (gN G) - 7), .int (nI i)] rfl ?_
    refine kx_ic (tgt := 1045) (kx_tk_dec rfl dL_law00) rfl (fun e35 => ?_) (fun e35 => ?_)
    · refine kx_rn dL_law15 1 1046 [(0, .ref (gS G)), (1, .ref (Z.ad rV)), (2, .ref m), (3, .ref (m + 19)), (4, .ref (m + 20)), (5, .int (nI i))] [.int 1] rfl ?_
      refine kx_ret (ty := .boolean) (kx_tk_dec rfl dL_law15) rfl rfl ?_
      exact hQ _
    · have hi7 : i + 7 ≤ gN G := Nat.le_of_not_lt (fun z => e35 ((law_cmp hN (by omega)).mpr z))
      have K : ∀ (Z' : cZ) (S1 : Nat → Int32) (A1 : Nat → Nat → Int32) (h' : kx_H), Z'.ad rV = Z.ad rV → cOk G m S1 A1 h' Z' → sim Z' S1 A1 → kx_w G l mL_law 20 Q (n * 50) (n * 1036) 1039 [(0, .ref (gS G)), (1, .ref (Z.ad rV)), (2, .ref m), (3, .ref (m + 19)), (4, .ref (m + 20)), (5, .int (nI i))] [] h' := by
        intro Z' S1 A1 h' had hz hs'
        refine kx_rn dL_law15 2 28 [(0, .ref (gS G)), (1, .ref (Z.ad rV)), (2, .ref m), (3, .ref (m + 19)), (4, .ref (m + 20)), (5, .int (nI i + 7))] [] rfl ?_
        rw [show nI i + 7 = nI (i + 7) from kn_ad rfl rfl]
        have := ih (i + 7) Z' S1 A1 h' (by omega) (by omega) hz hs'
        rw [had] at this
        exact this
      refine kx_low (kc' := n * 50 + 50) (ks' := n * 1036 + 1036) (by omega) (by omega) ?_
      refine kx_rn dL_law00 2 41 [(0, .ref (gS G)), (1, .ref (Z.ad rV)), (2, .ref m), (3, .ref (m + 19)), (4, .ref (m + 20)), (5, .int (nI i))] [.int (nI i), .ref (gS G)] rfl ?_
      refine kx_sldN (i := i) (kx_tk_dec rfl dL_law00) hN (by omega) ?_
      refine kx_rn dL_law00 2 45 [(0, .ref (gS G)), (1, .ref (Z.ad rV)), (2, .ref m), (3, .ref (m + 19)), (4, .ref (m + 20)), (5, .int (nI i))] [.int (gF G i &&& 31)] rfl ?_
      obtain ⟨w, hw, ew⟩ := and31 (gF G i)
      rw [ew]
      by_cases e18 : w < 18
      · have hw2 : w = 0 ∨ w = 1 ∨ w = 2 ∨ w = 3 ∨ w = 4 ∨ w = 5 ∨ w = 6 ∨ w = 7 ∨ w = 8 ∨ w = 9 ∨ w = 10 ∨ w = 11 ∨ w = 12 ∨ w = 13 ∨ w = 14 ∨ w = 15 ∨ w = 16 ∨ w = 17 := by omega
        rcases hw2 with rfl | rfl | rfl | rfl | rfl | rfl | rfl | rfl | rfl | rfl | rfl | rfl | rfl | rfl | rfl | rfl | rfl | rfl
        · refine kx_tin (off := 87) (tgt := 132) (kx_tk_dec rfl dL_law00) (by decide) (by decide) rfl rfl ?_
          exact law_0 hst hN hi7 hZ hs K
        · refine kx_tin (off := 135) (tgt := 180) (kx_tk_dec rfl dL_law00) (by decide) (by decide) rfl rfl ?_
          exact law_1 hst hN hi7 hZ hs K
        · refine kx_tin (off := 191) (tgt := 236) (kx_tk_dec rfl dL_law00) (by decide) (by decide) rfl rfl ?_
          exact law_2 hst hN hi7 hZ hs K
        · refine kx_tin (off := 215) (tgt := 260) (kx_tk_dec rfl dL_law00) (by decide) (by decide) rfl rfl ?_
          exact law_3 hst hN hi7 hZ hs K
        · refine kx_tin (off := 259) (tgt := 304) (kx_tk_dec rfl dL_law00) (by decide) (by decide) rfl rfl ?_
          exact law_4 hst hN hi7 hZ hs K
        · refine kx_tin (off := 272) (tgt := 317) (kx_tk_dec rfl dL_law00) (by decide) (by decide) rfl rfl ?_
          exact law_5 hst hN hi7 hZ hs K
        · refine kx_tin (off := 285) (tgt := 330) (kx_tk_dec rfl dL_law00) (by decide) (by decide) rfl rfl ?_
          exact law_6 hst hN hi7 hZ hs K
        · refine kx_tin (off := 329) (tgt := 374) (kx_tk_dec rfl dL_law00) (by decide) (by decide) rfl rfl ?_
          exact law_7 hst hN hi7 hZ hs K
        · refine kx_tin (off := 365) (tgt := 410) (kx_tk_dec rfl dL_law00) (by decide) (by decide) rfl rfl ?_
          exact law_8 hst hN hi7 hZ hs K
        · refine kx_tin (off := 421) (tgt := 466) (kx_tk_dec rfl dL_law00) (by decide) (by decide) rfl rfl ?_
          exact law_9 hst hN hi7 hZ hs K
        · refine kx_tin (off := 539) (tgt := 584) (kx_tk_dec rfl dL_law00) (by decide) (by decide) rfl rfl ?_
          exact law_10 hst hN hi7 hZ hs K
        · refine kx_tin (off := 607) (tgt := 652) (kx_tk_dec rfl dL_law00) (by decide) (by decide) rfl rfl ?_
          exact law_11 hst hN hi7 hZ hs K
        · refine kx_tin (off := 675) (tgt := 720) (kx_tk_dec rfl dL_law00) (by decide) (by decide) rfl rfl ?_
          exact law_12 hst hN hi7 hZ hs K
        · refine kx_tin (off := 743) (tgt := 788) (kx_tk_dec rfl dL_law00) (by decide) (by decide) rfl rfl ?_
          exact law_13 hst hN hi7 hZ hs K
        · refine kx_tin (off := 811) (tgt := 856) (kx_tk_dec rfl dL_law00) (by decide) (by decide) rfl rfl ?_
          exact law_14 hst hN hi7 hZ hs K
        · refine kx_tin (off := 888) (tgt := 933) (kx_tk_dec rfl dL_law00) (by decide) (by decide) rfl rfl ?_
          exact law_15 hst hN hi7 hZ hs K
        · refine kx_tin (off := 901) (tgt := 946) (kx_tk_dec rfl dL_law00) (by decide) (by decide) rfl rfl ?_
          exact law_16 hst hN hi7 hZ hs K
        · refine kx_tin (off := 969) (tgt := 1014) (kx_tk_dec rfl dL_law00) (by decide) (by decide) rfl rfl ?_
          exact law_17 hst hN hi7 hZ hs K
      · refine kx_tout (tgt := 1039) (kx_tk_dec rfl dL_law00) (Or.inr (by rw [nI_toInt (by omega)]; omega)) rfl ?_
        exact kx_low (by omega) (by omega) (K Z S A h rfl hZ hs)
theorem sim_0 (v b : Nat) : sim (z0 v b) mS0 mA0 := by
  refine ⟨0, 0, 0, fun _ => 0, fun _ => 0, fun _ => 0, fun _ => [], ⟨rfl, by decide, rfl, rfl, fun _ => rfl, fun _ _ => rfl⟩, ⟨rfl, by decide, rfl, rfl, rfl⟩, ⟨(fun k _ h => by cases h), fun _ => rfl, fun _ => Nat.zero_le _, fun _ => rfl, fun _ => Nat.zero_le _, fun _ => rfl, fun _ => Nat.zero_le _, fun k _ => ⟨(fun h => by cases h), fun _ => ⟨rfl, rfl, rfl⟩⟩⟩, ⟨fun _ => rfl, fun v h => absurd rfl h, fun v h => absurd rfl h, fun v h => absurd rfl h⟩, ⟨⟨by decide, Or.inl rfl⟩, rfl, fun i y h => by simp at h, fun c _ h => ?_, fun _ _ => Or.inl rfl, fun i _ => ⟨rfl, atL_nil _ _⟩, fun c _ => ⟨fun h => absurd rfl h, fun h => ?_⟩⟩, ⟨rfl, by decide, rfl, fun i h => absurd h (by omega)⟩⟩
  · have : c + 1 = 0 := of_decide_eq_true h
    omega
  · have : c + 1 = 0 := of_decide_eq_true h
    omega
theorem z0_ad {v b : Nat} {σ : cR} (h : lvZ (z0 v b) σ) : (z0 v b).ad σ = v ∨ (b ≤ (z0 v b).ad σ ∧ (z0 v b).ad σ ≤ b + 62) := by
  rcases z0_cs h with rfl | rfl | rfl | rfl | rfl | rfl | rfl | rfl | rfl | rfl | rfl | rfl | rfl | rfl | rfl | rfl | ⟨i, hi, rfl⟩ | ⟨i, hi, rfl⟩
  · exact Or.inl rfl
  · right; show b ≤ b ∧ b ≤ b + 62; omega
  · right; show b ≤ b + 1 ∧ b + 1 ≤ b + 62; omega
  · right; show b ≤ b + 2 ∧ b + 2 ≤ b + 62; omega
  · right; show b ≤ b + 3 ∧ b + 3 ≤ b + 62; omega
  · right; show b ≤ b + 7 ∧ b + 7 ≤ b + 62; omega
  · right; show b ≤ b + 62 ∧ b + 62 ≤ b + 62; omega
  · right; show b ≤ b + 4 ∧ b + 4 ≤ b + 62; omega
  · right; show b ≤ b + 5 ∧ b + 5 ≤ b + 62; omega
  · right; show b ≤ b + 6 ∧ b + 6 ≤ b + 62; omega
  · right; show b ≤ b + 8 + 27 * 0 ∧ b + 8 + 27 * 0 ≤ b + 62; omega
  · right; show b ≤ b + 8 + 27 * 1 ∧ b + 8 + 27 * 1 ≤ b + 62; omega
  · right; show b ≤ b + 9 + 27 * 0 ∧ b + 9 + 27 * 0 ≤ b + 62; omega
  · right; show b ≤ b + 9 + 27 * 1 ∧ b + 9 + 27 * 1 ≤ b + 62; omega
  · right; show b ≤ b + 10 + 27 * 0 ∧ b + 10 + 27 * 0 ≤ b + 62; omega
  · right; show b ≤ b + 10 + 27 * 1 ∧ b + 10 + 27 * 1 ≤ b + 62; omega
  · right; show b ≤ b + 11 + i + 3 * (i / 24) ∧ b + 11 + i + 3 * (i / 24) ≤ b + 62; omega
  · right; show b ≤ b + 11 + (i + 24) + 3 * ((i + 24) / 24) ∧ b + 11 + (i + 24) + 3 * ((i + 24) / 24) ≤ b + 62; omega
/-- the heap of the law's loop, at its beginning -/
theorem cOk_0 {v b : Nat} {h1 h2 : kx_H} (hG : G.1 ≤ v) (hvb : b = v + 1) (hm : h1.1 = b + 63) (hpic : ∀ ρ, lvZ (z0 v b) ρ → h1.2 ((z0 v b).ad ρ) = pic G (z0 v b) ρ) (hh : h2 = kx_new (kx_new (mH (h1.1 + 19, (kx_new h1 (.inr (8, mF0))).2) h1.1 mS0 mA0) (kLa (fun _ => 0))) (kDa (fun _ => 0))) : cOk G h1.1 mS0 mA0 h2 (z0 v b) := by
  have sz : h2.1 = h1.1 + 21 := by rw [hh]; rfl
  have lo : ∀ a, a < h1.1 → h2.2 a = h1.2 a := fun a ha => by
    rw [hh]
    show va_up (va_up (mH (h1.1 + 19, (kx_new h1 (.inr (8, mF0))).2) h1.1 mS0 mA0).2 (h1.1 + 19) _) (h1.1 + 20) _ a = _
    rw [va_up_ne _ _ (by omega), va_up_ne _ _ (by omega)]
    show (if h1.1 ≤ a ∧ a ≤ h1.1 + 18 then _ else va_up h1.2 h1.1 _ a) = _
    rw [if_neg (by omega), va_up_ne _ _ (by omega)]
  have mid : ∀ a, h1.1 ≤ a → a ≤ h1.1 + 18 → h2.2 a = mC h1.1 mS0 mA0 (a - h1.1) := fun a ha hb => by
    rw [hh]
    show va_up (va_up (mH (h1.1 + 19, (kx_new h1 (.inr (8, mF0))).2) h1.1 mS0 mA0).2 (h1.1 + 19) _) (h1.1 + 20) _ a = _
    rw [va_up_ne _ _ (by omega), va_up_ne _ _ (by omega)]
    show (if h1.1 ≤ a ∧ a ≤ h1.1 + 18 then _ else va_up h1.2 h1.1 _ a) = _
    rw [if_pos ⟨ha, hb⟩]
  have bd : ∀ ρ, lvZ (z0 v b) ρ → v ≤ (z0 v b).ad ρ ∧ (z0 v b).ad ρ < h1.1 := fun ρ hρ => by
    rcases z0_ad hρ with z | z <;> omega
  refine ⟨fun ρ hρ => ⟨by have := bd ρ hρ; omega, by have := bd ρ hρ; omega, by rw [lo _ (bd ρ hρ).2]; exact hpic ρ hρ⟩, fun ρ σ h1 h2 h3 => z0_inj (by omega) h1 h2 h3, fun ρ hρ => by have := bd ρ hρ; omega, by omega, by omega, ⟨mid, ⟨fun _ => 0, ?_⟩, ⟨fun _ => 0, ?_⟩⟩, z0_wf v b⟩
  · rw [hh]
    show va_up (va_up (mH (h1.1 + 19, (kx_new h1 (.inr (8, mF0))).2) h1.1 mS0 mA0).2 (h1.1 + 19) _) (h1.1 + 20) _ (h1.1 + 19) = _
    rw [va_up_ne _ _ (by omega), va_up_self]
  · rw [hh]
    show va_up _ (h1.1 + 20) _ (h1.1 + 20) = _
    rw [va_up_self]
set_option maxRecDepth 100000 in
theorem law_start {h : kx_H} (hst : l.stackTraces = false) (hN : gN G ≤ 3584) (hG : h.1 = G.1) (hQ : ∀ h', Q (.returned (some (.int 1))) h') : kx_w G l mL_law 20 Q 601024 7293034 0 [(0, .ref (gS G))] [] h := by
  refine kx_low (kc' := 512 * 50 + 1 + 1 + 18 + 1 + 63 + 1) (ks' := 512 * 1036 + 1 + 1 + 15124 + 29 + 473 + 10) (by decide) (by decide) ?_
  refine nL_8 rfl (kx_tk_dec rfl dL_law00) ?_
  refine kx_rn dL_law00 1 4 [(0, .ref (gS G))] [.ref h.1, .ref h.1] rfl ?_
  obtain ⟨hv, ehv⟩ : ∃ hv : kx_H, hv = kx_new h (.inr (0, [.null, .null, .null, .int 0, .int 0, .null, .null, .null, .null, .null])) := ⟨_, rfl⟩
  rw [← ehv]
  have hv1 : hv.1 = h.1 + 1 := by rw [ehv]; rfl
  have hvi : kx_is G hv h.1 (.inr (0, [.null, .null, .null, .int 0, .int 0, .null, .null, .null, .null, .null])) := ⟨by omega, by omega, by rw [ehv]; exact va_up_self _ _ _⟩
  refine cL_70 (as := []) (st := [.ref h.1]) (mc := 63) (ms := 473) rfl (kx_tk_dec rfl dL_law00) rfl rfl (Nat.le_of_ble_eq_true rfl) (cV_init (d := 18) hst hvi (by omega)) (fun o h1 hq => ?_)
  obtain ⟨rfl, hs1, -, hpic⟩ := hq
  show kx_w _ _ _ _ _ _ _ _ _ _ _
  refine kx_rn dL_law00 1 8 [(0, .ref (gS G)), (1, .ref h.1)] [] rfl ?_
  refine nL_71 rfl (kx_tk_dec rfl dL_law00) ?_
  refine kx_rn dL_law00 1 12 [(0, .ref (gS G)), (1, .ref h.1)] [.ref h1.1, .ref h1.1] rfl ?_
  refine cL_73 (as := []) (st := [.ref h1.1]) (mc := 18) (ms := 15124) rfl (kx_tk_dec rfl dL_law00) rfl rfl (Nat.le_of_ble_eq_true rfl) (cM_init (d := 19) (m := h1.1) hst (by omega) rfl (va_up_self _ _ _)) (fun o h3 hq => ?_)
  obtain ⟨rfl, e3⟩ := hq
  show kx_w _ _ _ _ _ _ _ _ _ _ _
  refine kx_rn dL_law00 2 17 [(0, .ref (gS G)), (1, .ref h.1), (2, .ref h1.1)] [.int 1] rfl ?_
  refine kx_nwl (kx_tk_dec rfl dL_law00) ?_
  have h31 : h3.1 = h1.1 + 19 := by rw [e3]; rfl
  rw [h31]
  refine kx_rn dL_law00 2 21 [(0, .ref (gS G)), (1, .ref h.1), (2, .ref h1.1), (3, .ref (h1.1 + 19))] [.int 1] rfl ?_
  refine kx_nwd (kx_tk_dec rfl dL_law00) ?_
  rw [show (kx_new h3 (kLa fun _ => 0)).1 = h1.1 + 20 by show h3.1 + 1 = _; rw [h31]]
  refine kx_rn dL_law00 3 28 [(0, .ref (gS G)), (1, .ref h.1), (2, .ref h1.1), (3, .ref (h1.1 + 19)), (4, .ref (h1.1 + 20)), (5, .int 0)] [] rfl ?_
  rw [e3]
  exact law_loop hst hN hQ 512 0 (z0 h.1 hv.1) mS0 mA0 _ (by omega) (by omega) (cOk_0 (by omega) hv1 hs1 hpic rfl) (sim_0 _ _)
end KL2
