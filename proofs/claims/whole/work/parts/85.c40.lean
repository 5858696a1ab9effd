/-! ===== the other side: settings worked out, update ===== -/
section KC40
variable {G : kx_G} {l : Launch} {d : Nat} {h : kx_H} {m : Nat} {S : Nat → Int32} {A : Nat → Nat → Int32} {Z : cZ}
set_option maxRecDepth 100000 in
theorem cV_refuse0 {cl : Nat} (hst : l.stackTraces = false) (hZ : cOk G m S A h Z) (hcl4 : cl ≤ 4) (hall : ∀ c, cl ≤ c → c < 4 → Z.pl (c + 1) = false) :
    kx_c G l mV_refuseSettingsBeyond d 0 0 [.ref (Z.ad rV), .int (nI cl)] h (fun o h' => o = .returned none ∧ cOk G m S A h' Z) := by
  refine kx_in (by decide +kernel) (Nat.le_of_ble_eq_true rfl) hst ?_
  have loop : ∀ n (c : Nat), c + n = 4 → cl ≤ c → kx_w G l mV_refuseSettingsBeyond d (fun o h' => o = .returned none ∧ cOk G m S A h' Z) 0 0 2 [(0, .ref (Z.ad rV)), (1, .int (nI cl)), (2, .int (nI c))] [] h := by
    intro n
    induction n with
    | zero =>
      intro c hc hcl
      refine kx_rn dV_refuseSettingsBeyond 2 4 [(0, .ref (Z.ad rV)), (1, .int (nI cl)), (2, .int (nI c))] [.int 4, .int (nI c)] rfl ?_
      refine kx_ic (tgt := 32) (kx_tk_dec rfl dV_refuseSettingsBeyond) rfl (fun e4 => ?_) (fun e4 => ?_)
      · skip
        replace e4 : 4 ≤ nI c := e4
        replace e4 : 4 ≤ c := (nI_leI (a := 4) (b := c) (by omega) (by omega)).mp e4
        refine kx_retv (kx_tk_dec rfl dV_refuseSettingsBeyond) rfl ?_
        exact ⟨rfl, hZ⟩
      · skip
        replace e4 : ¬ 4 ≤ nI c := e4
        replace e4 : ¬ 4 ≤ c := fun z => e4 ((nI_leI (a := 4) (b := c) (by omega) (by omega)).mpr z)
        exfalso; omega
    | succ n ih =>
      intro c hc hcl
      refine kx_rn dV_refuseSettingsBeyond 2 4 [(0, .ref (Z.ad rV)), (1, .int (nI cl)), (2, .int (nI c))] [.int 4, .int (nI c)] rfl ?_
      refine kx_ic (tgt := 32) (kx_tk_dec rfl dV_refuseSettingsBeyond) rfl (fun e4 => ?_) (fun e4 => ?_)
      · skip
        replace e4 : 4 ≤ nI c := e4
        replace e4 : 4 ≤ c := (nI_leI (a := 4) (b := c) (by omega) (by omega)).mp e4
        exfalso; omega
      · skip
        replace e4 : ¬ 4 ≤ nI c := e4
        replace e4 : ¬ 4 ≤ c := fun z => e4 ((nI_leI (a := 4) (b := c) (by omega) (by omega)).mpr z)
        refine kx_rn dV_refuseSettingsBeyond 1 8 [(0, .ref (Z.ad rV)), (1, .int (nI cl)), (2, .int (nI c))] [.ref (Z.ad rV)] rfl ?_
        refine pV_40 (v := .ref (Z.ad rSta)) rfl (kx_tk_dec rfl dV_refuseSettingsBeyond) (hZ.is rV rfl) rfl ?_
        refine kx_rn dV_refuseSettingsBeyond 1 12 [(0, .ref (Z.ad rV)), (1, .int (nI cl)), (2, .int (nI c))] [.int (nI c), .ref (Z.ad rSta)] rfl ?_
        refine kx_qldN (x := ((plF Z)) c) (i := c) rfl rfl (kx_tk_dec rfl dV_refuseSettingsBeyond) (hZ.is rSta rfl) (by show c < 4; omega) (by decide) rfl ?_
        refine kx_nul (tgt := 26) (kx_tk_dec rfl dV_refuseSettingsBeyond) rfl (fun e13 => ?_) (fun a13 e13 => ?_)
        · skip
          refine kx_rn dV_refuseSettingsBeyond 2 2 [(0, .ref (Z.ad rV)), (1, .int (nI cl)), (2, .int ((nI c) + 1))] [] rfl ?_
          rw [show (nI c) + 1 = nI (c + 1) from kn_ad rfl rfl]
          exact ih (c + 1) (by omega) (by omega)
        · skip
          have := (plF_s e13).1; rw [hall c hcl (by omega)] at this; cases this
  refine kx_rn dV_refuseSettingsBeyond 2 2 [(0, .ref (Z.ad rV)), (1, .int (nI cl)), (2, .int (nI cl))] [] rfl ?_
  exact loop (4 - cl) cl (by omega) (Nat.le_refl _)
set_option maxRecDepth 100000 in
theorem cV_refuse1 {cl c0 : Nat} (hst : l.stackTraces = false) (hZ : cOk G m S A h Z) (hcl4 : cl ≤ 4) (hc1 : cl ≤ c0) (hc4 : c0 < 4) (hc0 : Z.pl (c0 + 1) = true) :
    kx_c G l mV_refuseSettingsBeyond d 1 6 [.ref (Z.ad rV), .int (nI cl)] h (fun o h' => ∃ x, o = .threw x ∧ kx_is G h' x (.inr (9, [])) ∧ cOk G m S A h' Z) := by
  refine kx_in (by decide +kernel) (Nat.le_of_ble_eq_true rfl) hst ?_
  have loop : ∀ n (c : Nat), c + n = 4 → cl ≤ c → c ≤ c0 → kx_w G l mV_refuseSettingsBeyond d (fun o h' => ∃ x, o = .threw x ∧ kx_is G h' x (.inr (9, [])) ∧ cOk G m S A h' Z) 1 6 2 [(0, .ref (Z.ad rV)), (1, .int (nI cl)), (2, .int (nI c))] [] h := by
    intro n
    induction n with
    | zero =>
      intro c hc hcl hno
      omega
    | succ n ih =>
      intro c hc hcl hno
      refine kx_rn dV_refuseSettingsBeyond 2 4 [(0, .ref (Z.ad rV)), (1, .int (nI cl)), (2, .int (nI c))] [.int 4, .int (nI c)] rfl ?_
      refine kx_ic (tgt := 32) (kx_tk_dec rfl dV_refuseSettingsBeyond) rfl (fun e4 => ?_) (fun e4 => ?_)
      · skip
        replace e4 : 4 ≤ nI c := e4
        replace e4 : 4 ≤ c := (nI_leI (a := 4) (b := c) (by omega) (by omega)).mp e4
        exfalso; omega
      · skip
        replace e4 : ¬ 4 ≤ nI c := e4
        replace e4 : ¬ 4 ≤ c := fun z => e4 ((nI_leI (a := 4) (b := c) (by omega) (by omega)).mpr z)
        refine kx_rn dV_refuseSettingsBeyond 1 8 [(0, .ref (Z.ad rV)), (1, .int (nI cl)), (2, .int (nI c))] [.ref (Z.ad rV)] rfl ?_
        refine pV_40 (v := .ref (Z.ad rSta)) rfl (kx_tk_dec rfl dV_refuseSettingsBeyond) (hZ.is rV rfl) rfl ?_
        refine kx_rn dV_refuseSettingsBeyond 1 12 [(0, .ref (Z.ad rV)), (1, .int (nI cl)), (2, .int (nI c))] [.int (nI c), .ref (Z.ad rSta)] rfl ?_
        refine kx_qldN (x := ((plF Z)) c) (i := c) rfl rfl (kx_tk_dec rfl dV_refuseSettingsBeyond) (hZ.is rSta rfl) (by show c < 4; omega) (by decide) rfl ?_
        refine kx_nul (tgt := 26) (kx_tk_dec rfl dV_refuseSettingsBeyond) rfl (fun e13 => ?_) (fun a13 e13 => ?_)
        · skip
          refine kx_rn dV_refuseSettingsBeyond 2 2 [(0, .ref (Z.ad rV)), (1, .int (nI cl)), (2, .int ((nI c) + 1))] [] rfl ?_
          rw [show (nI c) + 1 = nI (c + 1) from kn_ad rfl rfl]
          have hne : ¬ c = c0 := fun z => by rw [← z, plF_n e13] at hc0; cases hc0
          exact ih (c + 1) (by omega) (by omega) (by omega)
        · skip
          refine xV_249 (kc := 0) (ks := 0) rfl dV_refuseSettingsBeyond rfl rfl rfl rfl rfl (fun q hq => by cases hq) (Nat.le_of_ble_eq_true rfl) ?_
          exact ⟨_, rfl, cx_new hZ.b1 hZ.b2, cz_new hZ _⟩
  refine kx_rn dV_refuseSettingsBeyond 2 2 [(0, .ref (Z.ad rV)), (1, .int (nI cl)), (2, .int (nI cl))] [] rfl ?_
  exact loop (4 - cl) cl (by omega) (Nat.le_refl _) hc1
theorem lS_congr {W W' : Nat → Int32} (h : ∀ c, c < 4 → W c = W' c) {i : Int32} {t u : List Bool} (hi : itT i t u) (s : List Int32) : lS W i s = lS W' i s := by
  unfold lS
  rcases hi with ⟨v, hv, rfl, -⟩ | ⟨c, hc, rfl, -⟩ | ⟨t0, rfl, -, -⟩ | ⟨c, t0, h1, rfl, -, -⟩ | ⟨c, t0, h1, rfl, -, -⟩ | ⟨c, t0, h1, rfl, -, -⟩
  · rw [if_neg (nI_n4 hv), if_neg (nI_n4 hv), if_pos (by rw [kI_le, nI_toInt (by omega)]; have : (0 : Int32).toInt = 0 := rfl; omega), if_pos (by rw [kI_le, nI_toInt (by omega)]; have : (0 : Int32).toInt = 0 := rfl; omega)]
  · rw [if_neg (col_n4 hc), if_neg (col_n4 hc), if_neg (col_neg hc), if_neg (col_neg hc), col_cl hc, h c hc]
  · rw [if_pos (show (-133 : Int32) < -4 by decide), if_pos rfl, if_pos (show (-133 : Int32) < -4 by decide)]
  · obtain ⟨sg, hsg, rfl⟩ := sg_of (Or.inl h1); rw [if_pos (sg_f sg hsg).2.2.2.1, if_pos (sg_f sg hsg).2.2.2.1]
  · obtain ⟨sg, hsg, rfl⟩ := sg_of (Or.inr (Or.inl h1)); rw [if_pos (sg_f sg hsg).2.2.2.1, if_pos (sg_f sg hsg).2.2.2.1]
  · obtain ⟨sg, hsg, rfl⟩ := sg_of (Or.inr (Or.inr h1)); rw [if_pos (sg_f sg hsg).2.2.2.1, if_pos (sg_f sg hsg).2.2.2.1]
theorem lE_congr {W W' : Nat → Int32} (h : ∀ c, c < 4 → W c = W' c) : ∀ {es : List Int32} {t u : List Bool} (s : List Int32), tyL es t = some u → lE W es s = lE W' es s
  | [], t, u, s, _ => rfl
  | i :: es, t, u, s, ht => by
    simp only [tyL] at ht
    cases hts : tyS i t with
    | none => rw [hts] at ht; cases ht
    | some t1 =>
      rw [hts, Option.bind_some] at ht
      simp only [lE]
      rw [lS_congr h (itT_of hts) s]
      cases lS W' i s with
      | none => rfl
      | some s1 => exact lE_congr h s1 ht
theorem okS_ne {es : List Int32} (h : okS es) : ¬ es = [] := fun z => by rw [z] at h; exact absurd h.2 (by decide)
/-- what the settings make of a row's values -/
def nvC (pl : Nat → Bool) (ES : Nat → List Int32) (vals : Nat → Int32) (c : Nat) : Int32 := if pl (c + 1) = true then (lA vals (ES c)).getD 0 else vals c
/-- what working the settings out leaves alone -/
def gFr (Z : cZ) (sc ia : cR → Nat → Int32) : Prop := (∀ σ, σ.1 ≠ 7 → sc σ = Z.sc σ) ∧ (∀ i, sc (rPrg i) 2 = Z.sc (rPrg i) 2) ∧ ∀ σ, σ.1 ≠ 9 → σ.1 ≠ 6 → (∀ i, i < 24 → σ ≠ rInn (24 * (1 - Z.fi) + i)) → ia σ = Z.ia σ
theorem gFr_sP {sc ia : cR → Nat → Int32} {i : Nat} {x : Int32} (h : gFr Z sc ia) : gFr Z (upS sc (rPrg i) 3 x) ia := ⟨fun σ h1 => by rw [upS_ne (fun z => h1 (by rw [z]))]; exact h.1 σ h1, fun j => by rw [upS_nj (by decide)]; exact h.2.1 j, h.2.2⟩
theorem gFr_iK {sc ia : cR → Nat → Int32} {i : Nat} {f : Nat → Int32} (h : gFr Z sc ia) : gFr Z sc (upI ia (rStk i) f) := ⟨h.1, h.2.1, fun σ h1 h2 h3 => by rw [upI_ne (fun z => h1 (by rw [z]))]; exact h.2.2 σ h1 h2 h3⟩
theorem gFr_iO {sc ia : cR → Nat → Int32} {f : Nat → Int32} (h : gFr Z sc ia) : gFr Z sc (upI ia rOld f) := ⟨h.1, h.2.1, fun σ h1 h2 h3 => by rw [upI_ne (fun z => h2 (by rw [z]))]; exact h.2.2 σ h1 h2 h3⟩
theorem gFr_iI {sc ia : cR → Nat → Int32} {f : Nat → Int32} {i : Nat} (hi : i < 24) (h : gFr Z sc ia) : gFr Z sc (upI ia (rInn (24 * (1 - Z.fi) + i)) f) := ⟨h.1, h.2.1, fun σ h1 h2 h3 => by rw [upI_ne (h3 i hi)]; exact h.2.2 σ h1 h2 h3⟩
/-- how far the chosen values have been worked out -/
def gCh (Z : cZ) (ES : Nat → List Int32) (L : List Nat) (vals : Nat → Nat → Int32) (ia : cR → Nat → Int32) (i c : Nat) : Prop := ∀ j r : Nat, L[j]? = some r → ∀ c', c' < 4 → ia (rInn (24 * (1 - Z.fi) + j)) c' = if j < i ∨ (j = i ∧ c' < c) then nvC Z.pl ES (vals r) c' else vals r c'
/-- the settings' programs -/
def cSet (Z : cZ) (ES : Nat → List Int32) : Prop := ∀ c, c < 4 → Z.pl (c + 1) = true → okS (ES c) ∧ Z.sc (rPrg (c + 1)) 2 = nI (ES c).length ∧ prg (Z.ia (rStp (c + 1))) (ES c)
set_option maxRecDepth 100000 in
theorem cV_workOut {L : List Nat} {vals : Nat → Nat → Int32} {ES : Nat → List Int32} (hst : l.stackTraces = false) (hZ : cOk G m S A h Z) (hfi : 1 - Z.fi < 2) (hln : Z.sc (rRs (1 - Z.fi)) 2 = nI L.length) (hl24 : L.length ≤ 24) (hval : ∀ j r : Nat, L[j]? = some r → ∀ c, c < 4 → Z.ia (rInn (24 * (1 - Z.fi) + j)) c = vals r c) (hset : cSet Z ES) :
    kx_c G l mV_workOutSettings (d + 4) 1 6 [.ref (Z.ad rV)] h (fun o h' => (o = .returned none ∧ (∀ j r c : Nat, L[j]? = some r → c < 4 → Z.pl (c + 1) = true → ¬ lA (vals r) (ES c) = none) ∧ ∃ sc2 ia2, cOk G m S A h' (Z.wA sc2 ia2) ∧ gFr Z sc2 ia2 ∧ ∀ j r : Nat, L[j]? = some r → ∀ c, c < 4 → ia2 (rInn (24 * (1 - Z.fi) + j)) c = nvC Z.pl ES (vals r) c) ∨ ((∃ j r c : Nat, L[j]? = some r ∧ c < 4 ∧ Z.pl (c + 1) = true ∧ lA (vals r) (ES c) = none) ∧ ∃ x, o = .threw x ∧ kx_is G h' x (.inr (13, [])) ∧ ∃ sc2 ia2, cOk G m S A h' (Z.wA sc2 ia2) ∧ gFr Z sc2 ia2)) := by
  refine kx_in (by decide +kernel) (Nat.le_of_ble_eq_true rfl) hst ?_
  have loop : ∀ n (i : Nat) (h2 : kx_H) (sc2 ia2 : cR → Nat → Int32), i + n = L.length → cOk G m S A h2 (Z.wA sc2 ia2) → gFr Z sc2 ia2 → gCh Z ES L vals ia2 i 0 → (∀ j r c9 : Nat, (j < i ∨ (j = i ∧ c9 < 0)) → L[j]? = some r → c9 < 4 → Z.pl (c9 + 1) = true → ¬ lA (vals r) (ES c9) = none) → kx_w G l mV_workOutSettings (d + 4) (fun o h' => (o = .returned none ∧ (∀ j r c : Nat, L[j]? = some r → c < 4 → Z.pl (c + 1) = true → ¬ lA (vals r) (ES c) = none) ∧ ∃ sc2 ia2, cOk G m S A h' (Z.wA sc2 ia2) ∧ gFr Z sc2 ia2 ∧ ∀ j r : Nat, L[j]? = some r → ∀ c, c < 4 → ia2 (rInn (24 * (1 - Z.fi) + j)) c = nvC Z.pl ES (vals r) c) ∨ ((∃ j r c : Nat, L[j]? = some r ∧ c < 4 ∧ Z.pl (c + 1) = true ∧ lA (vals r) (ES c) = none) ∧ ∃ x, o = .threw x ∧ kx_is G h' x (.inr (13, [])) ∧ ∃ sc2 ia2, cOk G m S A h' (Z.wA sc2 ia2) ∧ gFr Z sc2 ia2)) 1 6 2 [(0, .ref (Z.ad rV)), (1, .int (nI i))] [] h2 := by
    intro n
    induction n with
    | zero =>
      intro i h2 sc2 ia2 hi hz2 hfr hch hfine
      have hl2 : sc2 (rRs (1 - Z.fi)) 2 = nI L.length := by rw [hfr.1 (rRs (1 - Z.fi)) (show (10 : Nat) ≠ 7 by decide)]; exact hln
      refine kx_rn dV_workOutSettings 2 4 [(0, .ref (Z.ad rV)), (1, .int (nI i))] [.ref (Z.ad rV), .int (nI i)] rfl ?_
      refine pV_51 (v := .ref (Z.ad (rRs (1 - Z.fi)))) rfl (kx_tk_dec rfl dV_workOutSettings) (hz2.is rV rfl) rfl ?_
      refine pV_158 (v := .int (sc2 (rRs (1 - Z.fi)) 2)) rfl (kx_tk_dec rfl dV_workOutSettings) (hz2.is (rRs (1 - Z.fi)) hfi) rfl ?_
      rw [hl2]
      refine kx_ic (tgt := 78) (kx_tk_dec rfl dV_workOutSettings) rfl (fun e10 => ?_) (fun e10 => ?_)
      · skip
        replace e10 : nI L.length ≤ nI i := e10
        replace e10 : L.length ≤ i := (nI_leI (a := L.length) (b := i) (by omega) (by omega)).mp e10
        refine kx_retv (kx_tk_dec rfl dV_workOutSettings) rfl ?_
        refine Or.inl ⟨rfl, fun j r c hj hc hp => hfine j r c (Or.inl (by have := (List.getElem?_eq_some_iff.mp hj).1; omega)) hj hc hp, sc2, ia2, hz2, hfr, fun j r hj c hc => ?_⟩
        rw [hch j r hj c hc, if_pos (Or.inl (by have := (List.getElem?_eq_some_iff.mp hj).1; omega))]
      · skip
        replace e10 : ¬ nI L.length ≤ nI i := e10
        replace e10 : ¬ L.length ≤ i := fun z => e10 ((nI_leI (a := L.length) (b := i) (by omega) (by omega)).mpr z)
        exfalso; omega
    | succ n ih =>
      intro i h2 sc2 ia2 hi hz2 hfr hch hfine
      have hl2 : sc2 (rRs (1 - Z.fi)) 2 = nI L.length := by rw [hfr.1 (rRs (1 - Z.fi)) (show (10 : Nat) ≠ 7 by decide)]; exact hln
      have hi24 : i < L.length := by omega
      obtain ⟨r, hr⟩ : ∃ r, L[i]? = some r := ⟨L[i], List.getElem?_eq_getElem hi24⟩
      have ihO := ih
      have lin : ∀ n2 (c : Nat) (h2 : kx_H) (sc2 ia2 : cR → Nat → Int32), c + n2 = 4 → cOk G m S A h2 (Z.wA sc2 ia2) → gFr Z sc2 ia2 → (∀ c, c < 4 → ia2 rOld c = vals r c) → gCh Z ES L vals ia2 i c → (∀ j r c9 : Nat, (j < i ∨ (j = i ∧ c9 < c)) → L[j]? = some r → c9 < 4 → Z.pl (c9 + 1) = true → ¬ lA (vals r) (ES c9) = none) → kx_w G l mV_workOutSettings (d + 4) (fun o h' => (o = .returned none ∧ (∀ j r c : Nat, L[j]? = some r → c < 4 → Z.pl (c + 1) = true → ¬ lA (vals r) (ES c) = none) ∧ ∃ sc2 ia2, cOk G m S A h' (Z.wA sc2 ia2) ∧ gFr Z sc2 ia2 ∧ ∀ j r : Nat, L[j]? = some r → ∀ c, c < 4 → ia2 (rInn (24 * (1 - Z.fi) + j)) c = nvC Z.pl ES (vals r) c) ∨ ((∃ j r c : Nat, L[j]? = some r ∧ c < 4 ∧ Z.pl (c + 1) = true ∧ lA (vals r) (ES c) = none) ∧ ∃ x, o = .threw x ∧ kx_is G h' x (.inr (13, [])) ∧ ∃ sc2 ia2, cOk G m S A h' (Z.wA sc2 ia2) ∧ gFr Z sc2 ia2)) 1 6 36 [(0, .ref (Z.ad rV)), (1, .int (nI i)), (2, .ref (Z.ad (rInn (24 * (1 - Z.fi) + i)))), (3, .int (nI c))] [] h2 := by
        intro n2
        induction n2 with
        | zero =>
        intro c h2 sc2 ia2 hc hz2 hfr hold hch hfine
        refine kx_rn dV_workOutSettings 2 38 [(0, .ref (Z.ad rV)), (1, .int (nI i)), (2, .ref (Z.ad (rInn (24 * (1 - Z.fi) + i)))), (3, .int (nI c))] [.int 4, .int (nI c)] rfl ?_
        refine kx_ic (tgt := 72) (kx_tk_dec rfl dV_workOutSettings) rfl (fun e38 => ?_) (fun e38 => ?_)
        · skip
          replace e38 : 4 ≤ nI c := e38
          replace e38 : 4 ≤ c := (nI_leI (a := 4) (b := c) (by omega) (by omega)).mp e38
          refine kx_rn dV_workOutSettings 2 2 [(0, .ref (Z.ad rV)), (1, .int ((nI i) + 1)), (2, .ref (Z.ad (rInn (24 * (1 - Z.fi) + i)))), (3, .int (nI c))] [] rfl ?_
          rw [show (nI i) + 1 = nI (i + 1) from kn_ad rfl rfl]
          refine kx_lsub (lv' := [(0, .ref (Z.ad rV)), (1, .int (nI (i + 1)))]) (.cons₂ _ (.cons₂ _ (.cons _ (.cons _ .slnil)))) ?_
          refine ihO (i + 1) h2 sc2 ia2 (by omega) hz2 hfr ?_ ?_
          · intro j r2 hj c' hc'
            rw [hch j r2 hj c' hc']
            by_cases y : j < i ∨ (j = i ∧ c' < c)
            · rw [if_pos y, if_pos (by omega)]
            · rw [if_neg y, if_neg (by omega)]
          · intro j r2 c2 hj hr2 hc2 hp2
            exact hfine j r2 c2 (by omega) hr2 hc2 hp2
        · skip
          replace e38 : ¬ 4 ≤ nI c := e38
          replace e38 : ¬ 4 ≤ c := fun z => e38 ((nI_leI (a := 4) (b := c) (by omega) (by omega)).mpr z)
          exfalso; omega
        | succ n2 ih =>
        intro c h2 sc2 ia2 hc hz2 hfr hold hch hfine
        refine kx_rn dV_workOutSettings 2 38 [(0, .ref (Z.ad rV)), (1, .int (nI i)), (2, .ref (Z.ad (rInn (24 * (1 - Z.fi) + i)))), (3, .int (nI c))] [.int 4, .int (nI c)] rfl ?_
        refine kx_ic (tgt := 72) (kx_tk_dec rfl dV_workOutSettings) rfl (fun e38 => ?_) (fun e38 => ?_)
        · skip
          replace e38 : 4 ≤ nI c := e38
          replace e38 : 4 ≤ c := (nI_leI (a := 4) (b := c) (by omega) (by omega)).mp e38
          exfalso; omega
        · skip
          replace e38 : ¬ 4 ≤ nI c := e38
          replace e38 : ¬ 4 ≤ c := fun z => e38 ((nI_leI (a := 4) (b := c) (by omega) (by omega)).mpr z)
          refine kx_rn dV_workOutSettings 1 42 [(0, .ref (Z.ad rV)), (1, .int (nI i)), (2, .ref (Z.ad (rInn (24 * (1 - Z.fi) + i)))), (3, .int (nI c))] [.ref (Z.ad rV)] rfl ?_
          refine pV_40 (v := .ref (Z.ad rSta)) rfl (kx_tk_dec rfl dV_workOutSettings) (hz2.is rV rfl) rfl ?_
          refine kx_rn dV_workOutSettings 1 46 [(0, .ref (Z.ad rV)), (1, .int (nI i)), (2, .ref (Z.ad (rInn (24 * (1 - Z.fi) + i)))), (3, .int (nI c))] [.int (nI c), .ref (Z.ad rSta)] rfl ?_
          by_cases hpl : Z.pl (c + 1) = true
          · skip
            refine kx_qldN (x := some (Z.ad (rPrg (c + 1)))) (i := c) rfl rfl (kx_tk_dec rfl dV_workOutSettings) (hz2.is rSta rfl) (by show c < 4; omega) (by decide) (if_pos hpl) ?_
            refine kx_rn dV_workOutSettings 2 51 [(0, .ref (Z.ad rV)), (1, .int (nI i)), (2, .ref (Z.ad (rInn (24 * (1 - Z.fi) + i)))), (3, .int (nI c)), (4, .ref (Z.ad (rPrg (c + 1))))] [.ref (Z.ad (rPrg (c + 1)))] rfl ?_
            refine kx_nul (x := some (Z.ad (rPrg (c + 1)))) (tgt := 66) (kx_tk_dec rfl dV_workOutSettings) rfl (fun e51 => ?_) (fun a51 e51 => ?_)
            · skip
              cases e51
            · skip
              refine kx_rn dV_workOutSettings 4 59 [(0, .ref (Z.ad rV)), (1, .int (nI i)), (2, .ref (Z.ad (rInn (24 * (1 - Z.fi) + i)))), (3, .int (nI c)), (4, .ref (Z.ad (rPrg (c + 1))))] [.ref (Z.ad rV), .ref (Z.ad (rPrg (c + 1))), .int (nI c), .ref (Z.ad (rInn (24 * (1 - Z.fi) + i)))] rfl ?_
              refine pV_54 (v := .ref (Z.ad rOld)) rfl (kx_tk_dec rfl dV_workOutSettings) (hz2.is rV rfl) rfl ?_
              obtain ⟨hokc, hszc, hprc⟩ := hset c (by omega) hpl
              have hty := hokc.2
              have hsz2 : sc2 (rPrg (c + 1)) 2 = nI (ES c).length := by rw [hfr.2.1]; exact hszc
              have hpv : lvZ (Z.wA sc2 ia2) (rPrg (c + 1)) := ⟨by show c + 1 < 5; omega, hpl⟩
              have hpf : pFx G h2 (Z.ad (rPrg (c + 1))) (Z.ad (rStp (c + 1))) (Z.ad (rStk (c + 1))) (Z.ad rOld) (Z.ia (rStp (c + 1))) (ia2 rOld) := by
                have y := zpFx (Z := Z.wA sc2 ia2) (i := c + 1) (ρ := rOld) hz2 hpv rfl (tag_ne (by decide)) (tag_ne (by decide)) rfl
                rw [show (Z.wA sc2 ia2).ia (rStp (c + 1)) = Z.ia (rStp (c + 1)) from hfr.2.2 (rStp (c + 1)) (show (8 : Nat) ≠ 9 by decide) (show (8 : Nat) ≠ 6 by decide) (fun i _ => tag_ne (by decide))] at y
                exact y
              have hid : h2 = pH h2 (Z.ad (rPrg (c + 1))) (Z.ad (rStp (c + 1))) (Z.ad (rStk (c + 1))) (nI (ES c).length) (ia2 (rStk (c + 1))) (sc2 (rPrg (c + 1)) 3) := pH_id (by rw [← hsz2]; exact hz2.is (rPrg (c + 1)) hpv) (hz2.is (rStk (c + 1)) hpv)
              have hE : lE (ia2 rOld) (ES c) [] = lE (vals r) (ES c) [] := lE_congr hold [] hty
              have hA : lA (vals r) (ES c) = (lE (ia2 rOld) (ES c) []).bind List.head? := by unfold lA; rw [if_neg (okS_ne hokc), hE]
              by_cases hno : lE (ia2 rOld) (ES c) [] = none
              · skip
                have hc1 := cP_work1 (d := d) (K := ia2 (rStk (c + 1))) (ht := sc2 (rPrg (c + 1)) 3) hst hpf hty hokc.1 hprc hno
                rw [← hid] at hc1
                refine cV_282 (as := [.ref (Z.ad rOld)]) (st := [.int (nI c), .ref (Z.ad (rInn (24 * (1 - Z.fi) + i)))]) (mc := 1) (ms := 6) (kc := 0) (ks := 0) rfl (kx_tk_dec rfl dV_workOutSettings) (hz2.is (rPrg (c + 1)) hpv) rfl rfl (Nat.le_of_ble_eq_true rfl) hc1 (fun o h' hq => ?_)
                obtain ⟨K2, ht2, rfl, rfl⟩ := hq
                have hz3 := cz_pH (Z := Z.wA sc2 ia2) (i := c + 1) (K := K2) (ht := ht2) hz2 hpv hsz2
                exact kx_out (fun q hq => by cases hq) (Or.inr ⟨⟨i, r, c, hr, by omega, hpl, by rw [hA, hno]; rfl⟩, _, rfl, cx_new hz3.b1 hz3.b2, upS sc2 (rPrg (c + 1)) 3 ht2, upI ia2 (rStk (c + 1)) K2, cz_new hz3 _, gFr_sP (gFr_iK hfr)⟩)
              have hc0 := cP_work0 (d := d) (K := ia2 (rStk (c + 1))) (ht := sc2 (rPrg (c + 1)) 3) hst hpf hty hokc.1 hprc hno
              rw [← hid] at hc0
              refine cV_282 (as := [.ref (Z.ad rOld)]) (st := [.int (nI c), .ref (Z.ad (rInn (24 * (1 - Z.fi) + i)))]) (mc := 0) (ms := 0) (kc := 1) (ks := 6) rfl (kx_tk_dec rfl dV_workOutSettings) (hz2.is (rPrg (c + 1)) ⟨by show c + 1 < 5; omega, hpl⟩) rfl rfl (Nat.le_of_ble_eq_true rfl) (hc0) (fun o h' hq => ?_)
              obtain ⟨x, K2, hx, rfl, rfl⟩ := hq
              show kx_w _ _ _ _ _ _ _ _ _ _ _
              refine cw_go (cz_pH (Z := Z.wA sc2 ia2) (i := c + 1) (K := K2) (ht := nI 0) hz2 hpv hsz2) (fun h3 hz3 => ?_)
              replace hz3 : cOk G m S A h3 (Z.wA (upS sc2 (rPrg (c + 1)) 3 (nI 0)) (upI ia2 (rStk (c + 1)) K2)) := hz3
              have hnv : nvC Z.pl ES (vals r) c = x := by unfold nvC; rw [if_pos hpl, hA, hx]; rfl
              refine kx_istN (i := c) (kx_tk_dec rfl dV_workOutSettings) (hz3.is (rInn (24 * (1 - Z.fi) + i)) (show 24 * (1 - Z.fi) + i < 48 by omega)) (by show c < 4; omega) (by decide) ?_
              refine cw_go (cz_sI (ρ := (rInn (24 * (1 - Z.fi) + i))) hz3 (show 24 * (1 - Z.fi) + i < 48 by omega) (va_up (((upI ia2 (rStk (c + 1)) K2)) (rInn (24 * (1 - Z.fi) + i))) c x) rfl) (fun h1 hz1 => ?_)
              refine kx_rn dV_workOutSettings 2 36 [(0, .ref (Z.ad rV)), (1, .int (nI i)), (2, .ref (Z.ad (rInn (24 * (1 - Z.fi) + i)))), (3, .int ((nI c) + 1)), (4, .ref (Z.ad (rPrg (c + 1))))] [] rfl ?_
              rw [show (nI c) + 1 = nI (c + 1) from kn_ad rfl rfl]
              refine kx_lsub (lv' := [(0, .ref (Z.ad rV)), (1, .int (nI i)), (2, .ref (Z.ad (rInn (24 * (1 - Z.fi) + i)))), (3, .int (nI (c + 1)))]) (.cons₂ _ (.cons₂ _ (.cons₂ _ (.cons₂ _ (.cons _ .slnil))))) ?_
              have hvp : ¬ lA (vals r) (ES c) = none := by rw [hA, hx]; intro z; cases z
              refine ih (c + 1) _ (upS sc2 (rPrg (c + 1)) 3 (nI 0)) (upI (upI ia2 (rStk (c + 1)) K2) (rInn (24 * (1 - Z.fi) + i)) (va_up ((upI ia2 (rStk (c + 1)) K2) (rInn (24 * (1 - Z.fi) + i))) c x)) (by omega) hz1 (gFr_iI (by omega) (gFr_sP (gFr_iK hfr))) ?_ ?_ ?_
              · intro c' hc'
                rw [upI_ne (tag_ne (by decide)), upI_ne (tag_ne (by decide))]
                exact hold c' hc'
              · intro j r2 hj c' hc'
                by_cases z : j = i
                · rw [z, hr] at hj
                  injection hj with hj
                  rw [z, upI_eq, ← hj]
                  by_cases z2 : c' = c
                  · rw [z2, va_up_self, if_pos (by omega), hnv]
                  · rw [va_up_ne _ _ z2, upI_ne (tag_ne (by decide)), hch i r hr c' hc']
                    by_cases y : i < i ∨ (i = i ∧ c' < c)
                    · rw [if_pos y, if_pos (by omega)]
                    · rw [if_neg y, if_neg (by omega)]
                · rw [upI_ne (arg_ne (by omega)), upI_ne (tag_ne (by decide)), hch j r2 hj c' hc']
                  by_cases y : j < i ∨ (j = i ∧ c' < c)
                  · rw [if_pos y, if_pos (by omega)]
                  · rw [if_neg y, if_neg (by omega)]
              · intro j r2 c2 hj hr2 hc2 hp2
                by_cases y : j < i ∨ (j = i ∧ c2 < c)
                · exact hfine j r2 c2 y hr2 hc2 hp2
                · have h1 : j = i ∧ c2 = c := by omega
                  rw [h1.1, hr] at hr2
                  injection hr2 with hr2
                  rw [← hr2, h1.2]; exact hvp
          · skip
            refine kx_qldN (x := none) (i := c) rfl rfl (kx_tk_dec rfl dV_workOutSettings) (hz2.is rSta rfl) (by show c < 4; omega) (by decide) (if_neg hpl) ?_
            refine kx_rn dV_workOutSettings 2 51 [(0, .ref (Z.ad rV)), (1, .int (nI i)), (2, .ref (Z.ad (rInn (24 * (1 - Z.fi) + i)))), (3, .int (nI c)), (4, .null)] [.null] rfl ?_
            refine kx_nul (x := none) (tgt := 66) (kx_tk_dec rfl dV_workOutSettings) rfl (fun e51 => ?_) (fun a51 e51 => ?_)
            · skip
              refine kx_rn dV_workOutSettings 2 36 [(0, .ref (Z.ad rV)), (1, .int (nI i)), (2, .ref (Z.ad (rInn (24 * (1 - Z.fi) + i)))), (3, .int ((nI c) + 1)), (4, .null)] [] rfl ?_
              rw [show (nI c) + 1 = nI (c + 1) from kn_ad rfl rfl]
              refine kx_lsub (lv' := [(0, .ref (Z.ad rV)), (1, .int (nI i)), (2, .ref (Z.ad (rInn (24 * (1 - Z.fi) + i)))), (3, .int (nI (c + 1)))]) (.cons₂ _ (.cons₂ _ (.cons₂ _ (.cons₂ _ (.cons _ .slnil))))) ?_
              refine ih (c + 1) h2 sc2 ia2 (by omega) hz2 hfr hold ?_ ?_
              · intro j r2 hj c' hc'
                rw [hch j r2 hj c' hc']
                by_cases y : j < i ∨ (j = i ∧ c' < c)
                · rw [if_pos y, if_pos (by omega)]
                · rw [if_neg y]
                  by_cases y2 : j < i ∨ (j = i ∧ c' < c + 1)
                  · have h1 : j = i ∧ c' = c := by omega
                    rw [if_pos y2, h1.2]; unfold nvC; rw [if_neg hpl]
                  · rw [if_neg y2]
              · intro j r2 c2 hj hr2 hc2 hp2
                by_cases y : j < i ∨ (j = i ∧ c2 < c)
                · exact hfine j r2 c2 y hr2 hc2 hp2
                · have h1 : c2 = c := by omega
                  rw [h1] at hp2; exact absurd hp2 hpl
            · skip
              cases e51
      refine kx_rn dV_workOutSettings 2 4 [(0, .ref (Z.ad rV)), (1, .int (nI i))] [.ref (Z.ad rV), .int (nI i)] rfl ?_
      refine pV_51 (v := .ref (Z.ad (rRs (1 - Z.fi)))) rfl (kx_tk_dec rfl dV_workOutSettings) (hz2.is rV rfl) rfl ?_
      refine pV_158 (v := .int (sc2 (rRs (1 - Z.fi)) 2)) rfl (kx_tk_dec rfl dV_workOutSettings) (hz2.is (rRs (1 - Z.fi)) hfi) rfl ?_
      rw [hl2]
      refine kx_ic (tgt := 78) (kx_tk_dec rfl dV_workOutSettings) rfl (fun e10 => ?_) (fun e10 => ?_)
      · skip
        replace e10 : nI L.length ≤ nI i := e10
        replace e10 : L.length ≤ i := (nI_leI (a := L.length) (b := i) (by omega) (by omega)).mp e10
        exfalso; omega
      · skip
        replace e10 : ¬ nI L.length ≤ nI i := e10
        replace e10 : ¬ L.length ≤ i := fun z => e10 ((nI_leI (a := L.length) (b := i) (by omega) (by omega)).mpr z)
        refine kx_rn dV_workOutSettings 1 14 [(0, .ref (Z.ad rV)), (1, .int (nI i))] [.ref (Z.ad rV)] rfl ?_
        refine pV_51 (v := .ref (Z.ad (rRs (1 - Z.fi)))) rfl (kx_tk_dec rfl dV_workOutSettings) (hz2.is rV rfl) rfl ?_
        refine pV_185 (v := .ref (Z.ad (rVls (1 - Z.fi)))) rfl (kx_tk_dec rfl dV_workOutSettings) (hz2.is (rRs (1 - Z.fi)) hfi) rfl ?_
        refine kx_rn dV_workOutSettings 1 21 [(0, .ref (Z.ad rV)), (1, .int (nI i))] [.int (nI i), .ref (Z.ad (rVls (1 - Z.fi)))] rfl ?_
        refine kx_qldN (x := some (Z.ad (rInn (24 * (1 - Z.fi) + i)))) (i := i) rfl rfl (kx_tk_dec rfl dV_workOutSettings) (hz2.is (rVls (1 - Z.fi)) hfi) (by show i < 24; omega) (by decide) (if_pos (show i < 24 by omega)) ?_
        refine kx_rn dV_workOutSettings 4 26 [(0, .ref (Z.ad rV)), (1, .int (nI i)), (2, .ref (Z.ad (rInn (24 * (1 - Z.fi) + i))))] [.ref (Z.ad rV), .int 0, .ref (Z.ad (rInn (24 * (1 - Z.fi) + i)))] rfl ?_
        refine pV_54 (v := .ref (Z.ad rOld)) rfl (kx_tk_dec rfl dV_workOutSettings) (hz2.is rV rfl) rfl ?_
        refine kx_rn dV_workOutSettings 2 31 [(0, .ref (Z.ad rV)), (1, .int (nI i)), (2, .ref (Z.ad (rInn (24 * (1 - Z.fi) + i))))] [.int 4, .int 0, .ref (Z.ad rOld), .int 0, .ref (Z.ad (rInn (24 * (1 - Z.fi) + i)))] rfl ?_
        refine cV_276 rfl (kx_tk_dec rfl dV_workOutSettings) (Nat.le_of_ble_eq_true rfl) (hz2.is (rInn (24 * (1 - Z.fi) + i)) (show 24 * (1 - Z.fi) + i < 48 by omega)) (hz2.is rOld rfl) (by decide) (by decide) (by decide) (by decide) (by decide) ?_
        refine cw_go (cz_sI (ρ := rOld) hz2 rfl (va_cpy (ia2 (rInn (24 * (1 - Z.fi) + i))) (ia2 rOld) 0 0 4) rfl) (fun h2 hz2 => ?_)
        refine kx_rn dV_workOutSettings 2 36 [(0, .ref (Z.ad rV)), (1, .int (nI i)), (2, .ref (Z.ad (rInn (24 * (1 - Z.fi) + i)))), (3, .int 0)] [] rfl ?_
        exact lin 4 0 h2 sc2 (upI ia2 rOld (va_cpy (ia2 (rInn (24 * (1 - Z.fi) + i))) (ia2 rOld) 0 0 4)) rfl hz2 (gFr_iO hfr) (fun c' hc' => by
          rw [upI_eq]
          show (if 0 ≤ c' ∧ c' < 0 + 4 then ia2 (rInn (24 * (1 - Z.fi) + i)) (0 + (c' - 0)) else _) = _
          rw [if_pos (by omega), show 0 + (c' - 0) = c' by omega, hch i r hr c' hc', if_neg (by omega)]) (fun j r2 hj c' hc' => by
          rw [upI_ne (tag_ne (by decide))]; exact hch j r2 hj c' hc') hfine
  refine kx_rn dV_workOutSettings 2 2 [(0, .ref (Z.ad rV)), (1, .int 0)] [] rfl ?_
  exact loop L.length 0 h Z.sc Z.ia (by omega) hZ ⟨fun _ _ => rfl, fun _ => rfl, fun _ _ _ _ => rfl⟩ (fun j r hj c hc => by rw [if_neg (by omega)]; exact hval j r hj c hc) (fun j r c hj => by omega)
end KC40
