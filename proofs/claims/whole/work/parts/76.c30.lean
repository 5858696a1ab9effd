/-! ===== the other side: small methods ===== -/
section KC30
variable {G : kx_G} {l : Launch} {M : kx_M} {d : Nat} {Q : Outcome → kx_H → Prop} {kc ks pc : Nat} {lv : kx_L} {st : List Value} {h : kx_H} {m : Nat} {S : Nat → Int32} {A : Nat → Nat → Int32} {Z : cZ}
theorem cw_go {h' : kx_H} {Z' : cZ} (hz : cOk G m S A h' Z') (k : ∀ h1, cOk G m S A h1 Z' → kx_w G l M d Q kc ks pc lv st h1) : kx_w G l M d Q kc ks pc lv st h' := k h' hz
theorem cx_new {c : kx_C} (h1 : G.1 ≤ m) (h2 : m + 20 < h.1) : kx_is G (kx_new h c) h.1 c := ⟨by omega, Nat.lt_succ_self _, va_up_self _ _ _⟩
theorem plF_n {c : Nat} (h : plF Z c = none) : Z.pl (c + 1) = false := by
  unfold plF at h
  cases e : Z.pl (c + 1) with
  | false => rfl
  | true => rw [if_pos e] at h; cases h
theorem plF_s {c a : Nat} (h : plF Z c = some a) : Z.pl (c + 1) = true ∧ a = Z.ad (rPrg (c + 1)) := by
  unfold plF at h
  cases e : Z.pl (c + 1) with
  | false => rw [if_neg (by rw [e]; decide)] at h; cases h
  | true => rw [if_pos e] at h; injection h with h; exact ⟨rfl, h.symm⟩
theorem tbF_n {c : Nat} (h : tbF Z c = none) : Z.tb c = false := by
  unfold tbF at h
  cases e : Z.tb c with
  | false => rfl
  | true => rw [if_pos e] at h; cases h
theorem tbF_s {c a : Nat} (h : tbF Z c = some a) : Z.tb c = true ∧ a = Z.ad (rTab c) := by
  unfold tbF at h
  cases e : Z.tb c with
  | false => rw [if_neg (by rw [e]; decide)] at h; cases h
  | true => rw [if_pos e] at h; injection h with h; exact ⟨rfl, h.symm⟩
/-- t is an open transaction -/
def cOp (Z : cZ) (bg : Nat) (t : Int32) : Prop := ∃ tn, 1 ≤ tn ∧ tn ≤ bg ∧ t = nI tn ∧ Z.st tn = 1
def cTb (Z : cZ) (k : Int32) : Prop := ∃ kn, kn < 3 ∧ k = nI kn ∧ Z.tb kn = true
end KC30
section KC31
variable {G : kx_G} {l : Launch} {d : Nat} {h : kx_H} {m : Nat} {S : Nat → Int32} {A : Nat → Nat → Int32} {Z : cZ}
set_option maxRecDepth 100000 in
theorem cV_settingsThere (hst : l.stackTraces = false) (hZ : cOk G m S A h Z) :
    kx_c G l mV_settingsThere d 0 0 [.ref (Z.ad rV)] h (fun o h' => o = .returned (some (.int (nI (cnt (fun c => Z.pl (c + 1)) 4)))) ∧ cOk G m S A h' Z) := by
  refine kx_in (by decide +kernel) (Nat.le_of_ble_eq_true rfl) hst ?_
  have loop : ∀ n (j c : Nat), j + n = 4 → c = cnt (fun c => Z.pl (c + 1)) j → kx_w G l mV_settingsThere d (fun o h' => o = .returned (some (.int (nI (cnt (fun c => Z.pl (c + 1)) 4)))) ∧ cOk G m S A h' Z) 0 0 4 [(0, .ref (Z.ad rV)), (1, .int (nI c)), (2, .int (nI j))] [] h := by
    intro n
    induction n with
    | zero =>
      intro j c hj hc
      refine kx_rn dV_settingsThere 2 6 [(0, .ref (Z.ad rV)), (1, .int (nI c)), (2, .int (nI j))] [.int 4, .int (nI j)] rfl ?_
      refine kx_ic (tgt := 27) (kx_tk_dec rfl dV_settingsThere) rfl (fun e6 => ?_) (fun e6 => ?_)
      · skip
        replace e6 : 4 ≤ nI j := e6
        replace e6 : 4 ≤ j := (nI_leI (a := 4) (b := j) (by omega) (by omega)).mp e6
        refine kx_rn dV_settingsThere 1 28 [(0, .ref (Z.ad rV)), (1, .int (nI c)), (2, .int (nI j))] [.int (nI c)] rfl ?_
        refine kx_ret (ty := .int) (kx_tk_dec rfl dV_settingsThere) rfl rfl ?_
        rw [hc, show j = 4 by omega]; exact ⟨rfl, hZ⟩
      · skip
        replace e6 : ¬ 4 ≤ nI j := e6
        replace e6 : ¬ 4 ≤ j := fun z => e6 ((nI_leI (a := 4) (b := j) (by omega) (by omega)).mpr z)
        exfalso; omega
    | succ n ih =>
      intro j c hj hc
      have hcl := cnt_le (fun c => Z.pl (c + 1)) j
      refine kx_rn dV_settingsThere 2 6 [(0, .ref (Z.ad rV)), (1, .int (nI c)), (2, .int (nI j))] [.int 4, .int (nI j)] rfl ?_
      refine kx_ic (tgt := 27) (kx_tk_dec rfl dV_settingsThere) rfl (fun e6 => ?_) (fun e6 => ?_)
      · skip
        replace e6 : 4 ≤ nI j := e6
        replace e6 : 4 ≤ j := (nI_leI (a := 4) (b := j) (by omega) (by omega)).mp e6
        exfalso; omega
      · skip
        replace e6 : ¬ 4 ≤ nI j := e6
        replace e6 : ¬ 4 ≤ j := fun z => e6 ((nI_leI (a := 4) (b := j) (by omega) (by omega)).mpr z)
        refine kx_rn dV_settingsThere 1 10 [(0, .ref (Z.ad rV)), (1, .int (nI c)), (2, .int (nI j))] [.ref (Z.ad rV)] rfl ?_
        refine pV_40 (v := .ref (Z.ad rSta)) rfl (kx_tk_dec rfl dV_settingsThere) (hZ.is rV rfl) rfl ?_
        refine kx_rn dV_settingsThere 1 14 [(0, .ref (Z.ad rV)), (1, .int (nI c)), (2, .int (nI j))] [.int (nI j), .ref (Z.ad rSta)] rfl ?_
        refine kx_qldN (x := ((plF Z)) j) (i := j) rfl rfl (kx_tk_dec rfl dV_settingsThere) (hZ.is rSta rfl) (by show j < 4; omega) (by decide) rfl ?_
        refine kx_nul (tgt := 21) (kx_tk_dec rfl dV_settingsThere) rfl (fun e15 => ?_) (fun a15 e15 => ?_)
        · skip
          refine kx_rn dV_settingsThere 2 4 [(0, .ref (Z.ad rV)), (1, .int (nI c)), (2, .int ((nI j) + 1))] [] rfl ?_
          rw [show (nI j) + 1 = nI (j + 1) from kn_ad rfl rfl]
          exact ih (j + 1) _ (by omega) (cnt_n hc (plF_n e15))
        · skip
          refine kx_rn dV_settingsThere 3 4 [(0, .ref (Z.ad rV)), (1, .int ((nI c) + 1)), (2, .int ((nI j) + 1))] [] rfl ?_
          rw [show (nI c) + 1 = nI (c + 1) from kn_ad rfl rfl]
          rw [show (nI j) + 1 = nI (j + 1) from kn_ad rfl rfl]
          exact ih (j + 1) _ (by omega) (cnt_y hc (plF_s e15).1)
  refine kx_rn dV_settingsThere 4 4 [(0, .ref (Z.ad rV)), (1, .int 0), (2, .int 0)] [] rfl ?_
  exact loop 4 0 0 rfl rfl
def cZ.wP (Z : cZ) (pl : Nat → Bool) : cZ := (Z.ad, Z.sc, Z.ia, Z.tb, Z.V, pl, Z.st, Z.fi)
set_option maxRecDepth 100000 in
theorem cV_clear (hst : l.stackTraces = false) (hZ : cOk G m S A h Z) :
    kx_c G l mV_clear (d + 1) 0 0 [.ref (Z.ad rV)] h (fun o h' => o = .returned (some (.int (nI (cnt (fun c => Z.pl (c + 1)) 4)))) ∧ cOk G m S A h' (Z.wP (fun i => if 1 ≤ i ∧ i ≤ 4 then false else Z.pl i))) := by
  refine kx_in (by decide +kernel) (Nat.le_of_ble_eq_true rfl) hst ?_
  have loop : ∀ n (j : Nat) (h2 : kx_H) (p2 : Nat → Bool), j + n = 4 → cOk G m S A h2 (Z.wP p2) → (∀ i, p2 i = if 1 ≤ i ∧ i ≤ j then false else Z.pl i) → kx_w G l mV_clear (d + 1) (fun o h' => o = .returned (some (.int (nI (cnt (fun c => Z.pl (c + 1)) 4)))) ∧ cOk G m S A h' (Z.wP (fun i => if 1 ≤ i ∧ i ≤ 4 then false else Z.pl i))) 0 0 7 [(0, .ref (Z.ad rV)), (1, .int (nI (cnt (fun c => Z.pl (c + 1)) 4))), (2, .int (nI j))] [] h2 := by
    intro n
    induction n with
    | zero =>
      intro j h2 p2 hj hz2 hp2
      refine kx_rn dV_clear 2 9 [(0, .ref (Z.ad rV)), (1, .int (nI (cnt (fun c => Z.pl (c + 1)) 4))), (2, .int (nI j))] [.int 4, .int (nI j)] rfl ?_
      refine kx_ic (tgt := 25) (kx_tk_dec rfl dV_clear) rfl (fun e9 => ?_) (fun e9 => ?_)
      · skip
        replace e9 : 4 ≤ nI j := e9
        replace e9 : 4 ≤ j := (nI_leI (a := 4) (b := j) (by omega) (by omega)).mp e9
        refine kx_rn dV_clear 1 26 [(0, .ref (Z.ad rV)), (1, .int (nI (cnt (fun c => Z.pl (c + 1)) 4))), (2, .int (nI j))] [.int (nI (cnt (fun c => Z.pl (c + 1)) 4))] rfl ?_
        refine kx_ret (ty := .int) (kx_tk_dec rfl dV_clear) rfl rfl ?_
        refine ⟨rfl, ?_⟩
        rw [show (fun i => if 1 ≤ i ∧ i ≤ 4 then false else Z.pl i) = p2 from funext fun i => by rw [hp2 i, show j = 4 by omega]]
        exact hz2
      · skip
        replace e9 : ¬ 4 ≤ nI j := e9
        replace e9 : ¬ 4 ≤ j := fun z => e9 ((nI_leI (a := 4) (b := j) (by omega) (by omega)).mpr z)
        exfalso; omega
    | succ n ih =>
      intro j h2 p2 hj hz2 hp2
      refine kx_rn dV_clear 2 9 [(0, .ref (Z.ad rV)), (1, .int (nI (cnt (fun c => Z.pl (c + 1)) 4))), (2, .int (nI j))] [.int 4, .int (nI j)] rfl ?_
      refine kx_ic (tgt := 25) (kx_tk_dec rfl dV_clear) rfl (fun e9 => ?_) (fun e9 => ?_)
      · skip
        replace e9 : 4 ≤ nI j := e9
        replace e9 : 4 ≤ j := (nI_leI (a := 4) (b := j) (by omega) (by omega)).mp e9
        exfalso; omega
      · skip
        replace e9 : ¬ 4 ≤ nI j := e9
        replace e9 : ¬ 4 ≤ j := fun z => e9 ((nI_leI (a := 4) (b := j) (by omega) (by omega)).mpr z)
        refine kx_rn dV_clear 1 13 [(0, .ref (Z.ad rV)), (1, .int (nI (cnt (fun c => Z.pl (c + 1)) 4))), (2, .int (nI j))] [.ref (Z.ad rV)] rfl ?_
        refine pV_40 (v := .ref (Z.ad rSta)) rfl (kx_tk_dec rfl dV_clear) (hz2.is rV rfl) rfl ?_
        refine kx_rn dV_clear 2 18 [(0, .ref (Z.ad rV)), (1, .int (nI (cnt (fun c => Z.pl (c + 1)) 4))), (2, .int (nI j))] [.null, .int (nI j), .ref (Z.ad rSta)] rfl ?_
        refine kx_qstZ (i := j) rfl (kx_tk_dec rfl dV_clear) (hz2.is rSta rfl) (by show j < 4; omega) (by decide) ?_
        refine cw_go (cz_sP (c0 := j) hz2 rfl) (fun h3 hz3 => ?_)
        refine kx_rn dV_clear 2 7 [(0, .ref (Z.ad rV)), (1, .int (nI (cnt (fun c => Z.pl (c + 1)) 4))), (2, .int ((nI j) + 1))] [] rfl ?_
        rw [show (nI j) + 1 = nI (j + 1) from kn_ad rfl rfl]
        refine ih (j + 1) h3 (va_up p2 (j + 1) false) (by omega) hz3 (fun i => ?_)
        simp only [va_up]
        by_cases z : i = j + 1
        · rw [if_pos z, if_pos (by omega)]
        · rw [if_neg z, hp2 i]
          by_cases y : 1 ≤ i ∧ i ≤ j
          · rw [if_pos y, if_pos (by omega)]
          · rw [if_neg y, if_neg (by omega)]
  refine kx_rn dV_clear 1 1 [(0, .ref (Z.ad rV))] [.ref (Z.ad rV)] rfl ?_
  refine cV_98 (as := []) (st := []) (mc := 0) (ms := 0) (kc := 0) (ks := 0) rfl (kx_tk_dec rfl dV_clear) (hZ.is rV rfl) rfl rfl (Nat.le_of_ble_eq_true rfl) (cV_settingsThere hst hZ) (fun o h' hq => ?_)
  obtain ⟨rfl, hz0⟩ := hq
  show kx_w _ _ _ _ _ _ _ _ _ _ _
  refine kx_rn dV_clear 3 7 [(0, .ref (Z.ad rV)), (1, .int (nI (cnt (fun c => Z.pl (c + 1)) 4))), (2, .int 0)] [] rfl ?_
  exact loop 4 0 h' Z.pl rfl hz0 (fun i => by rw [if_neg (by omega)])
set_option maxRecDepth 100000 in
theorem cV_errorAt (hst : l.stackTraces = false) (hZ : cOk G m S A h Z) :
    kx_c G l mV_errorAt d 0 0 [.ref (Z.ad rV)] h (fun o h' => o = .returned (some (.int (Z.sc rV 4))) ∧ cOk G m S A h' Z) := by
  refine kx_in (by decide +kernel) (Nat.le_of_ble_eq_true rfl) hst ?_
  refine kx_rn dV_errorAt 1 1 [(0, .ref (Z.ad rV))] [.ref (Z.ad rV)] rfl ?_
  refine pV_30 (v := .int (Z.sc rV 4)) rfl (kx_tk_dec rfl dV_errorAt) (hZ.is rV rfl) rfl ?_
  refine kx_ret (ty := .int) (kx_tk_dec rfl dV_errorAt) rfl rfl ?_
  exact ⟨rfl, hZ⟩
set_option maxRecDepth 100000 in
theorem cV_type0 {c : Int32} {len : Nat} (hst : l.stackTraces = false) (hZ : cOk G m S A h Z) (hlen : Z.sc rV 3 = nI len) (hl40 : len ≤ 40) (hc0 : ¬ c < 0) (hc1 : c < 128) (hle : len < 40) :
    kx_c G l mV_type d 0 0 [.ref (Z.ad rV), .int c] h (fun o h' => o = .returned (some (.int (nI (len + 1)))) ∧ cOk G m S A h' ((Z.sI rLin (va_up (Z.ia rLin) len c)).sS rV 3 (nI (len + 1)))) := by
  refine kx_in (by decide +kernel) (Nat.le_of_ble_eq_true rfl) hst ?_
  refine kx_rn dV_type 1 1 [(0, .ref (Z.ad rV)), (1, .int c)] [.int c] rfl ?_
  refine kx_if (tgt := 11) (kx_tk_dec rfl dV_type) rfl (fun e1 => ?_) (fun e1 => ?_)
  · skip
    replace e1 : c < 0 := e1
    exact absurd e1 hc0
  · skip
    replace e1 : ¬ c < 0 := e1
    refine kx_rn dV_type 2 8 [(0, .ref (Z.ad rV)), (1, .int c)] [.int 128, .int c] rfl ?_
    refine kx_ic (tgt := 21) (kx_tk_dec rfl dV_type) rfl (fun e8 => ?_) (fun e8 => ?_)
    · skip
      replace e8 : c < 128 := e8
      refine kx_rn dV_type 1 22 [(0, .ref (Z.ad rV)), (1, .int c)] [.ref (Z.ad rV)] rfl ?_
      refine pV_26 (v := .int (Z.sc rV 3)) rfl (kx_tk_dec rfl dV_type) (hZ.is rV rfl) rfl ?_
      rw [hlen]
      refine kx_rn dV_type 1 27 [(0, .ref (Z.ad rV)), (1, .int c)] [.int 40, .int (nI len)] rfl ?_
      refine kx_ic (tgt := 40) (kx_tk_dec rfl dV_type) rfl (fun e27 => ?_) (fun e27 => ?_)
      · skip
        replace e27 : nI len < 40 := e27
        replace e27 : len < 40 := (nI_ltI (a := len) (b := 40) (by omega) (by omega)).mp e27
        refine kx_rn dV_type 1 41 [(0, .ref (Z.ad rV)), (1, .int c)] [.ref (Z.ad rV)] rfl ?_
        refine pV_22 (v := .ref (Z.ad rLin)) rfl (kx_tk_dec rfl dV_type) (hZ.is rV rfl) rfl ?_
        refine kx_rn dV_type 1 45 [(0, .ref (Z.ad rV)), (1, .int c)] [.ref (Z.ad rV), .ref (Z.ad rLin)] rfl ?_
        refine pV_26 (v := .int (Z.sc rV 3)) rfl (kx_tk_dec rfl dV_type) (hZ.is rV rfl) rfl ?_
        rw [hlen]
        refine kx_rn dV_type 1 49 [(0, .ref (Z.ad rV)), (1, .int c)] [.int c, .int (nI len), .ref (Z.ad rLin)] rfl ?_
        refine kx_istN (i := len) (kx_tk_dec rfl dV_type) (hZ.is rLin rfl) (by show len < 40; omega) (by decide) ?_
        refine cw_go (cz_sI (ρ := rLin) hZ rfl (va_up (Z.ia rLin) len c) rfl) (fun h1 hz1 => ?_)
        refine kx_rn dV_type 2 52 [(0, .ref (Z.ad rV)), (1, .int c)] [.ref (Z.ad rV), .ref (Z.ad rV)] rfl ?_
        refine pV_26 (v := .int (Z.sc rV 3)) rfl (kx_tk_dec rfl dV_type) (hz1.is rV rfl) rfl ?_
        rw [hlen]
        refine kx_rn dV_type 2 57 [(0, .ref (Z.ad rV)), (1, .int c)] [.int ((nI len) + 1), .ref (Z.ad rV)] rfl ?_
        rw [show (nI len) + 1 = nI (len + 1) from kn_ad rfl rfl]
        refine qV_26 rfl (kx_tk_dec rfl dV_type) (hz1.is rV rfl) rfl rfl (Nat.le_of_ble_eq_true rfl) ?_
        refine cw_go (cz_sS (ρ := rV) hz1 rfl 3 (nI (len + 1)) rfl) (fun h2 hz2 => ?_)
        refine kx_rn dV_type 1 61 [(0, .ref (Z.ad rV)), (1, .int c)] [.ref (Z.ad rV)] rfl ?_
        refine pV_26 (v := .int (nI (len + 1))) rfl (kx_tk_dec rfl dV_type) (hz2.is rV rfl) rfl ?_
        refine kx_ret (ty := .int) (kx_tk_dec rfl dV_type) rfl rfl ?_
        exact ⟨rfl, hz2⟩
      · skip
        replace e27 : ¬ nI len < 40 := e27
        replace e27 : ¬ len < 40 := fun z => e27 ((nI_ltI (a := len) (b := 40) (by omega) (by omega)).mpr z)
        exfalso; omega
    · skip
      replace e8 : ¬ c < 128 := e8
      exact absurd hc1 e8
set_option maxRecDepth 100000 in
theorem cV_type1 {c : Int32} (hst : l.stackTraces = false) (hZ : cOk G m S A h Z) (hc : c < 0 ∨ ¬ c < 128) :
    kx_c G l mV_type d 1 6 [.ref (Z.ad rV), .int c] h (fun o h' => ∃ x, o = .threw x ∧ kx_is G h' x (.inr (9, [])) ∧ cOk G m S A h' Z) := by
  refine kx_in (by decide +kernel) (Nat.le_of_ble_eq_true rfl) hst ?_
  refine kx_rn dV_type 1 1 [(0, .ref (Z.ad rV)), (1, .int c)] [.int c] rfl ?_
  refine kx_if (tgt := 11) (kx_tk_dec rfl dV_type) rfl (fun e1 => ?_) (fun e1 => ?_)
  · skip
    replace e1 : c < 0 := e1
    refine xV_72 (kc := 0) (ks := 0) rfl dV_type rfl rfl rfl rfl rfl (fun q hq => by cases hq) (Nat.le_of_ble_eq_true rfl) ?_
    exact ⟨_, rfl, cx_new hZ.b1 hZ.b2, cz_new hZ _⟩
  · skip
    replace e1 : ¬ c < 0 := e1
    refine kx_rn dV_type 2 8 [(0, .ref (Z.ad rV)), (1, .int c)] [.int 128, .int c] rfl ?_
    refine kx_ic (tgt := 21) (kx_tk_dec rfl dV_type) rfl (fun e8 => ?_) (fun e8 => ?_)
    · skip
      replace e8 : c < 128 := e8
      exact absurd e8 (hc.resolve_left e1)
    · skip
      replace e8 : ¬ c < 128 := e8
      refine xV_72 (kc := 0) (ks := 0) rfl dV_type rfl rfl rfl rfl rfl (fun q hq => by cases hq) (Nat.le_of_ble_eq_true rfl) ?_
      exact ⟨_, rfl, cx_new hZ.b1 hZ.b2, cz_new hZ _⟩
set_option maxRecDepth 100000 in
theorem cV_type2 {c : Int32} {len : Nat} (hst : l.stackTraces = false) (hZ : cOk G m S A h Z) (hlen : Z.sc rV 3 = nI len) (hl40 : len ≤ 40) (hc0 : ¬ c < 0) (hc1 : c < 128) (hle : ¬ len < 40) :
    kx_c G l mV_type d 1 6 [.ref (Z.ad rV), .int c] h (fun o h' => ∃ x, o = .threw x ∧ kx_is G h' x (.inr (10, [])) ∧ cOk G m S A h' Z) := by
  refine kx_in (by decide +kernel) (Nat.le_of_ble_eq_true rfl) hst ?_
  refine kx_rn dV_type 1 1 [(0, .ref (Z.ad rV)), (1, .int c)] [.int c] rfl ?_
  refine kx_if (tgt := 11) (kx_tk_dec rfl dV_type) rfl (fun e1 => ?_) (fun e1 => ?_)
  · skip
    replace e1 : c < 0 := e1
    exact absurd e1 hc0
  · skip
    replace e1 : ¬ c < 0 := e1
    refine kx_rn dV_type 2 8 [(0, .ref (Z.ad rV)), (1, .int c)] [.int 128, .int c] rfl ?_
    refine kx_ic (tgt := 21) (kx_tk_dec rfl dV_type) rfl (fun e8 => ?_) (fun e8 => ?_)
    · skip
      replace e8 : c < 128 := e8
      refine kx_rn dV_type 1 22 [(0, .ref (Z.ad rV)), (1, .int c)] [.ref (Z.ad rV)] rfl ?_
      refine pV_26 (v := .int (Z.sc rV 3)) rfl (kx_tk_dec rfl dV_type) (hZ.is rV rfl) rfl ?_
      rw [hlen]
      refine kx_rn dV_type 1 27 [(0, .ref (Z.ad rV)), (1, .int c)] [.int 40, .int (nI len)] rfl ?_
      refine kx_ic (tgt := 40) (kx_tk_dec rfl dV_type) rfl (fun e27 => ?_) (fun e27 => ?_)
      · skip
        replace e27 : nI len < 40 := e27
        replace e27 : len < 40 := (nI_ltI (a := len) (b := 40) (by omega) (by omega)).mp e27
        exfalso; omega
      · skip
        replace e27 : ¬ nI len < 40 := e27
        replace e27 : ¬ len < 40 := fun z => e27 ((nI_ltI (a := len) (b := 40) (by omega) (by omega)).mpr z)
        refine xV_74 (kc := 0) (ks := 0) rfl dV_type rfl rfl rfl rfl rfl (fun q hq => by cases hq) (Nat.le_of_ble_eq_true rfl) ?_
        exact ⟨_, rfl, cx_new hZ.b1 hZ.b2, cz_new hZ _⟩
    · skip
      replace e8 : ¬ c < 128 := e8
      exact absurd hc1 e8
set_option maxRecDepth 100000 in
theorem cV_mustBeOpen0 {t : Int32} {bg : Nat} (hst : l.stackTraces = false) (hZ : cOk G m S A h Z) (hbg : Z.sc rTr 1 = nI bg) (hb40 : bg ≤ 40) (hop : cOp Z bg t) :
    kx_c G l mV_mustBeOpen (d + 1) 0 0 [.ref (Z.ad rV), .int t] h (fun o h' => o = .returned none ∧ cOk G m S A h' Z) := by
  refine kx_in (by decide +kernel) (Nat.le_of_ble_eq_true rfl) hst ?_
  refine kx_rn dV_mustBeOpen 1 1 [(0, .ref (Z.ad rV)), (1, .int t)] [.ref (Z.ad rV)] rfl ?_
  refine pV_18 (v := .ref (Z.ad rTr)) rfl (kx_tk_dec rfl dV_mustBeOpen) (hZ.is rV rfl) rfl ?_
  refine kx_rn dV_mustBeOpen 1 5 [(0, .ref (Z.ad rV)), (1, .int t)] [.int t, .ref (Z.ad rTr)] rfl ?_
  refine pV_215 rfl (kx_tk_dec rfl dV_mustBeOpen) ?_
  have htr : kx_is G h (Z.ad rTr) (.inr (1, [.ref (Z.ad rSts), .int (nI bg), .int (Z.sc rTr 2)])) := by rw [← hbg]; exact hZ.is rTr rfl
  refine cV_236 (as := [.int t, .ref (G.2.2.2.1 0)]) (st := []) (mc := 0) (ms := 0) (kc := 0) (ks := 0) rfl (kx_tk_dec rfl dV_mustBeOpen) (hZ.is rTr rfl) rfl rfl (Nat.le_of_ble_eq_true rfl) (cT_is (k := 0) (S6 := Z.st) hst htr (hZ.is rSts rfl) hZ.wf.stc hb40 (by decide)) (fun o h' hq => ?_)
  obtain ⟨z, rfl, rfl, hzz⟩ := hq
  show kx_w _ _ _ _ _ _ _ _ _ _ _
  refine kx_if (tgt := 24) (kx_tk_dec rfl dV_mustBeOpen) rfl (fun e11 => ?_) (fun e11 => ?_)
  · skip
    replace e11 : ¬ b01 z = 0 := e11
    replace e11 : z = true := b01_t e11
    refine kx_retv (kx_tk_dec rfl dV_mustBeOpen) rfl ?_
    exact ⟨rfl, hZ⟩
  · skip
    replace e11 : b01 z = 0 := e11
    replace e11 : z = false := b01_f e11
    rw [hzz.mpr hop] at e11; cases e11
set_option maxRecDepth 100000 in
theorem cV_mustBeOpen1 {t : Int32} {bg : Nat} (hst : l.stackTraces = false) (hZ : cOk G m S A h Z) (hbg : Z.sc rTr 1 = nI bg) (hb40 : bg ≤ 40) (hop : ¬ cOp Z bg t) :
    kx_c G l mV_mustBeOpen (d + 1) 1 6 [.ref (Z.ad rV), .int t] h (fun o h' => ∃ x, o = .threw x ∧ kx_is G h' x (.inr (11, [])) ∧ cOk G m S A h' Z) := by
  refine kx_in (by decide +kernel) (Nat.le_of_ble_eq_true rfl) hst ?_
  refine kx_rn dV_mustBeOpen 1 1 [(0, .ref (Z.ad rV)), (1, .int t)] [.ref (Z.ad rV)] rfl ?_
  refine pV_18 (v := .ref (Z.ad rTr)) rfl (kx_tk_dec rfl dV_mustBeOpen) (hZ.is rV rfl) rfl ?_
  refine kx_rn dV_mustBeOpen 1 5 [(0, .ref (Z.ad rV)), (1, .int t)] [.int t, .ref (Z.ad rTr)] rfl ?_
  refine pV_215 rfl (kx_tk_dec rfl dV_mustBeOpen) ?_
  have htr : kx_is G h (Z.ad rTr) (.inr (1, [.ref (Z.ad rSts), .int (nI bg), .int (Z.sc rTr 2)])) := by rw [← hbg]; exact hZ.is rTr rfl
  refine cV_236 (as := [.int t, .ref (G.2.2.2.1 0)]) (st := []) (mc := 0) (ms := 0) (kc := 1) (ks := 6) rfl (kx_tk_dec rfl dV_mustBeOpen) (hZ.is rTr rfl) rfl rfl (Nat.le_of_ble_eq_true rfl) (cT_is (k := 0) (S6 := Z.st) hst htr (hZ.is rSts rfl) hZ.wf.stc hb40 (by decide)) (fun o h' hq => ?_)
  obtain ⟨z, rfl, rfl, hzz⟩ := hq
  show kx_w _ _ _ _ _ _ _ _ _ _ _
  refine kx_if (tgt := 24) (kx_tk_dec rfl dV_mustBeOpen) rfl (fun e11 => ?_) (fun e11 => ?_)
  · skip
    replace e11 : ¬ b01 z = 0 := e11
    replace e11 : z = true := b01_t e11
    exact absurd (hzz.mp e11) hop
  · skip
    replace e11 : b01 z = 0 := e11
    replace e11 : z = false := b01_f e11
    refine xV_240 (kc := 0) (ks := 0) rfl dV_mustBeOpen rfl rfl rfl rfl rfl (fun q hq => by cases hq) (Nat.le_of_ble_eq_true rfl) ?_
    exact ⟨_, rfl, cx_new hZ.b1 hZ.b2, cz_new hZ _⟩
set_option maxRecDepth 100000 in
theorem cV_tableThere0 {kn : Nat} (hst : l.stackTraces = false) (hZ : cOk G m S A h Z) (hk : kn < 3) (ht : Z.tb kn = true) :
    kx_c G l mV_tableThere d 0 0 [.ref (Z.ad rV), .int (nI kn)] h (fun o h' => o = .returned (some (.ref (Z.ad (rTab kn)))) ∧ cOk G m S A h' Z) := by
  refine kx_in (by decide +kernel) (Nat.le_of_ble_eq_true rfl) hst ?_
  refine kx_rn dV_tableThere 1 1 [(0, .ref (Z.ad rV)), (1, .int (nI kn))] [.int (nI kn)] rfl ?_
  refine kx_if (tgt := 18) (kx_tk_dec rfl dV_tableThere) rfl (fun e1 => ?_) (fun e1 => ?_)
  · skip
    replace e1 : nI kn < 0 := e1
    rw [kI_lt, nI_toInt (by omega)] at e1; have : (0 : Int32).toInt = 0 := rfl; omega
  · skip
    replace e1 : ¬ nI kn < 0 := e1
    refine kx_rn dV_tableThere 2 6 [(0, .ref (Z.ad rV)), (1, .int (nI kn))] [.int 3, .int (nI kn)] rfl ?_
    refine kx_ic (tgt := 18) (kx_tk_dec rfl dV_tableThere) rfl (fun e6 => ?_) (fun e6 => ?_)
    · skip
      replace e6 : 3 ≤ nI kn := e6
      rw [kI_le, nI_toInt (by omega)] at e6; have : (3 : Int32).toInt = 3 := rfl; omega
    · skip
      replace e6 : ¬ 3 ≤ nI kn := e6
      refine kx_rn dV_tableThere 1 10 [(0, .ref (Z.ad rV)), (1, .int (nI kn))] [.ref (Z.ad rV)] rfl ?_
      refine pV_11 (v := .ref (Z.ad rTbs)) rfl (kx_tk_dec rfl dV_tableThere) (hZ.is rV rfl) rfl ?_
      refine kx_rn dV_tableThere 1 14 [(0, .ref (Z.ad rV)), (1, .int (nI kn))] [.int (nI kn), .ref (Z.ad rTbs)] rfl ?_
      refine kx_qldN (x := ((tbF Z)) kn) (i := kn) rfl rfl (kx_tk_dec rfl dV_tableThere) (hZ.is rTbs rfl) (by show kn < 3; omega) (by decide) rfl ?_
      refine kx_nnl (tgt := 28) (kx_tk_dec rfl dV_tableThere) rfl (fun a15 e15 => ?_) (fun e15 => ?_)
      · skip
        refine kx_rn dV_tableThere 1 29 [(0, .ref (Z.ad rV)), (1, .int (nI kn))] [.ref (Z.ad rV)] rfl ?_
        refine pV_11 (v := .ref (Z.ad rTbs)) rfl (kx_tk_dec rfl dV_tableThere) (hZ.is rV rfl) rfl ?_
        refine kx_rn dV_tableThere 1 33 [(0, .ref (Z.ad rV)), (1, .int (nI kn))] [.int (nI kn), .ref (Z.ad rTbs)] rfl ?_
        refine kx_qldN (x := ((tbF Z)) kn) (i := kn) rfl rfl (kx_tk_dec rfl dV_tableThere) (hZ.is rTbs rfl) (by show kn < 3; omega) (by decide) rfl ?_
        refine kx_reta (x := ((tbF Z)) kn) (kx_tk_dec rfl dV_tableThere) rfl (Or.inl ⟨_, rfl⟩) ?_
        refine ⟨?_, hZ⟩
        rw [e15, (tbF_s e15).2]; rfl
      · skip
        rw [tbF_n e15] at ht; cases ht
set_option maxRecDepth 100000 in
theorem cV_tableThere1 {k : Int32} (hst : l.stackTraces = false) (hZ : cOk G m S A h Z) (ht : ¬ cTb Z k) :
    kx_c G l mV_tableThere d 1 6 [.ref (Z.ad rV), .int k] h (fun o h' => ∃ x, o = .threw x ∧ kx_is G h' x (.inr (11, [])) ∧ cOk G m S A h' Z) := by
  refine kx_in (by decide +kernel) (Nat.le_of_ble_eq_true rfl) hst ?_
  refine kx_rn dV_tableThere 1 1 [(0, .ref (Z.ad rV)), (1, .int k)] [.int k] rfl ?_
  refine kx_if (tgt := 18) (kx_tk_dec rfl dV_tableThere) rfl (fun e1 => ?_) (fun e1 => ?_)
  · skip
    replace e1 : k < 0 := e1
    refine xV_242 (kc := 0) (ks := 0) rfl dV_tableThere rfl rfl rfl rfl rfl (fun q hq => by cases hq) (Nat.le_of_ble_eq_true rfl) ?_
    exact ⟨_, rfl, cx_new hZ.b1 hZ.b2, cz_new hZ _⟩
  · skip
    replace e1 : ¬ k < 0 := e1
    refine kx_rn dV_tableThere 2 6 [(0, .ref (Z.ad rV)), (1, .int k)] [.int 3, .int k] rfl ?_
    refine kx_ic (tgt := 18) (kx_tk_dec rfl dV_tableThere) rfl (fun e6 => ?_) (fun e6 => ?_)
    · skip
      replace e6 : 3 ≤ k := e6
      refine xV_242 (kc := 0) (ks := 0) rfl dV_tableThere rfl rfl rfl rfl rfl (fun q hq => by cases hq) (Nat.le_of_ble_eq_true rfl) ?_
      exact ⟨_, rfl, cx_new hZ.b1 hZ.b2, cz_new hZ _⟩
    · skip
      replace e6 : ¬ 3 ≤ k := e6
      obtain ⟨kn, rfl, hk0, hk1⟩ := kI_nat (x := k) (by rw [kI_lt] at e1; have : (0 : Int32).toInt = 0 := rfl; omega)
      have hk3 : kn < 3 := by rw [kI_le, nI_toInt hk1] at e6; have : (3 : Int32).toInt = 3 := rfl; omega
      refine kx_rn dV_tableThere 1 10 [(0, .ref (Z.ad rV)), (1, .int (nI kn))] [.ref (Z.ad rV)] rfl ?_
      refine pV_11 (v := .ref (Z.ad rTbs)) rfl (kx_tk_dec rfl dV_tableThere) (hZ.is rV rfl) rfl ?_
      refine kx_rn dV_tableThere 1 14 [(0, .ref (Z.ad rV)), (1, .int (nI kn))] [.int (nI kn), .ref (Z.ad rTbs)] rfl ?_
      refine kx_qldN (x := ((tbF Z)) kn) (i := kn) rfl rfl (kx_tk_dec rfl dV_tableThere) (hZ.is rTbs rfl) (by show kn < 3; omega) (by decide) rfl ?_
      refine kx_nnl (tgt := 28) (kx_tk_dec rfl dV_tableThere) rfl (fun a15 e15 => ?_) (fun e15 => ?_)
      · skip
        exact absurd ⟨kn, hk3, rfl, (tbF_s e15).1⟩ ht
      · skip
        refine xV_242 (kc := 0) (ks := 0) rfl dV_tableThere rfl rfl rfl rfl rfl (fun q hq => by cases hq) (Nat.le_of_ble_eq_true rfl) ?_
        exact ⟨_, rfl, cx_new hZ.b1 hZ.b2, cz_new hZ _⟩
set_option maxRecDepth 100000 in
theorem cV_mustBeColumn0 {c : Int32} (hst : l.stackTraces = false) (hZ : cOk G m S A h Z) (hc0 : ¬ c < 0) (hc1 : c < 4) :
    kx_c G l mV_mustBeColumn d 0 0 [.ref (Z.ad rV), .int c] h (fun o h' => o = .returned none ∧ cOk G m S A h' Z) := by
  refine kx_in (by decide +kernel) (Nat.le_of_ble_eq_true rfl) hst ?_
  refine kx_rn dV_mustBeColumn 1 1 [(0, .ref (Z.ad rV)), (1, .int c)] [.int c] rfl ?_
  refine kx_if (tgt := 9) (kx_tk_dec rfl dV_mustBeColumn) rfl (fun e1 => ?_) (fun e1 => ?_)
  · skip
    replace e1 : c < 0 := e1
    exact absurd e1 hc0
  · skip
    replace e1 : ¬ c < 0 := e1
    refine kx_rn dV_mustBeColumn 2 6 [(0, .ref (Z.ad rV)), (1, .int c)] [.int 4, .int c] rfl ?_
    refine kx_ic (tgt := 19) (kx_tk_dec rfl dV_mustBeColumn) rfl (fun e6 => ?_) (fun e6 => ?_)
    · skip
      replace e6 : c < 4 := e6
      refine kx_retv (kx_tk_dec rfl dV_mustBeColumn) rfl ?_
      exact ⟨rfl, hZ⟩
    · skip
      replace e6 : ¬ c < 4 := e6
      exact absurd hc1 e6
set_option maxRecDepth 100000 in
theorem cV_mustBeColumn1 {c : Int32} (hst : l.stackTraces = false) (hZ : cOk G m S A h Z) (hc : c < 0 ∨ ¬ c < 4) :
    kx_c G l mV_mustBeColumn d 1 6 [.ref (Z.ad rV), .int c] h (fun o h' => ∃ x, o = .threw x ∧ kx_is G h' x (.inr (14, [])) ∧ cOk G m S A h' Z) := by
  refine kx_in (by decide +kernel) (Nat.le_of_ble_eq_true rfl) hst ?_
  refine kx_rn dV_mustBeColumn 1 1 [(0, .ref (Z.ad rV)), (1, .int c)] [.int c] rfl ?_
  refine kx_if (tgt := 9) (kx_tk_dec rfl dV_mustBeColumn) rfl (fun e1 => ?_) (fun e1 => ?_)
  · skip
    replace e1 : c < 0 := e1
    refine xV_246 (kc := 0) (ks := 0) rfl dV_mustBeColumn rfl rfl rfl rfl rfl (fun q hq => by cases hq) (Nat.le_of_ble_eq_true rfl) ?_
    exact ⟨_, rfl, cx_new hZ.b1 hZ.b2, cz_new hZ _⟩
  · skip
    replace e1 : ¬ c < 0 := e1
    refine kx_rn dV_mustBeColumn 2 6 [(0, .ref (Z.ad rV)), (1, .int c)] [.int 4, .int c] rfl ?_
    refine kx_ic (tgt := 19) (kx_tk_dec rfl dV_mustBeColumn) rfl (fun e6 => ?_) (fun e6 => ?_)
    · skip
      replace e6 : c < 4 := e6
      exact absurd e6 (hc.resolve_left e1)
    · skip
      replace e6 : ¬ c < 4 := e6
      refine xV_246 (kc := 0) (ks := 0) rfl dV_mustBeColumn rfl rfl rfl rfl rfl (fun q hq => by cases hq) (Nat.le_of_ble_eq_true rfl) ?_
      exact ⟨_, rfl, cx_new hZ.b1 hZ.b2, cz_new hZ _⟩
set_option maxRecDepth 100000 in
theorem cV_begin0 {bg : Nat} (hst : l.stackTraces = false) (hZ : cOk G m S A h Z) (hbg : Z.sc rTr 1 = nI bg) (hb40 : bg < 40) :
    kx_c G l mV_begin (d + 1) 0 0 [.ref (Z.ad rV)] h (fun o h' => o = .returned (some (.int (nI (bg + 1)))) ∧ cOk G m S A h' ((Z.sS rTr 1 (nI (bg + 1))).sT (bg + 1) 1)) := by
  refine kx_in (by decide +kernel) (Nat.le_of_ble_eq_true rfl) hst ?_
  refine kx_rn dV_begin 1 1 [(0, .ref (Z.ad rV))] [.ref (Z.ad rV)] rfl ?_
  refine pV_18 (v := .ref (Z.ad rTr)) rfl (kx_tk_dec rfl dV_begin) (hZ.is rV rfl) rfl ?_
  refine pV_102 (v := .int (Z.sc rTr 1)) rfl (kx_tk_dec rfl dV_begin) (hZ.is rTr rfl) rfl ?_
  rw [hbg]
  refine kx_rn dV_begin 1 9 [(0, .ref (Z.ad rV))] [.int 40, .int (nI bg)] rfl ?_
  refine kx_ic (tgt := 22) (kx_tk_dec rfl dV_begin) rfl (fun e9 => ?_) (fun e9 => ?_)
  · skip
    replace e9 : nI bg < 40 := e9
    replace e9 : bg < 40 := (nI_ltI (a := bg) (b := 40) (by omega) (by omega)).mp e9
    refine kx_rn dV_begin 1 23 [(0, .ref (Z.ad rV))] [.ref (Z.ad rV)] rfl ?_
    refine pV_18 (v := .ref (Z.ad rTr)) rfl (kx_tk_dec rfl dV_begin) (hZ.is rV rfl) rfl ?_
    have htr : kx_is G h (Z.ad rTr) (.inr (1, [.ref (Z.ad rSts), .int (nI bg), .int (Z.sc rTr 2)])) := by rw [← hbg]; exact hZ.is rTr rfl
    have hne : Z.ad rTr ≠ Z.ad rSts := fun z => by have := hZ.inj rTr rSts rfl rfl z; exact absurd (congrArg Prod.fst this) (by decide)
    refine cV_107 (as := []) (st := []) (mc := 0) (ms := 0) (kc := 0) (ks := 0) rfl (kx_tk_dec rfl dV_begin) (hZ.is rTr rfl) rfl rfl (Nat.le_of_ble_eq_true rfl) (cT_beginNext (S6 := Z.st) hst htr (hZ.is rSts rfl) hZ.wf.stc hb40 hne) (fun o h' hq => ?_)
    obtain ⟨rfl, rfl⟩ := hq
    show kx_w _ _ _ _ _ _ _ _ _ _ _
    refine cw_go (cz_sT (t := bg + 1) (x := 1) (cz_sS (ρ := rTr) hZ rfl 1 (nI (bg + 1)) rfl) (by decide) rfl) (fun h2 hz2 => ?_)
    refine kx_ret (ty := .int) (kx_tk_dec rfl dV_begin) rfl rfl ?_
    exact ⟨rfl, hz2⟩
  · skip
    replace e9 : ¬ nI bg < 40 := e9
    replace e9 : ¬ bg < 40 := fun z => e9 ((nI_ltI (a := bg) (b := 40) (by omega) (by omega)).mpr z)
    exfalso; omega
set_option maxRecDepth 100000 in
theorem cV_begin1 {bg : Nat} (hst : l.stackTraces = false) (hZ : cOk G m S A h Z) (hbg : Z.sc rTr 1 = nI bg) (hb40 : bg ≤ 40) (hb : ¬ bg < 40) :
    kx_c G l mV_begin (d + 1) 1 6 [.ref (Z.ad rV)] h (fun o h' => ∃ x, o = .threw x ∧ kx_is G h' x (.inr (10, [])) ∧ cOk G m S A h' Z) := by
  refine kx_in (by decide +kernel) (Nat.le_of_ble_eq_true rfl) hst ?_
  refine kx_rn dV_begin 1 1 [(0, .ref (Z.ad rV))] [.ref (Z.ad rV)] rfl ?_
  refine pV_18 (v := .ref (Z.ad rTr)) rfl (kx_tk_dec rfl dV_begin) (hZ.is rV rfl) rfl ?_
  refine pV_102 (v := .int (Z.sc rTr 1)) rfl (kx_tk_dec rfl dV_begin) (hZ.is rTr rfl) rfl ?_
  rw [hbg]
  refine kx_rn dV_begin 1 9 [(0, .ref (Z.ad rV))] [.int 40, .int (nI bg)] rfl ?_
  refine kx_ic (tgt := 22) (kx_tk_dec rfl dV_begin) rfl (fun e9 => ?_) (fun e9 => ?_)
  · skip
    replace e9 : nI bg < 40 := e9
    replace e9 : bg < 40 := (nI_ltI (a := bg) (b := 40) (by omega) (by omega)).mp e9
    exfalso; omega
  · skip
    replace e9 : ¬ nI bg < 40 := e9
    replace e9 : ¬ bg < 40 := fun z => e9 ((nI_ltI (a := bg) (b := 40) (by omega) (by omega)).mpr z)
    refine xV_105 (kc := 0) (ks := 0) rfl dV_begin rfl rfl rfl rfl rfl (fun q hq => by cases hq) (Nat.le_of_ble_eq_true rfl) ?_
    exact ⟨_, rfl, cx_new hZ.b1 hZ.b2, cz_new hZ _⟩
set_option maxRecDepth 100000 in
theorem cV_commit0 {tn bg : Nat} (hst : l.stackTraces = false) (hZ : cOk G m S A h Z) (hbg : Z.sc rTr 1 = nI bg) (hb40 : bg ≤ 40) (ht1 : 1 ≤ tn) (ht2 : tn ≤ bg) (hts : Z.st tn = 1) :
    kx_c G l mV_commit (d + 2) 0 0 [.ref (Z.ad rV), .int (nI tn)] h (fun o h' => o = .returned none ∧ cOk G m S A h' (Z.sT tn 2)) := by
  refine kx_in (by decide +kernel) (Nat.le_of_ble_eq_true rfl) hst ?_
  refine kx_rn dV_commit 2 2 [(0, .ref (Z.ad rV)), (1, .int (nI tn))] [.int (nI tn), .ref (Z.ad rV)] rfl ?_
  refine cV_110 (as := [.int (nI tn)]) (st := []) (mc := 0) (ms := 0) (kc := 0) (ks := 0) rfl (kx_tk_dec rfl dV_commit) (hZ.is rV rfl) rfl rfl (Nat.le_of_ble_eq_true rfl) (cV_mustBeOpen0 (d := d) hst hZ hbg hb40 ⟨tn, ht1, ht2, rfl, hts⟩) (fun o h' hq => ?_)
  obtain ⟨rfl, hz0⟩ := hq
  show kx_w _ _ _ _ _ _ _ _ _ _ _
  refine kx_rn dV_commit 1 6 [(0, .ref (Z.ad rV)), (1, .int (nI tn))] [.ref (Z.ad rV)] rfl ?_
  refine pV_18 (v := .ref (Z.ad rTr)) rfl (kx_tk_dec rfl dV_commit) (hz0.is rV rfl) rfl ?_
  refine kx_rn dV_commit 1 10 [(0, .ref (Z.ad rV)), (1, .int (nI tn))] [.int (nI tn), .ref (Z.ad rTr)] rfl ?_
  refine pV_113 rfl (kx_tk_dec rfl dV_commit) ?_
  have htr : kx_is G h' (Z.ad rTr) (.inr (1, [.ref (Z.ad rSts), .int (nI bg), .int (Z.sc rTr 2)])) := by rw [← hbg]; exact hz0.is rTr rfl
  refine cV_119 (as := [.int (nI tn), .ref (G.2.2.2.1 1)]) (st := []) (mc := 0) (ms := 0) (kc := 0) (ks := 0) rfl (kx_tk_dec rfl dV_commit) (hz0.is rTr rfl) rfl rfl (Nat.le_of_ble_eq_true rfl) (cT_end (k := 1) (S6 := Z.st) hst htr (hz0.is rSts rfl) hz0.wf.stc hb40 (by decide) (by omega)) (fun o h' hq => ?_)
  obtain ⟨rfl, rfl⟩ := hq
  show kx_w _ _ _ _ _ _ _ _ _ _ _
  refine cw_go (cz_sT (t := tn) (x := 2) hz0 (by decide) rfl) (fun h2 hz2 => ?_)
  refine kx_retv (kx_tk_dec rfl dV_commit) rfl ?_
  exact ⟨rfl, hz2⟩
set_option maxRecDepth 100000 in
theorem cV_commit1 {t : Int32} {bg : Nat} (hst : l.stackTraces = false) (hZ : cOk G m S A h Z) (hbg : Z.sc rTr 1 = nI bg) (hb40 : bg ≤ 40) (hop : ¬ cOp Z bg t) :
    kx_c G l mV_commit (d + 2) 1 6 [.ref (Z.ad rV), .int t] h (fun o h' => ∃ x, o = .threw x ∧ kx_is G h' x (.inr (11, [])) ∧ cOk G m S A h' Z) := by
  refine kx_in (by decide +kernel) (Nat.le_of_ble_eq_true rfl) hst ?_
  refine kx_rn dV_commit 2 2 [(0, .ref (Z.ad rV)), (1, .int t)] [.int t, .ref (Z.ad rV)] rfl ?_
  refine cV_110 (as := [.int t]) (st := []) (mc := 1) (ms := 6) (kc := 0) (ks := 0) rfl (kx_tk_dec rfl dV_commit) (hZ.is rV rfl) rfl rfl (Nat.le_of_ble_eq_true rfl) (cV_mustBeOpen1 (d := d) hst hZ hbg hb40 hop) (fun o h' hq => ?_)
  obtain ⟨x, rfl, hx, hz0⟩ := hq
  exact kx_out (fun q hq => by cases hq) ⟨x, rfl, hx, hz0⟩
set_option maxRecDepth 100000 in
theorem cV_rowsMade0 {kn : Nat} (hst : l.stackTraces = false) (hZ : cOk G m S A h Z) (hk : kn < 3) (ht : Z.tb kn = false) :
    kx_c G l mV_rowsMade d 0 0 [.ref (Z.ad rV), .int (nI kn)] h (fun o h' => o = .returned (some (.int 0)) ∧ cOk G m S A h' Z) := by
  refine kx_in (by decide +kernel) (Nat.le_of_ble_eq_true rfl) hst ?_
  refine kx_rn dV_rowsMade 1 1 [(0, .ref (Z.ad rV)), (1, .int (nI kn))] [.ref (Z.ad rV)] rfl ?_
  refine pV_11 (v := .ref (Z.ad rTbs)) rfl (kx_tk_dec rfl dV_rowsMade) (hZ.is rV rfl) rfl ?_
  refine kx_rn dV_rowsMade 1 5 [(0, .ref (Z.ad rV)), (1, .int (nI kn))] [.int (nI kn), .ref (Z.ad rTbs)] rfl ?_
  refine kx_qldN (x := none) (i := kn) rfl rfl (kx_tk_dec rfl dV_rowsMade) (hZ.is rTbs rfl) (by show kn < 3; omega) (by decide) (if_neg (by rw [ht]; decide)) ?_
  refine kx_rn dV_rowsMade 2 8 [(0, .ref (Z.ad rV)), (1, .int (nI kn)), (2, .null)] [.null] rfl ?_
  refine kx_nnl (x := none) (tgt := 15) (kx_tk_dec rfl dV_rowsMade) rfl (fun a8 e8 => ?_) (fun e8 => ?_)
  · skip
    cases e8
  · skip
    refine kx_rn dV_rowsMade 2 19 [(0, .ref (Z.ad rV)), (1, .int (nI kn)), (2, .null)] [.int 0] rfl ?_
    refine kx_ret (ty := .int) (kx_tk_dec rfl dV_rowsMade) rfl rfl ?_
    exact ⟨rfl, hZ⟩
set_option maxRecDepth 100000 in
theorem cV_rowsMade1 {kn md : Nat} (hst : l.stackTraces = false) (hZ : cOk G m S A h Z) (hk : kn < 3) (ht : Z.tb kn = true) (hmd : Z.sc (rTab kn) 2 = nI md) :
    kx_c G l mV_rowsMade d 0 0 [.ref (Z.ad rV), .int (nI kn)] h (fun o h' => o = .returned (some (.int (nI md))) ∧ cOk G m S A h' Z) := by
  refine kx_in (by decide +kernel) (Nat.le_of_ble_eq_true rfl) hst ?_
  refine kx_rn dV_rowsMade 1 1 [(0, .ref (Z.ad rV)), (1, .int (nI kn))] [.ref (Z.ad rV)] rfl ?_
  refine pV_11 (v := .ref (Z.ad rTbs)) rfl (kx_tk_dec rfl dV_rowsMade) (hZ.is rV rfl) rfl ?_
  refine kx_rn dV_rowsMade 1 5 [(0, .ref (Z.ad rV)), (1, .int (nI kn))] [.int (nI kn), .ref (Z.ad rTbs)] rfl ?_
  refine kx_qldN (x := some (Z.ad (rTab kn))) (i := kn) rfl rfl (kx_tk_dec rfl dV_rowsMade) (hZ.is rTbs rfl) (by show kn < 3; omega) (by decide) (if_pos ht) ?_
  refine kx_rn dV_rowsMade 2 8 [(0, .ref (Z.ad rV)), (1, .int (nI kn)), (2, .ref (Z.ad (rTab kn)))] [.ref (Z.ad (rTab kn))] rfl ?_
  refine kx_nnl (x := some (Z.ad (rTab kn))) (tgt := 15) (kx_tk_dec rfl dV_rowsMade) rfl (fun a8 e8 => ?_) (fun e8 => ?_)
  · skip
    refine kx_rn dV_rowsMade 1 16 [(0, .ref (Z.ad rV)), (1, .int (nI kn)), (2, .ref (Z.ad (rTab kn)))] [.ref (Z.ad (rTab kn))] rfl ?_
    refine pV_131 (v := .int (Z.sc (rTab kn) 2)) rfl (kx_tk_dec rfl dV_rowsMade) (hZ.is (rTab kn) ⟨hk, ht⟩) rfl ?_
    rw [hmd]
    refine kx_ret (ty := .int) (kx_tk_dec rfl dV_rowsMade) rfl rfl ?_
    exact ⟨rfl, hZ⟩
  · skip
    cases e8
end KC31
