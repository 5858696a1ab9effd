/-! ===== the other side: versions dropped, counted, marked ===== -/
section KC32
variable {G : kx_G} {l : Launch} {d : Nat} {h : kx_H} {m : Nat} {S : Nat → Int32} {A : Nat → Nat → Int32} {Z : cZ}
def bn (b : Bool) : Nat := if b = true then 1 else 0
theorem b01_bn (b : Bool) : b01 b = nI (bn b) := by cases b <;> rfl
theorem bn_le (b : Bool) : bn b ≤ 1 := by cases b <;> decide
def cZ.wV (Z : cZ) (V : Nat → Nat) : cZ := (Z.ad, Z.sc, Z.ia, Z.tb, V, Z.pl, Z.st, Z.fi)
theorem vrF_is {q w : Nat} (hw : 1 ≤ w) (hw2 : w ≤ 40) : (vrF Z q w).isSome = decide (¬ Z.V (40 * q + (w - 1)) = 0) := by
  unfold vrF
  by_cases e : Z.V (40 * q + (w - 1)) = 0
  · rw [if_neg (fun z => z.2.2 e), decide_eq_false (fun z => z e)]; rfl
  · rw [if_pos ⟨hw, hw2, e⟩, decide_eq_true e]; rfl
theorem cnt_add (p : Nat → Bool) (a : Nat) : ∀ b, cnt p (a + b) = cnt p a + cnt (fun j => p (a + j)) b
  | 0 => rfl
  | b + 1 => by
    have := cnt_add p a b
    show cnt p (a + b) + _ = cnt p a + (cnt (fun j => p (a + j)) b + _)
    rw [this, Nat.add_assoc]
    rfl
theorem cnt_z {p : Nat → Bool} : ∀ {n : Nat}, (∀ i, i < n → p i = false) → cnt p n = 0
  | 0, _ => rfl
  | n + 1, h => by
    simp only [cnt]
    rw [cnt_z (n := n) (fun i hi => h i (by omega)), h n (by omega)]
    rfl
theorem cnt_s (p : Nat → Bool) (n : Nat) : cnt p (n + 1) = cnt p n + bn (p n) := rfl
/-- how many of a table's 24 rows, when those above md are none -/
theorem cnt_24 {p : Nat → Bool} {a md : Nat} (hm : md ≤ 24) (h : ∀ j, md ≤ j → j < 24 → p (a + j) = false) : cnt p (a + 24) = cnt p a + cnt (fun j => p (a + j)) md := by
  rw [cnt_add]
  congr 1
  obtain ⟨r, hr⟩ : ∃ r, 24 = md + r := ⟨24 - md, by omega⟩
  rw [hr, show cnt (fun j => p (a + j)) (md + r) = _ from cnt_add _ md r, cnt_z (fun i hi => h (md + i) (by omega) (by omega)), Nat.add_zero]
/-- the tables' numbers -/
def cNm (Z : cZ) (MD SC CL : Nat → Nat) : Prop := ∀ k, k < 3 → Z.tb k = true → Z.sc (rTab k) 0 = nI (CL k) ∧ 1 ≤ CL k ∧ CL k ≤ 4 ∧ Z.sc (rTab k) 2 = nI (MD k) ∧ MD k ≤ 24 ∧ Z.sc (rTab k) 3 = nI (SC k) ∧ SC k ≤ 40
def cRw (Z : cZ) (MD : Nat → Nat) : Prop := ∀ v, ¬ Z.V v = 0 → v / 40 % 24 < MD (v / 960)
set_option maxRecDepth 100000 in
theorem cB_dropAllOf {k w md : Nat} (hst : l.stackTraces = false) (hZ : cOk G m S A h Z) (hk : k < 3) (ht : Z.tb k = true) (hmd : Z.sc (rTab k) 2 = nI md) (hmd2 : md ≤ 24) (hw1 : 1 ≤ w) (hw2 : w ≤ 40) :
    kx_c G l mB_dropAllOf (d + 2) 0 0 [.ref (Z.ad (rTab k)), .int (nI w)] h (fun o h' => o = .returned (some (.int (nI (cnt (fun r => decide (¬ Z.V (40 * (24 * k + r) + (w - 1)) = 0)) md)))) ∧ ∃ V2, cOk G m S A h' (Z.wV V2) ∧ ∀ v, V2 v = if v % 40 = w - 1 ∧ 24 * k ≤ v / 40 ∧ v / 40 < 24 * k + md then 0 else Z.V v) := by
  refine kx_in (by decide +kernel) (Nat.le_of_ble_eq_true rfl) hst ?_
  have loop : ∀ n (j c : Nat) (h2 : kx_H) (V2 : Nat → Nat), j + n = md → c = cnt (fun r => decide (¬ Z.V (40 * (24 * k + r) + (w - 1)) = 0)) j → cOk G m S A h2 (Z.wV V2) → (∀ v, V2 v = if v % 40 = w - 1 ∧ 24 * k ≤ v / 40 ∧ v / 40 < 24 * k + j then 0 else Z.V v) → kx_w G l mB_dropAllOf (d + 2) (fun o h' => o = .returned (some (.int (nI (cnt (fun r => decide (¬ Z.V (40 * (24 * k + r) + (w - 1)) = 0)) md)))) ∧ ∃ V2, cOk G m S A h' (Z.wV V2) ∧ ∀ v, V2 v = if v % 40 = w - 1 ∧ 24 * k ≤ v / 40 ∧ v / 40 < 24 * k + md then 0 else Z.V v) 0 0 4 [(0, .ref (Z.ad (rTab k))), (1, .int (nI w)), (2, .int (nI c)), (3, .int (nI j))] [] h2 := by
    intro n
    induction n with
    | zero =>
      intro j c h2 V2 hj hc hz2 hV2
      refine kx_rn dB_dropAllOf 2 6 [(0, .ref (Z.ad (rTab k))), (1, .int (nI w)), (2, .int (nI c)), (3, .int (nI j))] [.ref (Z.ad (rTab k)), .int (nI j)] rfl ?_
      refine pB_17 (v := .int (Z.sc (rTab k) 2)) rfl (kx_tk_dec rfl dB_dropAllOf) (hz2.is (rTab k) ⟨hk, ht⟩) rfl ?_
      rw [hmd]
      refine kx_ic (tgt := 31) (kx_tk_dec rfl dB_dropAllOf) rfl (fun e9 => ?_) (fun e9 => ?_)
      · skip
        replace e9 : nI md ≤ nI j := e9
        replace e9 : md ≤ j := (nI_leI (a := md) (b := j) (by omega) (by omega)).mp e9
        refine kx_rn dB_dropAllOf 1 32 [(0, .ref (Z.ad (rTab k))), (1, .int (nI w)), (2, .int (nI c)), (3, .int (nI j))] [.int (nI c)] rfl ?_
        refine kx_ret (ty := .int) (kx_tk_dec rfl dB_dropAllOf) rfl rfl ?_
        rw [hc, show j = md by omega]; exact ⟨rfl, V2, hz2, fun v => by rw [hV2, show j = md by omega]⟩
      · skip
        replace e9 : ¬ nI md ≤ nI j := e9
        replace e9 : ¬ md ≤ j := fun z => e9 ((nI_leI (a := md) (b := j) (by omega) (by omega)).mpr z)
        exfalso; omega
    | succ n ih =>
      intro j c h2 V2 hj hc hz2 hV2
      have hcl := cnt_le (fun r => decide (¬ Z.V (40 * (24 * k + r) + (w - 1)) = 0)) j
      have hjm : j < md := by omega
      have hrow : lvZ Z (rRow (24 * k + j)) := ⟨by show 24 * k + j < 72; omega, by show Z.tb ((24 * k + j) / 24) = true; rw [show (24 * k + j) / 24 = k by omega]; exact ht⟩
      have hbyw : lvZ Z (rByw (24 * k + j)) := hrow
      refine kx_rn dB_dropAllOf 2 6 [(0, .ref (Z.ad (rTab k))), (1, .int (nI w)), (2, .int (nI c)), (3, .int (nI j))] [.ref (Z.ad (rTab k)), .int (nI j)] rfl ?_
      refine pB_17 (v := .int (Z.sc (rTab k) 2)) rfl (kx_tk_dec rfl dB_dropAllOf) (hz2.is (rTab k) ⟨hk, ht⟩) rfl ?_
      rw [hmd]
      refine kx_ic (tgt := 31) (kx_tk_dec rfl dB_dropAllOf) rfl (fun e9 => ?_) (fun e9 => ?_)
      · skip
        replace e9 : nI md ≤ nI j := e9
        replace e9 : md ≤ j := (nI_leI (a := md) (b := j) (by omega) (by omega)).mp e9
        exfalso; omega
      · skip
        replace e9 : ¬ nI md ≤ nI j := e9
        replace e9 : ¬ md ≤ j := fun z => e9 ((nI_leI (a := md) (b := j) (by omega) (by omega)).mpr z)
        refine kx_rn dB_dropAllOf 2 14 [(0, .ref (Z.ad (rTab k))), (1, .int (nI w)), (2, .int (nI c)), (3, .int (nI j))] [.ref (Z.ad (rTab k)), .int (nI c)] rfl ?_
        refine pB_11 (v := .ref (Z.ad (rRws k))) rfl (kx_tk_dec rfl dB_dropAllOf) (hz2.is (rTab k) ⟨hk, ht⟩) rfl ?_
        refine kx_rn dB_dropAllOf 1 18 [(0, .ref (Z.ad (rTab k))), (1, .int (nI w)), (2, .int (nI c)), (3, .int (nI j))] [.int (nI j), .ref (Z.ad (rRws k)), .int (nI c)] rfl ?_
        refine kx_qldN (x := some (Z.ad (rRow (24 * k + j)))) (i := j) rfl rfl (kx_tk_dec rfl dB_dropAllOf) (hz2.is (rRws k) ⟨hk, ht⟩) (by show j < 24; omega) (by decide) (if_pos (show j < 24 by omega)) ?_
        refine kx_rn dB_dropAllOf 1 20 [(0, .ref (Z.ad (rTab k))), (1, .int (nI w)), (2, .int (nI c)), (3, .int (nI j))] [.int (nI w), .ref (Z.ad (rRow (24 * k + j))), .int (nI c)] rfl ?_
        refine cB_32 (as := [.int (nI w)]) (st := [.int (nI c)]) (mc := 0) (ms := 0) (kc := 0) (ks := 0) rfl (kx_tk_dec rfl dB_dropAllOf) (hz2.is (rRow (24 * k + j)) hrow) rfl rfl (Nat.le_of_ble_eq_true rfl) (cR_drop (d := d) (f := vrF (Z.wV V2) (24 * k + j)) hst (hz2.is (rRow (24 * k + j)) hrow) (hz2.is (rByw (24 * k + j)) hbyw) (by omega)) (fun o h' hq => ?_)
        obtain ⟨rfl, rfl⟩ := hq
        show kx_w _ _ _ _ _ _ _ _ _ _ _
        rw [vrF_is hw1 hw2, b01_bn]
        refine cw_go (cz_drop hz2 hbyw ⟨hw1, hw2⟩ rfl) (fun h3 hz3 => ?_)
        have hbn := bn_le (decide (¬ (Z.wV V2).V (40 * (24 * k + j) + (w - 1)) = 0))
        refine kx_rn dB_dropAllOf 4 4 [(0, .ref (Z.ad (rTab k))), (1, .int (nI w)), (2, .int ((nI c) + (nI (bn (decide (¬ (Z.wV V2).V (40 * (24 * k + j) + (w - 1)) = 0)))))), (3, .int ((nI j) + 1))] [] rfl ?_
        rw [show (nI c) + (nI (bn (decide (¬ (Z.wV V2).V (40 * (24 * k + j) + (w - 1)) = 0)))) = nI (c + (bn (decide (¬ (Z.wV V2).V (40 * (24 * k + j) + (w - 1)) = 0)))) from kn_ad rfl rfl]
        rw [show (nI j) + 1 = nI (j + 1) from kn_ad rfl rfl]
        have hvj : V2 (40 * (24 * k + j) + (w - 1)) = Z.V (40 * (24 * k + j) + (w - 1)) := by rw [hV2, if_neg (by omega)]
        refine ih (j + 1) _ h3 (va_up V2 (40 * (24 * k + j) + (w - 1)) 0) (by omega) ?_ hz3 (fun v => ?_)
        · show _ + bn (decide (¬ V2 _ = 0)) = _
          rw [hvj, hc]; exact (cnt_s _ _).symm
        · simp only [va_up]
          by_cases z : v = 40 * (24 * k + j) + (w - 1)
          · rw [if_pos z, if_pos (by omega)]
          · rw [if_neg z, hV2]
            by_cases y : v % 40 = w - 1 ∧ 24 * k ≤ v / 40 ∧ v / 40 < 24 * k + j
            · rw [if_pos y, if_pos (by omega)]
            · rw [if_neg y, if_neg (by omega)]
  refine kx_rn dB_dropAllOf 4 4 [(0, .ref (Z.ad (rTab k))), (1, .int (nI w)), (2, .int 0), (3, .int 0)] [] rfl ?_
  exact loop md 0 0 h Z.V (by omega) rfl hZ (fun v => by rw [if_neg (by omega)])
theorem nsum_le40 {f : Nat → Nat} (h : ∀ r, f r ≤ 40) : ∀ n, nsum f n ≤ 40 * n
  | 0 => Nat.zero_le _
  | n + 1 => by
    have h1 := nsum_le40 h n
    have h2 := h n
    simp only [nsum]
    omega
set_option maxRecDepth 100000 in
theorem cB_versionsThere {k md : Nat} (hst : l.stackTraces = false) (hZ : cOk G m S A h Z) (hk : k < 3) (ht : Z.tb k = true) (hmd : Z.sc (rTab k) 2 = nI md) (hmd2 : md ≤ 24) :
    kx_c G l mB_versionsThere (d + 2) 0 0 [.ref (Z.ad (rTab k))] h (fun o h' => o = .returned (some (.int (nI (nsum (fun r => cnt (fun i => decide (¬ Z.V (40 * (24 * k + r) + i) = 0)) 40) md)))) ∧ cOk G m S A h' Z) := by
  refine kx_in (by decide +kernel) (Nat.le_of_ble_eq_true rfl) hst ?_
  have loop : ∀ n (j c : Nat), j + n = md → c = nsum (fun r => cnt (fun i => decide (¬ Z.V (40 * (24 * k + r) + i) = 0)) 40) j → kx_w G l mB_versionsThere (d + 2) (fun o h' => o = .returned (some (.int (nI (nsum (fun r => cnt (fun i => decide (¬ Z.V (40 * (24 * k + r) + i) = 0)) 40) md)))) ∧ cOk G m S A h' Z) 0 0 4 [(0, .ref (Z.ad (rTab k))), (1, .int (nI c)), (2, .int (nI j))] [] h := by
    intro n
    induction n with
    | zero =>
      intro j c hj hc
      refine kx_rn dB_versionsThere 2 6 [(0, .ref (Z.ad (rTab k))), (1, .int (nI c)), (2, .int (nI j))] [.ref (Z.ad (rTab k)), .int (nI j)] rfl ?_
      refine pB_17 (v := .int (Z.sc (rTab k) 2)) rfl (kx_tk_dec rfl dB_versionsThere) (hZ.is (rTab k) ⟨hk, ht⟩) rfl ?_
      rw [hmd]
      refine kx_ic (tgt := 30) (kx_tk_dec rfl dB_versionsThere) rfl (fun e9 => ?_) (fun e9 => ?_)
      · skip
        replace e9 : nI md ≤ nI j := e9
        replace e9 : md ≤ j := (nI_leI (a := md) (b := j) (by omega) (by omega)).mp e9
        refine kx_rn dB_versionsThere 1 31 [(0, .ref (Z.ad (rTab k))), (1, .int (nI c)), (2, .int (nI j))] [.int (nI c)] rfl ?_
        refine kx_ret (ty := .int) (kx_tk_dec rfl dB_versionsThere) rfl rfl ?_
        rw [hc, show j = md by omega]; exact ⟨rfl, hZ⟩
      · skip
        replace e9 : ¬ nI md ≤ nI j := e9
        replace e9 : ¬ md ≤ j := fun z => e9 ((nI_leI (a := md) (b := j) (by omega) (by omega)).mpr z)
        exfalso; omega
    | succ n ih =>
      intro j c hj hc
      have hcl := nsum_le40 (f := fun r => cnt (fun i => decide (¬ Z.V (40 * (24 * k + r) + i) = 0)) 40) (fun r => cnt_le _ 40) j
      have hjm : j < md := by omega
      have hrow : lvZ Z (rRow (24 * k + j)) := ⟨by show 24 * k + j < 72; omega, by show Z.tb ((24 * k + j) / 24) = true; rw [show (24 * k + j) / 24 = k by omega]; exact ht⟩
      have hbyw : lvZ Z (rByw (24 * k + j)) := hrow
      refine kx_rn dB_versionsThere 2 6 [(0, .ref (Z.ad (rTab k))), (1, .int (nI c)), (2, .int (nI j))] [.ref (Z.ad (rTab k)), .int (nI j)] rfl ?_
      refine pB_17 (v := .int (Z.sc (rTab k) 2)) rfl (kx_tk_dec rfl dB_versionsThere) (hZ.is (rTab k) ⟨hk, ht⟩) rfl ?_
      rw [hmd]
      refine kx_ic (tgt := 30) (kx_tk_dec rfl dB_versionsThere) rfl (fun e9 => ?_) (fun e9 => ?_)
      · skip
        replace e9 : nI md ≤ nI j := e9
        replace e9 : md ≤ j := (nI_leI (a := md) (b := j) (by omega) (by omega)).mp e9
        exfalso; omega
      · skip
        replace e9 : ¬ nI md ≤ nI j := e9
        replace e9 : ¬ md ≤ j := fun z => e9 ((nI_leI (a := md) (b := j) (by omega) (by omega)).mpr z)
        refine kx_rn dB_versionsThere 2 14 [(0, .ref (Z.ad (rTab k))), (1, .int (nI c)), (2, .int (nI j))] [.ref (Z.ad (rTab k)), .int (nI c)] rfl ?_
        refine pB_11 (v := .ref (Z.ad (rRws k))) rfl (kx_tk_dec rfl dB_versionsThere) (hZ.is (rTab k) ⟨hk, ht⟩) rfl ?_
        refine kx_rn dB_versionsThere 1 18 [(0, .ref (Z.ad (rTab k))), (1, .int (nI c)), (2, .int (nI j))] [.int (nI j), .ref (Z.ad (rRws k)), .int (nI c)] rfl ?_
        refine kx_qldN (x := some (Z.ad (rRow (24 * k + j)))) (i := j) rfl rfl (kx_tk_dec rfl dB_versionsThere) (hZ.is (rRws k) ⟨hk, ht⟩) (by show j < 24; omega) (by decide) (if_pos (show j < 24 by omega)) ?_
        refine cB_36 (as := []) (st := [.int (nI c)]) (mc := 0) (ms := 0) (kc := 0) (ks := 0) rfl (kx_tk_dec rfl dB_versionsThere) (hZ.is (rRow (24 * k + j)) hrow) rfl rfl (Nat.le_of_ble_eq_true rfl) (cR_size (d := d) (f := vrF Z (24 * k + j)) hst (hZ.is (rRow (24 * k + j)) hrow) (hZ.is (rByw (24 * k + j)) hrow)) (fun o h' hq => ?_)
        obtain ⟨rfl, rfl⟩ := hq
        show kx_w _ _ _ _ _ _ _ _ _ _ _
        rw [show cnt (fun i => (vrF Z (24 * k + j) (i + 1)).isSome) 40 = cnt (fun i => decide (¬ Z.V (40 * (24 * k + j) + i) = 0)) 40 from cnt_congr (fun i hi => by rw [vrF_is (by omega) (by omega), Nat.add_sub_cancel])]
        have hcz := cnt_le (fun i => decide (¬ Z.V (40 * (24 * k + j) + i) = 0)) 40
        refine kx_rn dB_versionsThere 4 4 [(0, .ref (Z.ad (rTab k))), (1, .int ((nI c) + (nI (cnt (fun i => decide (¬ Z.V (40 * (24 * k + j) + i) = 0)) 40)))), (2, .int ((nI j) + 1))] [] rfl ?_
        rw [show (nI c) + (nI (cnt (fun i => decide (¬ Z.V (40 * (24 * k + j) + i) = 0)) 40)) = nI (c + (cnt (fun i => decide (¬ Z.V (40 * (24 * k + j) + i) = 0)) 40)) from kn_ad rfl rfl]
        rw [show (nI j) + 1 = nI (j + 1) from kn_ad rfl rfl]
        exact ih (j + 1) _ (by omega) (by rw [hc]; rfl)
  refine kx_rn dB_versionsThere 4 4 [(0, .ref (Z.ad (rTab k))), (1, .int 0), (2, .int 0)] [] rfl ?_
  exact loop md 0 0 (by omega) rfl
theorem nsum_add (f : Nat → Nat) (a : Nat) : ∀ b, nsum f (a + b) = nsum f a + nsum (fun j => f (a + j)) b
  | 0 => rfl
  | b + 1 => by
    have := nsum_add f a b
    show nsum f (a + b) + _ = nsum f a + (nsum (fun j => f (a + j)) b + _)
    rw [this, Nat.add_assoc]
    rfl
theorem nsum_z {f : Nat → Nat} : ∀ {n : Nat}, (∀ i, i < n → f i = 0) → nsum f n = 0
  | 0, _ => rfl
  | n + 1, h => by
    simp only [nsum]
    rw [nsum_z (n := n) (fun i hi => h i (by omega)), h n (by omega)]
theorem nsum_24 {f : Nat → Nat} {a md : Nat} (hm : md ≤ 24) (h : ∀ j, md ≤ j → j < 24 → f (a + j) = 0) : nsum f (a + 24) = nsum f a + nsum (fun j => f (a + j)) md := by
  rw [nsum_add]
  congr 1
  obtain ⟨r, hr⟩ : ∃ r, 24 = md + r := ⟨24 - md, by omega⟩
  rw [hr, show nsum (fun j => f (a + j)) (md + r) = _ from nsum_add _ md r, nsum_z (fun i hi => h (md + i) (by omega) (by omega)), Nat.add_zero]
theorem nsum_congr2 {f g : Nat → Nat} : ∀ {n : Nat}, (∀ i, i < n → f i = g i) → nsum f n = nsum g n
  | 0, _ => rfl
  | n + 1, h => by
    simp only [nsum]
    rw [nsum_congr2 (n := n) (fun i hi => h i (by omega)), h n (by omega)]
set_option maxRecDepth 100000 in
theorem cV_breakOff {tn bg : Nat} {MD SC CL : Nat → Nat} (hst : l.stackTraces = false) (hZ : cOk G m S A h Z) (hnm : cNm Z MD SC CL) (hrw : cRw Z MD) (hbg : Z.sc rTr 1 = nI bg) (hb40 : bg ≤ 40) (ht1 : 1 ≤ tn) (ht2 : tn ≤ bg) :
    kx_c G l mV_breakOff (d + 3) 0 0 [.ref (Z.ad rV), .int (nI tn)] h (fun o h' => o = .returned (some (.int (nI (cnt (fun q => decide (¬ Z.V (40 * q + (tn - 1)) = 0)) 72)))) ∧ ∃ V2, cOk G m S A h' ((Z.sT tn 3).wV V2) ∧ ∀ v, V2 v = vBrk Z.V tn v) := by
  refine kx_in (by decide +kernel) (Nat.le_of_ble_eq_true rfl) hst ?_
  have loop : ∀ n (j c : Nat) (h2 : kx_H) (V2 : Nat → Nat), j + n = 3 → c = cnt (fun q => decide (¬ Z.V (40 * q + (tn - 1)) = 0)) (24 * j) → cOk G m S A h2 ((Z.sT tn 3).wV V2) → (∀ v, V2 v = if v % 40 = tn - 1 ∧ v / 960 < j then 0 else Z.V v) → kx_w G l mV_breakOff (d + 3) (fun o h' => o = .returned (some (.int (nI (cnt (fun q => decide (¬ Z.V (40 * q + (tn - 1)) = 0)) 72)))) ∧ ∃ V2, cOk G m S A h' ((Z.sT tn 3).wV V2) ∧ ∀ v, V2 v = vBrk Z.V tn v) 0 0 15 [(0, .ref (Z.ad rV)), (1, .int (nI tn)), (2, .int (nI c)), (3, .int (nI j))] [] h2 := by
    intro n
    induction n with
    | zero =>
      intro j c h2 V2 hj hc hz2 hV2
      refine kx_rn dV_breakOff 2 17 [(0, .ref (Z.ad rV)), (1, .int (nI tn)), (2, .int (nI c)), (3, .int (nI j))] [.int 3, .int (nI j)] rfl ?_
      refine kx_ic (tgt := 48) (kx_tk_dec rfl dV_breakOff) rfl (fun e17 => ?_) (fun e17 => ?_)
      · skip
        replace e17 : 3 ≤ nI j := e17
        replace e17 : 3 ≤ j := (nI_leI (a := 3) (b := j) (by omega) (by omega)).mp e17
        refine kx_rn dV_breakOff 1 49 [(0, .ref (Z.ad rV)), (1, .int (nI tn)), (2, .int (nI c)), (3, .int (nI j))] [.int (nI c)] rfl ?_
        refine kx_ret (ty := .int) (kx_tk_dec rfl dV_breakOff) rfl rfl ?_
        rw [hc, show 24 * j = 72 by omega]
        refine ⟨rfl, V2, hz2, fun v => ?_⟩
        rw [hV2]
        unfold vBrk
        by_cases y : v < 2880
        · by_cases y2 : v % 40 = tn - 1
          · rw [if_pos ⟨y2, by omega⟩, if_pos ⟨y2, y⟩]
          · rw [if_neg (fun z => y2 z.1), if_neg (fun z => y2 z.1)]
        · rw [if_neg (by omega), if_neg (by omega)]
      · skip
        replace e17 : ¬ 3 ≤ nI j := e17
        replace e17 : ¬ 3 ≤ j := fun z => e17 ((nI_leI (a := 3) (b := j) (by omega) (by omega)).mpr z)
        exfalso; omega
    | succ n ih =>
      intro j c h2 V2 hj hc hz2 hV2
      have hcl := cnt_le (fun q => decide (¬ Z.V (40 * q + (tn - 1)) = 0)) (24 * j)
      refine kx_rn dV_breakOff 2 17 [(0, .ref (Z.ad rV)), (1, .int (nI tn)), (2, .int (nI c)), (3, .int (nI j))] [.int 3, .int (nI j)] rfl ?_
      refine kx_ic (tgt := 48) (kx_tk_dec rfl dV_breakOff) rfl (fun e17 => ?_) (fun e17 => ?_)
      · skip
        replace e17 : 3 ≤ nI j := e17
        replace e17 : 3 ≤ j := (nI_leI (a := 3) (b := j) (by omega) (by omega)).mp e17
        exfalso; omega
      · skip
        replace e17 : ¬ 3 ≤ nI j := e17
        replace e17 : ¬ 3 ≤ j := fun z => e17 ((nI_leI (a := 3) (b := j) (by omega) (by omega)).mpr z)
        refine kx_rn dV_breakOff 1 21 [(0, .ref (Z.ad rV)), (1, .int (nI tn)), (2, .int (nI c)), (3, .int (nI j))] [.ref (Z.ad rV)] rfl ?_
        refine pV_11 (v := .ref (Z.ad rTbs)) rfl (kx_tk_dec rfl dV_breakOff) (hz2.is rV rfl) rfl ?_
        refine kx_rn dV_breakOff 1 25 [(0, .ref (Z.ad rV)), (1, .int (nI tn)), (2, .int (nI c)), (3, .int (nI j))] [.int (nI j), .ref (Z.ad rTbs)] rfl ?_
        refine kx_qldN (x := ((tbF Z)) j) (i := j) rfl rfl (kx_tk_dec rfl dV_breakOff) (hz2.is rTbs rfl) (by show j < 3; omega) (by decide) rfl ?_
        refine kx_nul (tgt := 42) (kx_tk_dec rfl dV_breakOff) rfl (fun e26 => ?_) (fun a26 e26 => ?_)
        · skip
          refine kx_rn dV_breakOff 2 15 [(0, .ref (Z.ad rV)), (1, .int (nI tn)), (2, .int (nI c)), (3, .int ((nI j) + 1))] [] rfl ?_
          rw [show (nI j) + 1 = nI (j + 1) from kn_ad rfl rfl]
          have hzr : ∀ r, r < 24 → Z.V (40 * (24 * j + r) + (tn - 1)) = 0 := fun r hr => Classical.byContradiction fun z => by
            have y := (hZ.wf.inn _ z).2
            rw [show (40 * (24 * j + r) + (tn - 1)) / 960 = j by omega, tbF_n e26] at y
            cases y
          refine ih (j + 1) _ h2 V2 (by omega) ?_ hz2 (fun v => ?_)
          · rw [show 24 * (j + 1) = 24 * j + 24 by omega, cnt_24 (md := 0) (Nat.zero_le _) (fun r _ hr => decide_eq_false (fun z => z (hzr r hr))), hc]; rfl
          · rw [hV2]
            by_cases y : v % 40 = tn - 1 ∧ v / 960 < j
            · rw [if_pos y, if_pos (by omega)]
            · rw [if_neg y]
              by_cases y2 : v % 40 = tn - 1 ∧ v / 960 < j + 1
              · rw [if_pos y2]
                have := hzr (v / 40 - 24 * j) (by omega)
                rw [show 40 * (24 * j + (v / 40 - 24 * j)) + (tn - 1) = v by omega] at this
                exact this
              · rw [if_neg y2]
        · skip
          refine kx_rn dV_breakOff 2 31 [(0, .ref (Z.ad rV)), (1, .int (nI tn)), (2, .int (nI c)), (3, .int (nI j))] [.ref (Z.ad rV), .int (nI c)] rfl ?_
          refine pV_11 (v := .ref (Z.ad rTbs)) rfl (kx_tk_dec rfl dV_breakOff) (hz2.is rV rfl) rfl ?_
          refine kx_rn dV_breakOff 1 35 [(0, .ref (Z.ad rV)), (1, .int (nI tn)), (2, .int (nI c)), (3, .int (nI j))] [.int (nI j), .ref (Z.ad rTbs), .int (nI c)] rfl ?_
          refine kx_qldN (x := some (Z.ad (rTab j))) (i := j) rfl rfl (kx_tk_dec rfl dV_breakOff) (hz2.is rTbs rfl) (by show j < 3; omega) (by decide) (if_pos (tbF_s e26).1) ?_
          refine kx_rn dV_breakOff 1 37 [(0, .ref (Z.ad rV)), (1, .int (nI tn)), (2, .int (nI c)), (3, .int (nI j))] [.int (nI tn), .ref (Z.ad (rTab j)), .int (nI c)] rfl ?_
          obtain ⟨y1, y2, y3, y4, y5, y6, y7⟩ := hnm j (by omega) (tbF_s e26).1
          refine cV_299 (as := [.int (nI tn)]) (st := [.int (nI c)]) (mc := 0) (ms := 0) (kc := 0) (ks := 0) rfl (kx_tk_dec rfl dV_breakOff) (hz2.is (rTab j) ⟨by show j < 3; omega, (tbF_s e26).1⟩) rfl rfl (Nat.le_of_ble_eq_true rfl) (cB_dropAllOf (d := d) (Z := (Z.sT tn 3).wV V2) hst hz2 (by omega) (tbF_s e26).1 y4 y5 ht1 (by omega)) (fun o h' hq => ?_)
          obtain ⟨rfl, V3, hz3, hV3⟩ := hq
          show kx_w _ _ _ _ _ _ _ _ _ _ _
          have hcn : cnt (fun r => decide (¬ ((Z.sT tn 3).wV V2).V (40 * (24 * j + r) + (tn - 1)) = 0)) (MD j) = cnt (fun r => decide (¬ Z.V (40 * (24 * j + r) + (tn - 1)) = 0)) (MD j) := cnt_congr (fun r hr => by
            show decide (¬ V2 _ = 0) = _
            rw [hV2, if_neg (by omega)])
          rw [hcn]
          have hcl2 := cnt_le (fun r => decide (¬ Z.V (40 * (24 * j + r) + (tn - 1)) = 0)) (MD j)
          refine kx_rn dV_breakOff 4 15 [(0, .ref (Z.ad rV)), (1, .int (nI tn)), (2, .int ((nI c) + (nI (cnt (fun r => decide (¬ Z.V (40 * (24 * j + r) + (tn - 1)) = 0)) (MD j))))), (3, .int ((nI j) + 1))] [] rfl ?_
          rw [show (nI c) + (nI (cnt (fun r => decide (¬ Z.V (40 * (24 * j + r) + (tn - 1)) = 0)) (MD j))) = nI (c + (cnt (fun r => decide (¬ Z.V (40 * (24 * j + r) + (tn - 1)) = 0)) (MD j))) from kn_ad rfl rfl]
          rw [show (nI j) + 1 = nI (j + 1) from kn_ad rfl rfl]
          have hzr : ∀ r, MD j ≤ r → r < 24 → Z.V (40 * (24 * j + r) + (tn - 1)) = 0 := fun r hr1 hr => Classical.byContradiction fun z => by
            have y := hrw _ z
            rw [show (40 * (24 * j + r) + (tn - 1)) / 960 = j by omega, show (40 * (24 * j + r) + (tn - 1)) / 40 % 24 = r by omega] at y
            omega
          refine ih (j + 1) _ h' V3 (by omega) ?_ hz3 (fun v => ?_)
          · rw [show 24 * (j + 1) = 24 * j + 24 by omega, cnt_24 (md := MD j) y5 (fun r hr1 hr => decide_eq_false (fun z => z (hzr r hr1 hr))), hc]
          · rw [hV3]
            show (if _ then 0 else V2 v) = _
            rw [hV2]
            by_cases y : v % 40 = tn - 1 ∧ v / 960 < j
            · rw [if_pos y, if_pos (show v % 40 = tn - 1 ∧ v / 960 < j + 1 by omega)]; split <;> rfl
            · rw [if_neg y]
              by_cases y2 : v % 40 = tn - 1 ∧ v / 960 < j + 1
              · rw [if_pos y2]
                by_cases y3 : v % 40 = tn - 1 ∧ 24 * j ≤ v / 40 ∧ v / 40 < 24 * j + MD j
                · rw [if_pos y3]
                · rw [if_neg y3]
                  have := hzr (v / 40 - 24 * j) (by omega) (by omega)
                  rw [show 40 * (24 * j + (v / 40 - 24 * j)) + (tn - 1) = v by omega] at this
                  exact this
              · rw [if_neg y2, if_neg (by omega)]
  refine kx_rn dV_breakOff 1 1 [(0, .ref (Z.ad rV)), (1, .int (nI tn))] [.ref (Z.ad rV)] rfl ?_
  refine pV_18 (v := .ref (Z.ad rTr)) rfl (kx_tk_dec rfl dV_breakOff) (hZ.is rV rfl) rfl ?_
  refine kx_rn dV_breakOff 1 5 [(0, .ref (Z.ad rV)), (1, .int (nI tn))] [.int (nI tn), .ref (Z.ad rTr)] rfl ?_
  refine pV_296 rfl (kx_tk_dec rfl dV_breakOff) ?_
  have htr : kx_is G h (Z.ad rTr) (.inr (1, [.ref (Z.ad rSts), .int (nI bg), .int (Z.sc rTr 2)])) := by rw [← hbg]; exact hZ.is rTr rfl
  refine cV_119 (as := [.int (nI tn), .ref (G.2.2.2.1 2)]) (st := []) (mc := 0) (ms := 0) (kc := 0) (ks := 0) rfl (kx_tk_dec rfl dV_breakOff) (hZ.is rTr rfl) rfl rfl (Nat.le_of_ble_eq_true rfl) (cT_end (k := 2) (S6 := Z.st) hst htr (hZ.is rSts rfl) hZ.wf.stc hb40 (by decide) (by omega)) (fun o h' hq => ?_)
  obtain ⟨rfl, rfl⟩ := hq
  show kx_w _ _ _ _ _ _ _ _ _ _ _
  refine cw_go (cz_sT (t := tn) (x := 3) hZ (by decide) rfl) (fun h2 hz2 => ?_)
  refine kx_rn dV_breakOff 4 15 [(0, .ref (Z.ad rV)), (1, .int (nI tn)), (2, .int 0), (3, .int 0)] [] rfl ?_
  exact loop 3 0 0 h2 Z.V rfl rfl hz2 (fun v => by rw [if_neg (by omega)])
set_option maxRecDepth 100000 in
theorem cV_breakTooLate {tn bg : Nat} {MD SC CL : Nat → Nat} (hst : l.stackTraces = false) (hZ : cOk G m S A h Z) (hnm : cNm Z MD SC CL) (hrw : cRw Z MD) (hbg : Z.sc rTr 1 = nI bg) (hb40 : bg ≤ 40) (ht1 : 1 ≤ tn) (ht2 : tn ≤ bg) :
    kx_c G l mV_breakTooLate (d + 4) 0 0 [.ref (Z.ad rV), .int (nI tn)] h (fun o h' => o = .returned none ∧ ∃ V2, cOk G m S A h' (((Z.sT tn 3).wV V2).sS rTr 2 (Z.sc rTr 2 + 1)) ∧ ∀ v, V2 v = vBrk Z.V tn v) := by
  refine kx_in (by decide +kernel) (Nat.le_of_ble_eq_true rfl) hst ?_
  refine kx_rn dV_breakTooLate 2 2 [(0, .ref (Z.ad rV)), (1, .int (nI tn))] [.int (nI tn), .ref (Z.ad rV)] rfl ?_
  refine cV_123 (as := [.int (nI tn)]) (st := []) (mc := 0) (ms := 0) (kc := 0) (ks := 0) rfl (kx_tk_dec rfl dV_breakTooLate) (hZ.is rV rfl) rfl rfl (Nat.le_of_ble_eq_true rfl) (cV_breakOff (d := d) hst hZ hnm hrw hbg hb40 ht1 ht2) (fun o h' hq => ?_)
  obtain ⟨rfl, V2, hz2, hV2⟩ := hq
  show kx_w _ _ _ _ _ _ _ _ _ _ _
  refine kx_rn dV_breakTooLate 2 7 [(0, .ref (Z.ad rV)), (1, .int (nI tn))] [.ref (Z.ad rV)] rfl ?_
  refine pV_18 (v := .ref (Z.ad rTr)) rfl (kx_tk_dec rfl dV_breakTooLate) (hz2.is rV rfl) rfl ?_
  refine kx_rn dV_breakTooLate 1 11 [(0, .ref (Z.ad rV)), (1, .int (nI tn))] [.ref (Z.ad rTr), .ref (Z.ad rTr)] rfl ?_
  refine pV_225 (v := .int (Z.sc rTr 2)) rfl (kx_tk_dec rfl dV_breakTooLate) (hz2.is rTr rfl) rfl ?_
  refine kx_rn dV_breakTooLate 2 16 [(0, .ref (Z.ad rV)), (1, .int (nI tn))] [.int ((Z.sc rTr 2) + 1), .ref (Z.ad rTr)] rfl ?_
  refine qV_225 rfl (kx_tk_dec rfl dV_breakTooLate) (hz2.is rTr rfl) rfl rfl (Nat.le_of_ble_eq_true rfl) ?_
  refine cw_go (cz_sS (ρ := rTr) hz2 rfl 2 ((Z.sc rTr 2) + 1) rfl) (fun h1 hz1 => ?_)
  refine kx_retv (kx_tk_dec rfl dV_breakTooLate) rfl ?_
  exact ⟨rfl, V2, hz1, hV2⟩
set_option maxRecDepth 100000 in
theorem cV_abort0 {tn bg : Nat} {MD SC CL : Nat → Nat} (hst : l.stackTraces = false) (hZ : cOk G m S A h Z) (hnm : cNm Z MD SC CL) (hrw : cRw Z MD) (hbg : Z.sc rTr 1 = nI bg) (hb40 : bg ≤ 40) (ht1 : 1 ≤ tn) (ht2 : tn ≤ bg) (hts : Z.st tn = 1) :
    kx_c G l mV_abort (d + 4) 0 0 [.ref (Z.ad rV), .int (nI tn)] h (fun o h' => o = .returned (some (.int (nI (cnt (fun q => decide (¬ Z.V (40 * q + (tn - 1)) = 0)) 72)))) ∧ ∃ V2, cOk G m S A h' ((Z.sT tn 3).wV V2) ∧ ∀ v, V2 v = vBrk Z.V tn v) := by
  refine kx_in (by decide +kernel) (Nat.le_of_ble_eq_true rfl) hst ?_
  refine kx_rn dV_abort 2 2 [(0, .ref (Z.ad rV)), (1, .int (nI tn))] [.int (nI tn), .ref (Z.ad rV)] rfl ?_
  refine cV_110 (as := [.int (nI tn)]) (st := []) (mc := 0) (ms := 0) (kc := 0) (ks := 0) rfl (kx_tk_dec rfl dV_abort) (hZ.is rV rfl) rfl rfl (Nat.le_of_ble_eq_true rfl) (cV_mustBeOpen0 (d := d + 2) hst hZ hbg hb40 ⟨tn, ht1, ht2, rfl, hts⟩) (fun o h' hq => ?_)
  obtain ⟨rfl, hz0⟩ := hq
  show kx_w _ _ _ _ _ _ _ _ _ _ _
  refine kx_rn dV_abort 2 7 [(0, .ref (Z.ad rV)), (1, .int (nI tn))] [.int (nI tn), .ref (Z.ad rV)] rfl ?_
  refine cV_123 (as := [.int (nI tn)]) (st := []) (mc := 0) (ms := 0) (kc := 0) (ks := 0) rfl (kx_tk_dec rfl dV_abort) (hz0.is rV rfl) rfl rfl (Nat.le_of_ble_eq_true rfl) (cV_breakOff (d := d) hst hz0 hnm hrw hbg hb40 ht1 ht2) (fun o h' hq => ?_)
  obtain ⟨rfl, V2, hz2, hV2⟩ := hq
  show kx_w _ _ _ _ _ _ _ _ _ _ _
  refine kx_ret (ty := .int) (kx_tk_dec rfl dV_abort) rfl rfl ?_
  exact ⟨rfl, V2, hz2, hV2⟩
set_option maxRecDepth 100000 in
theorem cV_abort1 {t : Int32} {bg : Nat} (hst : l.stackTraces = false) (hZ : cOk G m S A h Z) (hbg : Z.sc rTr 1 = nI bg) (hb40 : bg ≤ 40) (hop : ¬ cOp Z bg t) :
    kx_c G l mV_abort (d + 4) 1 6 [.ref (Z.ad rV), .int t] h (fun o h' => ∃ x, o = .threw x ∧ kx_is G h' x (.inr (11, [])) ∧ cOk G m S A h' Z) := by
  refine kx_in (by decide +kernel) (Nat.le_of_ble_eq_true rfl) hst ?_
  refine kx_rn dV_abort 2 2 [(0, .ref (Z.ad rV)), (1, .int t)] [.int t, .ref (Z.ad rV)] rfl ?_
  refine cV_110 (as := [.int t]) (st := []) (mc := 1) (ms := 6) (kc := 0) (ks := 0) rfl (kx_tk_dec rfl dV_abort) (hZ.is rV rfl) rfl rfl (Nat.le_of_ble_eq_true rfl) (cV_mustBeOpen1 (d := d + 2) hst hZ hbg hb40 hop) (fun o h' hq => ?_)
  obtain ⟨x, rfl, hx, hz0⟩ := hq
  exact kx_out (fun q hq => by cases hq) ⟨x, rfl, hx, hz0⟩
set_option maxRecDepth 100000 in
theorem cV_allVersions {MD SC CL : Nat → Nat} (hst : l.stackTraces = false) (hZ : cOk G m S A h Z) (hnm : cNm Z MD SC CL) (hrw : cRw Z MD) :
    kx_c G l mV_allVersions (d + 3) 0 0 [.ref (Z.ad rV)] h (fun o h' => o = .returned (some (.int (nI (nsum (fun q => cnt (fun i => decide (¬ Z.V (40 * q + i) = 0)) 40) 72)))) ∧ cOk G m S A h' Z) := by
  refine kx_in (by decide +kernel) (Nat.le_of_ble_eq_true rfl) hst ?_
  have loop : ∀ n (j c : Nat) (h2 : kx_H), j + n = 3 → c = nsum (fun q => cnt (fun i => decide (¬ Z.V (40 * q + i) = 0)) 40) (24 * j) → cOk G m S A h2 Z → kx_w G l mV_allVersions (d + 3) (fun o h' => o = .returned (some (.int (nI (nsum (fun q => cnt (fun i => decide (¬ Z.V (40 * q + i) = 0)) 40) 72)))) ∧ cOk G m S A h' Z) 0 0 4 [(0, .ref (Z.ad rV)), (1, .int (nI c)), (2, .int (nI j))] [] h2 := by
    intro n
    induction n with
    | zero =>
      intro j c h2 hj hc hz2
      refine kx_rn dV_allVersions 2 6 [(0, .ref (Z.ad rV)), (1, .int (nI c)), (2, .int (nI j))] [.int 3, .int (nI j)] rfl ?_
      refine kx_ic (tgt := 36) (kx_tk_dec rfl dV_allVersions) rfl (fun e6 => ?_) (fun e6 => ?_)
      · skip
        replace e6 : 3 ≤ nI j := e6
        replace e6 : 3 ≤ j := (nI_leI (a := 3) (b := j) (by omega) (by omega)).mp e6
        refine kx_rn dV_allVersions 1 37 [(0, .ref (Z.ad rV)), (1, .int (nI c)), (2, .int (nI j))] [.int (nI c)] rfl ?_
        refine kx_ret (ty := .int) (kx_tk_dec rfl dV_allVersions) rfl rfl ?_
        rw [hc, show 24 * j = 72 by omega]; exact ⟨rfl, hz2⟩
      · skip
        replace e6 : ¬ 3 ≤ nI j := e6
        replace e6 : ¬ 3 ≤ j := fun z => e6 ((nI_leI (a := 3) (b := j) (by omega) (by omega)).mpr z)
        exfalso; omega
    | succ n ih =>
      intro j c h2 hj hc hz2
      have hcl := nsum_le40 (f := (fun q => cnt (fun i => decide (¬ Z.V (40 * q + i) = 0)) 40)) (fun r => cnt_le _ 40) (24 * j)
      refine kx_rn dV_allVersions 2 6 [(0, .ref (Z.ad rV)), (1, .int (nI c)), (2, .int (nI j))] [.int 3, .int (nI j)] rfl ?_
      refine kx_ic (tgt := 36) (kx_tk_dec rfl dV_allVersions) rfl (fun e6 => ?_) (fun e6 => ?_)
      · skip
        replace e6 : 3 ≤ nI j := e6
        replace e6 : 3 ≤ j := (nI_leI (a := 3) (b := j) (by omega) (by omega)).mp e6
        exfalso; omega
      · skip
        replace e6 : ¬ 3 ≤ nI j := e6
        replace e6 : ¬ 3 ≤ j := fun z => e6 ((nI_leI (a := 3) (b := j) (by omega) (by omega)).mpr z)
        refine kx_rn dV_allVersions 1 10 [(0, .ref (Z.ad rV)), (1, .int (nI c)), (2, .int (nI j))] [.ref (Z.ad rV)] rfl ?_
        refine pV_11 (v := .ref (Z.ad rTbs)) rfl (kx_tk_dec rfl dV_allVersions) (hz2.is rV rfl) rfl ?_
        refine kx_rn dV_allVersions 1 14 [(0, .ref (Z.ad rV)), (1, .int (nI c)), (2, .int (nI j))] [.int (nI j), .ref (Z.ad rTbs)] rfl ?_
        refine kx_qldN (x := ((tbF Z)) j) (i := j) rfl rfl (kx_tk_dec rfl dV_allVersions) (hz2.is rTbs rfl) (by show j < 3; omega) (by decide) rfl ?_
        refine kx_nul (tgt := 30) (kx_tk_dec rfl dV_allVersions) rfl (fun e15 => ?_) (fun a15 e15 => ?_)
        · skip
          refine kx_rn dV_allVersions 2 4 [(0, .ref (Z.ad rV)), (1, .int (nI c)), (2, .int ((nI j) + 1))] [] rfl ?_
          rw [show (nI j) + 1 = nI (j + 1) from kn_ad rfl rfl]
          have hzr : ∀ r, r < 24 → cnt (fun i => decide (¬ Z.V (40 * (24 * j + r) + i) = 0)) 40 = 0 := fun r hr => cnt_z (fun i hi => decide_eq_false (fun z => z (Classical.byContradiction fun z => by
            have y := (hZ.wf.inn _ z).2
            rw [show (40 * (24 * j + r) + i) / 960 = j by omega, tbF_n e15] at y
            cases y)))
          refine ih (j + 1) _ h2 (by omega) ?_ hz2
          rw [show 24 * (j + 1) = 24 * j + 24 by omega, nsum_24 (md := 0) (Nat.zero_le _) (fun r _ hr => hzr r hr), hc]; rfl
        · skip
          refine kx_rn dV_allVersions 2 20 [(0, .ref (Z.ad rV)), (1, .int (nI c)), (2, .int (nI j))] [.ref (Z.ad rV), .int (nI c)] rfl ?_
          refine pV_11 (v := .ref (Z.ad rTbs)) rfl (kx_tk_dec rfl dV_allVersions) (hz2.is rV rfl) rfl ?_
          refine kx_rn dV_allVersions 1 24 [(0, .ref (Z.ad rV)), (1, .int (nI c)), (2, .int (nI j))] [.int (nI j), .ref (Z.ad rTbs), .int (nI c)] rfl ?_
          refine kx_qldN (x := some (Z.ad (rTab j))) (i := j) rfl rfl (kx_tk_dec rfl dV_allVersions) (hz2.is rTbs rfl) (by show j < 3; omega) (by decide) (if_pos (tbF_s e15).1) ?_
          obtain ⟨y1, y2, y3, y4, y5, y6, y7⟩ := hnm j (by omega) (tbF_s e15).1
          refine cV_313 (as := []) (st := [.int (nI c)]) (mc := 0) (ms := 0) (kc := 0) (ks := 0) rfl (kx_tk_dec rfl dV_allVersions) (hz2.is (rTab j) ⟨by show j < 3; omega, (tbF_s e15).1⟩) rfl rfl (Nat.le_of_ble_eq_true rfl) (cB_versionsThere (d := d) hst hz2 (by omega) (tbF_s e15).1 y4 y5) (fun o h' hq => ?_)
          obtain ⟨rfl, hz3⟩ := hq
          show kx_w _ _ _ _ _ _ _ _ _ _ _
          have hcl2 := nsum_le40 (f := fun r => cnt (fun i => decide (¬ Z.V (40 * (24 * j + r) + i) = 0)) 40) (fun r => cnt_le _ 40) (MD j)
          refine kx_rn dV_allVersions 4 4 [(0, .ref (Z.ad rV)), (1, .int ((nI c) + (nI (nsum (fun r => cnt (fun i => decide (¬ Z.V (40 * (24 * j + r) + i) = 0)) 40) (MD j))))), (2, .int ((nI j) + 1))] [] rfl ?_
          rw [show (nI c) + (nI (nsum (fun r => cnt (fun i => decide (¬ Z.V (40 * (24 * j + r) + i) = 0)) 40) (MD j))) = nI (c + (nsum (fun r => cnt (fun i => decide (¬ Z.V (40 * (24 * j + r) + i) = 0)) 40) (MD j))) from kn_ad rfl rfl]
          rw [show (nI j) + 1 = nI (j + 1) from kn_ad rfl rfl]
          have hzr : ∀ r, MD j ≤ r → r < 24 → cnt (fun i => decide (¬ Z.V (40 * (24 * j + r) + i) = 0)) 40 = 0 := fun r hr1 hr => cnt_z (fun i hi => decide_eq_false (fun z => z (Classical.byContradiction fun z => by
            have y := hrw _ z
            rw [show (40 * (24 * j + r) + i) / 960 = j by omega, show (40 * (24 * j + r) + i) / 40 % 24 = r by omega] at y
            omega)))
          refine ih (j + 1) _ h' (by omega) ?_ hz3
          rw [show 24 * (j + 1) = 24 * j + 24 by omega, nsum_24 (md := MD j) y5 (fun r hr1 hr => hzr r hr1 hr), hc]
  refine kx_rn dV_allVersions 4 4 [(0, .ref (Z.ad rV)), (1, .int 0), (2, .int 0)] [] rfl ?_
  exact loop 3 0 0 h rfl rfl hZ
end KC32
