/-! ===== the reference: small methods ===== -/
section KM1
variable {G : kx_G} {l : Launch} {d : Nat} {h0 : kx_H} {m : Nat} {S : Nat → Int32} {A : Nat → Nat → Int32}
/-- how many of 0 .. n-1 -/
def cnt (p : Nat → Bool) : Nat → Nat
  | 0 => 0
  | n + 1 => cnt p n + (if p n then 1 else 0)
theorem cnt_le (p : Nat → Bool) : ∀ n, cnt p n ≤ n
  | 0 => Nat.le_refl _
  | n + 1 => by
    have := cnt_le p n
    simp only [cnt]
    split <;> omega
theorem cnt_congr {p q : Nat → Bool} : ∀ {n : Nat}, (∀ i, i < n → p i = q i) → cnt p n = cnt q n
  | 0, _ => rfl
  | n + 1, h => by
    simp only [cnt]
    rw [cnt_congr (n := n) (fun i hi => h i (by omega)), h n (by omega)]
theorem cnt_y {p : Nat → Bool} {n c : Nat} (hc : c = cnt p n) (h : p n = true) : c + 1 = cnt p (n + 1) := by simp only [cnt]; rw [if_pos h, hc]
theorem cnt_n {p : Nat → Bool} {n c : Nat} (hc : c = cnt p n) (h : p n = false) : c = cnt p (n + 1) := by simp only [cnt]; rw [if_neg (by rw [h]; decide), hc]; rfl
/-- t is an open transaction -/
def mOp (A : Nat → Nat → Int32) (bg : Nat) (t : Int32) : Prop := ∃ tn, 1 ≤ tn ∧ tn ≤ bg ∧ t = nI tn ∧ A 6 tn = 1
/-- k is a table that is there -/
def mTb (A : Nat → Nat → Int32) (k : Int32) : Prop := ∃ kn, kn < 3 ∧ k = nI kn ∧ ¬ A 1 kn = 0
theorem cM_out {v n : Int32} {h : kx_H} (hst : l.stackTraces = false) :
    kx_c G l mM_out d 0 0 [.int v, .int n] h (fun o h' => ∃ b : Bool, o = .returned (some (.int (b01 b))) ∧ h' = h ∧ (b = true ↔ (v < 0 ∨ n ≤ v))) := by
  refine kx_in (by decide +kernel) (Nat.le_of_ble_eq_true rfl) hst ?_
  refine kx_rn dM_out 1 1 [(0, .int v), (1, .int n)] [.int v] rfl ?_
  refine kx_if (tgt := 9) (kx_tk_dec rfl dM_out) rfl (fun e1 => ?_) (fun e1 => ?_)
  · skip
    replace e1 : v < 0 := e1
    refine kx_rn dM_out 2 14 [(0, .int v), (1, .int n)] [.int 1] rfl ?_
    refine kx_ret (ty := .boolean) (kx_tk_dec rfl dM_out) rfl rfl ?_
    exact ⟨true, rfl, rfl, fun _ => Or.inl e1, fun _ => rfl⟩
  · skip
    replace e1 : ¬ v < 0 := e1
    refine kx_rn dM_out 2 6 [(0, .int v), (1, .int n)] [.int n, .int v] rfl ?_
    refine kx_ic (tgt := 13) (kx_tk_dec rfl dM_out) rfl (fun e6 => ?_) (fun e6 => ?_)
    · skip
      replace e6 : v < n := e6
      refine kx_rn dM_out 1 14 [(0, .int v), (1, .int n)] [.int 0] rfl ?_
      refine kx_ret (ty := .boolean) (kx_tk_dec rfl dM_out) rfl rfl ?_
      exact ⟨false, rfl, rfl, fun z => (by cases z), fun z => absurd z (fun z => z.elim e1 (fun z => by rw [kI_lt] at e6; rw [kI_le] at z; omega))⟩
    · skip
      replace e6 : ¬ v < n := e6
      refine kx_rn dM_out 2 14 [(0, .int v), (1, .int n)] [.int 1] rfl ?_
      refine kx_ret (ty := .boolean) (kx_tk_dec rfl dM_out) rfl rfl ?_
      exact ⟨true, rfl, rfl, fun _ => Or.inr (by rw [kI_lt] at e6; rw [kI_le]; omega), fun _ => rfl⟩
theorem cM_fail {c : Int32} (hst : l.stackTraces = false) (hm : mOk G h0 m) :
    kx_c G l mM_fail d 0 0 [.ref m, .int c] (mH h0 m S A) (fun o h' => o = .returned (some (.int 0)) ∧ h' = mH h0 m (va_up S 0 c) A) := by
  refine kx_in (by decide +kernel) (Nat.le_of_ble_eq_true rfl) hst ?_
  refine kx_rn dM_fail 2 2 [(0, .ref m), (1, .int c)] [.int c, .ref m] rfl ?_
  refine qM_69 rfl (kx_tk_dec rfl dM_fail) (mh_o hm) rfl rfl (Nat.le_of_ble_eq_true rfl) ?_
  rw [mh_p0]
  refine kx_rn dM_fail 1 6 [(0, .ref m), (1, .int c)] [.int 0] rfl ?_
  refine kx_ret (ty := .int) (kx_tk_dec rfl dM_fail) rfl rfl ?_
  exact ⟨rfl, rfl⟩
theorem cM_thrown (hst : l.stackTraces = false) (hm : mOk G h0 m) :
    kx_c G l mM_thrown d 0 0 [.ref m] (mH h0 m S A) (fun o h' => o = .returned (some (.int (S 0))) ∧ h' = mH h0 m S A) := by
  refine kx_in (by decide +kernel) (Nat.le_of_ble_eq_true rfl) hst ?_
  refine kx_rn dM_thrown 1 1 [(0, .ref m)] [.ref m] rfl ?_
  refine pM_69 (v := .int (S 0)) rfl (kx_tk_dec rfl dM_thrown) (mh_o hm) rfl ?_
  refine kx_ret (ty := .int) (kx_tk_dec rfl dM_thrown) rfl rfl ?_
  exact ⟨rfl, rfl⟩
theorem mcl_lt {t : Int32} {bg : Nat} (h : t < 1) (hbg : bg ≤ 40) : ¬ mOp A bg t := by
  rintro ⟨tn, h1, h2, rfl, h4⟩
  have := (nI_ltI (a := tn) (b := 1) (by omega) (by omega)).mp h
  omega
theorem mcl_gt {t : Int32} {bg : Nat} (h : nI bg < t) (hbg : bg ≤ 40) : ¬ mOp A bg t := by
  rintro ⟨tn, h1, h2, rfl, h4⟩
  have := (nI_ltI (a := bg) (b := tn) (by omega) (by omega)).mp h
  omega
theorem mcl_st {tn bg : Nat} (h : ¬ A 6 tn = 1) (hbg : bg ≤ 40) (ht : tn ≤ bg) : ¬ mOp A bg (nI tn) := by
  rintro ⟨t2, h1, h2, h3, h4⟩
  have := (nI_eq (a := tn) (b := t2) (by omega) (by omega)).mp h3
  subst this
  exact h h4
theorem mcl_in {t : Int32} {bg : Nat} (h1 : ¬ t < 1) (h2 : ¬ nI bg < t) (hbg : bg ≤ 40) : ∃ tn, 1 ≤ tn ∧ tn ≤ bg ∧ t = nI tn := by
  have z : (1 : Int32).toInt = 1 := rfl
  have z1 : ¬ t.toInt < (1 : Int32).toInt := fun q => h1 (kI_lt.mpr q)
  have z2 : ¬ (nI bg).toInt < t.toInt := fun q => h2 (kI_lt.mpr q)
  rw [nI_toInt (by omega)] at z2
  obtain ⟨tn, e0, e1, e2⟩ := kI_nat (x := t) (by omega)
  exact ⟨tn, by omega, by omega, e0⟩
theorem mou_in {k : Int32} {n : Nat} (hn : n < 2147483648) (h : ¬ (k < 0 ∨ nI n ≤ k)) : ∃ kn, kn < n ∧ k = nI kn := by
  have z : (0 : Int32).toInt = 0 := rfl
  have z1 : ¬ k.toInt < (0 : Int32).toInt := fun q => h (Or.inl (kI_lt.mpr q))
  have z2 : ¬ (nI n).toInt ≤ k.toInt := fun q => h (Or.inr (kI_le.mpr q))
  rw [nI_toInt (by omega)] at z2
  obtain ⟨kn, e0, e1, e2⟩ := kI_nat (x := k) (by omega)
  exact ⟨kn, by omega, e0⟩
theorem mou_no {k : Int32} {n kn : Nat} (hn : n < 2147483648) (h : k < 0 ∨ nI n ≤ k) (hk : kn < n) (e : k = nI kn) : False := by
  subst e
  rcases h with h | h
  · exact nI_pos (by omega) h
  · have := (nI_leI (a := n) (b := kn) (by omega) (by omega)).mp h
    omega
theorem mtb_out {k : Int32} (h : k < 0 ∨ 3 ≤ k) : ¬ mTb A k := by
  rintro ⟨kn, h1, h2, h3⟩
  exact mou_no (n := 3) (by omega) h h1 h2
theorem mtb_no {kn : Nat} (hk : kn < 3) (h : A 1 kn = 0) : ¬ mTb A (nI kn) := by
  rintro ⟨k2, h1, h2, h3⟩
  have := (nI_eq (a := kn) (b := k2) (by omega) (by omega)).mp h2
  subst this
  exact h3 h
theorem cM_closed {t : Int32} (hst : l.stackTraces = false) (hm : mOk G h0 m) {bg : Nat} (hb : S 7 = nI bg) (hbg : bg ≤ 40) :
    kx_c G l mM_closed d 0 0 [.ref m, .int t] (mH h0 m S A) (fun o h' => ∃ b : Bool, o = .returned (some (.int (b01 b))) ∧ h' = mH h0 m S A ∧ (b = true ↔ ¬ mOp A bg t)) := by
  refine kx_in (by decide +kernel) (Nat.le_of_ble_eq_true rfl) hst ?_
  refine kx_rn dM_closed 2 2 [(0, .ref m), (1, .int t)] [.int 1, .int t] rfl ?_
  refine kx_ic (tgt := 23) (kx_tk_dec rfl dM_closed) rfl (fun e2 => ?_) (fun e2 => ?_)
  · skip
    replace e2 : t < 1 := e2
    refine kx_rn dM_closed 2 28 [(0, .ref m), (1, .int t)] [.int 1] rfl ?_
    refine kx_ret (ty := .boolean) (kx_tk_dec rfl dM_closed) rfl rfl ?_
    exact ⟨true, rfl, rfl, fun _ => mcl_lt e2 hbg, fun _ => rfl⟩
  · skip
    replace e2 : ¬ t < 1 := e2
    refine kx_rn dM_closed 2 7 [(0, .ref m), (1, .int t)] [.ref m, .int t] rfl ?_
    refine pM_76 (v := .int (S 7)) rfl (kx_tk_dec rfl dM_closed) (mh_o hm) rfl ?_
    rw [hb]
    refine kx_ic (tgt := 23) (kx_tk_dec rfl dM_closed) rfl (fun e10 => ?_) (fun e10 => ?_)
    · skip
      replace e10 : nI bg < t := e10
      refine kx_rn dM_closed 2 28 [(0, .ref m), (1, .int t)] [.int 1] rfl ?_
      refine kx_ret (ty := .boolean) (kx_tk_dec rfl dM_closed) rfl rfl ?_
      exact ⟨true, rfl, rfl, fun _ => mcl_gt e10 hbg, fun _ => rfl⟩
    · skip
      replace e10 : ¬ nI bg < t := e10
      obtain ⟨tn, ht1, ht2, rfl⟩ := mcl_in e2 e10 hbg
      refine kx_rn dM_closed 1 14 [(0, .ref m), (1, .int (nI tn))] [.ref m] rfl ?_
      refine pM_25 (v := .ref (m + 6)) rfl (kx_tk_dec rfl dM_closed) (mh_o hm) rfl ?_
      refine kx_rn dM_closed 1 18 [(0, .ref m), (1, .int (nI tn))] [.int (nI tn), .ref (m + 6)] rfl ?_
      refine mh_ld (k := 6) (x := A 6 tn) (i := tn) rfl rfl (kx_tk_dec rfl dM_closed) hm (by show tn < 41; omega) ?_
      refine kx_rn dM_closed 1 20 [(0, .ref m), (1, .int (nI tn))] [.int 1, .int (A 6 tn)] rfl ?_
      refine kx_ic (tgt := 27) (kx_tk_dec rfl dM_closed) rfl (fun e20 => ?_) (fun e20 => ?_)
      · skip
        replace e20 : A 6 tn = 1 := e20
        refine kx_rn dM_closed 1 28 [(0, .ref m), (1, .int (nI tn))] [.int 0] rfl ?_
        refine kx_ret (ty := .boolean) (kx_tk_dec rfl dM_closed) rfl rfl ?_
        exact ⟨false, rfl, rfl, fun z => (by cases z), fun z => absurd ⟨tn, ht1, ht2, rfl, e20⟩ z⟩
      · skip
        replace e20 : ¬ A 6 tn = 1 := e20
        refine kx_rn dM_closed 2 28 [(0, .ref m), (1, .int (nI tn))] [.int 1] rfl ?_
        refine kx_ret (ty := .boolean) (kx_tk_dec rfl dM_closed) rfl rfl ?_
        exact ⟨true, rfl, rfl, fun _ => mcl_st e20 hbg ht2, fun _ => rfl⟩
theorem cM_noTable {k : Int32} (hst : l.stackTraces = false) (hm : mOk G h0 m) :
    kx_c G l mM_noTable (d + 1) 0 0 [.ref m, .int k] (mH h0 m S A) (fun o h' => ∃ b : Bool, o = .returned (some (.int (b01 b))) ∧ h' = mH h0 m S A ∧ (b = true ↔ ¬ mTb A k)) := by
  refine kx_in (by decide +kernel) (Nat.le_of_ble_eq_true rfl) hst ?_
  refine kx_rn dM_noTable 2 2 [(0, .ref m), (1, .int k)] [.int 3, .int k] rfl ?_
  refine cM_72 (as := [.int k, .int 3]) (st := []) (mc := 0) (ms := 0) (kc := 0) (ks := 0) rfl (kx_tk_dec rfl dM_noTable) rfl rfl (Nat.le_of_ble_eq_true rfl) (cM_out hst) (fun o h' hq => ?_)
  obtain ⟨bo, rfl, rfl, hbo⟩ := hq
  show kx_w _ _ _ _ _ _ _ _ _ _ _
  refine kx_if (tgt := 17) (kx_tk_dec rfl dM_noTable) rfl (fun e5 => ?_) (fun e5 => ?_)
  · skip
    replace e5 : ¬ b01 bo = 0 := e5
    replace e5 : bo = true := b01_t e5
    refine kx_rn dM_noTable 2 22 [(0, .ref m), (1, .int k)] [.int 1] rfl ?_
    refine kx_ret (ty := .boolean) (kx_tk_dec rfl dM_noTable) rfl rfl ?_
    exact ⟨true, rfl, rfl, fun _ => mtb_out (hbo.mp e5), fun _ => rfl⟩
  · skip
    replace e5 : b01 bo = 0 := e5
    replace e5 : bo = false := b01_f e5
    have hb0 : ¬ (k < 0 ∨ nI 3 ≤ k) := fun z => absurd (hbo.mpr z) (by rw [e5]; decide)
    obtain ⟨kn, hk1, rfl⟩ := mou_in (by omega) hb0
    refine kx_rn dM_noTable 1 9 [(0, .ref m), (1, .int (nI kn))] [.ref m] rfl ?_
    refine pM_7 (v := .ref (m + 1)) rfl (kx_tk_dec rfl dM_noTable) (mh_o hm) rfl ?_
    refine kx_rn dM_noTable 1 13 [(0, .ref m), (1, .int (nI kn))] [.int (nI kn), .ref (m + 1)] rfl ?_
    refine mh_ld (k := 1) (x := A 1 kn) (i := kn) rfl rfl (kx_tk_dec rfl dM_noTable) hm (by show kn < 3; omega) ?_
    refine kx_if (tgt := 21) (kx_tk_dec rfl dM_noTable) rfl (fun e14 => ?_) (fun e14 => ?_)
    · skip
      replace e14 : ¬ A 1 kn = 0 := e14
      refine kx_rn dM_noTable 1 22 [(0, .ref m), (1, .int (nI kn))] [.int 0] rfl ?_
      refine kx_ret (ty := .boolean) (kx_tk_dec rfl dM_noTable) rfl rfl ?_
      exact ⟨false, rfl, rfl, fun z => (by cases z), fun z => absurd ⟨kn, hk1, rfl, e14⟩ z⟩
    · skip
      replace e14 : A 1 kn = 0 := e14
      refine kx_rn dM_noTable 2 22 [(0, .ref m), (1, .int (nI kn))] [.int 1] rfl ?_
      refine kx_ret (ty := .boolean) (kx_tk_dec rfl dM_noTable) rfl rfl ?_
      exact ⟨true, rfl, rfl, fun _ => mtb_no hk1 e14, fun _ => rfl⟩
theorem cM_create {k c : Int32} (hst : l.stackTraces = false) (hm : mOk G h0 m) :
    kx_c G l mM_create (d + 1) 0 0 [.ref m, .int k, .int c] (mH h0 m S A) (fun o h' => o = .returned none ∧ ((((k < 0 ∨ 3 ≤ k) ∨ c < 1 ∨ 4 < c) ∧ h' = mH h0 m (va_up S 0 1) A) ∨ ∃ kn, kn < 3 ∧ k = nI kn ∧ ¬ c < 1 ∧ ¬ 4 < c ∧ ((0 < A 1 kn ∧ h' = mH h0 m (va_up S 0 2) A) ∨ (¬ 0 < A 1 kn ∧ h' = mH h0 m (va_up S 0 0) (va_up A 1 (va_up (A 1) kn c)))))) := by
  refine kx_in (by decide +kernel) (Nat.le_of_ble_eq_true rfl) hst ?_
  refine kx_rn dM_create 2 2 [(0, .ref m), (1, .int k), (2, .int c)] [.int 0, .ref m] rfl ?_
  refine qM_69 rfl (kx_tk_dec rfl dM_create) (mh_o hm) rfl rfl (Nat.le_of_ble_eq_true rfl) ?_
  rw [mh_p0]
  refine kx_rn dM_create 2 7 [(0, .ref m), (1, .int k), (2, .int c)] [.int 3, .int k] rfl ?_
  refine cM_72 (as := [.int k, .int 3]) (st := []) (mc := 0) (ms := 0) (kc := 0) (ks := 0) rfl (kx_tk_dec rfl dM_create) rfl rfl (Nat.le_of_ble_eq_true rfl) (cM_out hst) (fun o h' hq => ?_)
  obtain ⟨bo, rfl, rfl, hbo⟩ := hq
  show kx_w _ _ _ _ _ _ _ _ _ _ _
  refine kx_if (tgt := 23) (kx_tk_dec rfl dM_create) rfl (fun e10 => ?_) (fun e10 => ?_)
  · skip
    replace e10 : ¬ b01 bo = 0 := e10
    replace e10 : bo = true := b01_t e10
    refine kx_rn dM_create 2 25 [(0, .ref m), (1, .int k), (2, .int c)] [.int 1, .ref m] rfl ?_
    refine qM_69 rfl (kx_tk_dec rfl dM_create) (mh_o hm) rfl rfl (Nat.le_of_ble_eq_true rfl) ?_
    rw [mh_p0]
    rw [va_upup]
    refine kx_rn dM_create 1 55 [(0, .ref m), (1, .int k), (2, .int c)] [] rfl ?_
    refine kx_retv (kx_tk_dec rfl dM_create) rfl ?_
    exact ⟨rfl, Or.inl ⟨Or.inl (hbo.mp e10), rfl⟩⟩
  · skip
    replace e10 : b01 bo = 0 := e10
    replace e10 : bo = false := b01_f e10
    refine kx_rn dM_create 2 15 [(0, .ref m), (1, .int k), (2, .int c)] [.int 1, .int c] rfl ?_
    refine kx_ic (tgt := 23) (kx_tk_dec rfl dM_create) rfl (fun e15 => ?_) (fun e15 => ?_)
    · skip
      replace e15 : c < 1 := e15
      refine kx_rn dM_create 2 25 [(0, .ref m), (1, .int k), (2, .int c)] [.int 1, .ref m] rfl ?_
      refine qM_69 rfl (kx_tk_dec rfl dM_create) (mh_o hm) rfl rfl (Nat.le_of_ble_eq_true rfl) ?_
      rw [mh_p0]
      rw [va_upup]
      refine kx_rn dM_create 1 55 [(0, .ref m), (1, .int k), (2, .int c)] [] rfl ?_
      refine kx_retv (kx_tk_dec rfl dM_create) rfl ?_
      exact ⟨rfl, Or.inl ⟨Or.inr (Or.inl e15), rfl⟩⟩
    · skip
      replace e15 : ¬ c < 1 := e15
      refine kx_rn dM_create 2 20 [(0, .ref m), (1, .int k), (2, .int c)] [.int 4, .int c] rfl ?_
      refine kx_ic (tgt := 31) (kx_tk_dec rfl dM_create) rfl (fun e20 => ?_) (fun e20 => ?_)
      · skip
        replace e20 : c ≤ 4 := e20
        have hb0 : ¬ (k < 0 ∨ nI 3 ≤ k) := fun z => absurd (hbo.mpr z) (by rw [e10]; decide)
        obtain ⟨kn, hk1, rfl⟩ := mou_in (by omega) hb0
        refine kx_rn dM_create 1 32 [(0, .ref m), (1, .int (nI kn)), (2, .int c)] [.ref m] rfl ?_
        refine pM_7 (v := .ref (m + 1)) rfl (kx_tk_dec rfl dM_create) (mh_o hm) rfl ?_
        refine kx_rn dM_create 1 36 [(0, .ref m), (1, .int (nI kn)), (2, .int c)] [.int (nI kn), .ref (m + 1)] rfl ?_
        refine mh_ld (k := 1) (x := A 1 kn) (i := kn) rfl rfl (kx_tk_dec rfl dM_create) hm (by show kn < 3; omega) ?_
        refine kx_if (tgt := 48) (kx_tk_dec rfl dM_create) rfl (fun e37 => ?_) (fun e37 => ?_)
        · skip
          replace e37 : A 1 kn ≤ 0 := e37
          refine kx_rn dM_create 1 49 [(0, .ref m), (1, .int (nI kn)), (2, .int c)] [.ref m] rfl ?_
          refine pM_7 (v := .ref (m + 1)) rfl (kx_tk_dec rfl dM_create) (mh_o hm) rfl ?_
          refine kx_rn dM_create 2 54 [(0, .ref m), (1, .int (nI kn)), (2, .int c)] [.int c, .int (nI kn), .ref (m + 1)] rfl ?_
          refine mh_st (k := 1) (i := kn) (A' := va_up A 1 (va_up (A 1) kn c)) rfl (kx_tk_dec rfl dM_create) hm (by show kn < 3; omega) rfl ?_
          refine kx_retv (kx_tk_dec rfl dM_create) rfl ?_
          exact ⟨rfl, Or.inr ⟨kn, hk1, rfl, e15, (by rw [kI_le] at e20; rw [kI_lt]; omega), Or.inr ⟨by rw [kI_le] at e37; rw [kI_lt]; omega, rfl⟩⟩⟩
        · skip
          replace e37 : ¬ A 1 kn ≤ 0 := e37
          refine kx_rn dM_create 2 42 [(0, .ref m), (1, .int (nI kn)), (2, .int c)] [.int 2, .ref m] rfl ?_
          refine qM_69 rfl (kx_tk_dec rfl dM_create) (mh_o hm) rfl rfl (Nat.le_of_ble_eq_true rfl) ?_
          rw [mh_p0]
          rw [va_upup]
          refine kx_rn dM_create 1 55 [(0, .ref m), (1, .int (nI kn)), (2, .int c)] [] rfl ?_
          refine kx_retv (kx_tk_dec rfl dM_create) rfl ?_
          exact ⟨rfl, Or.inr ⟨kn, hk1, rfl, e15, (by rw [kI_le] at e20; rw [kI_lt]; omega), Or.inl ⟨by rw [kI_le] at e37; rw [kI_lt]; omega, rfl⟩⟩⟩
      · skip
        replace e20 : ¬ c ≤ 4 := e20
        refine kx_rn dM_create 2 25 [(0, .ref m), (1, .int k), (2, .int c)] [.int 1, .ref m] rfl ?_
        refine qM_69 rfl (kx_tk_dec rfl dM_create) (mh_o hm) rfl rfl (Nat.le_of_ble_eq_true rfl) ?_
        rw [mh_p0]
        rw [va_upup]
        refine kx_rn dM_create 1 55 [(0, .ref m), (1, .int k), (2, .int c)] [] rfl ?_
        refine kx_retv (kx_tk_dec rfl dM_create) rfl ?_
        exact ⟨rfl, Or.inl ⟨Or.inr (Or.inr (by rw [kI_le] at e20; rw [kI_lt]; omega)), rfl⟩⟩
theorem cM_begin (hst : l.stackTraces = false) (hm : mOk G h0 m) {bg : Nat} (hb : S 7 = nI bg) (hbg : bg ≤ 40) :
    kx_c G l mM_begin (d + 1) 0 0 [.ref m] (mH h0 m S A) (fun o h' => (bg = 40 ∧ o = .returned (some (.int 0)) ∧ h' = mH h0 m (va_up S 0 1) A) ∨ (bg < 40 ∧ o = .returned (some (.int (nI (bg + 1)))) ∧ h' = mH h0 m (va_up (va_up S 0 0) 7 (nI (bg + 1))) (va_up A 6 (va_up (A 6) (bg + 1) 1)))) := by
  refine kx_in (by decide +kernel) (Nat.le_of_ble_eq_true rfl) hst ?_
  refine kx_rn dM_begin 2 2 [(0, .ref m)] [.int 0, .ref m] rfl ?_
  refine qM_69 rfl (kx_tk_dec rfl dM_begin) (mh_o hm) rfl rfl (Nat.le_of_ble_eq_true rfl) ?_
  rw [mh_p0]
  refine kx_rn dM_begin 1 6 [(0, .ref m)] [.ref m] rfl ?_
  refine pM_76 (v := .int (S 7)) rfl (kx_tk_dec rfl dM_begin) (mh_o hm) rfl ?_
  rw [hb]
  refine kx_rn dM_begin 1 11 [(0, .ref m)] [.int 40, .int (nI bg)] rfl ?_
  refine kx_ic (tgt := 20) (kx_tk_dec rfl dM_begin) rfl (fun e11 => ?_) (fun e11 => ?_)
  · skip
    replace e11 : ¬ nI bg = 40 := e11
    replace e11 : ¬ bg = 40 := fun z => e11 ((nI_eq (a := bg) (b := 40) (by omega) (by omega)).mpr z)
    refine kx_rn dM_begin 2 22 [(0, .ref m)] [.ref m, .ref m] rfl ?_
    refine pM_76 (v := .int (S 7)) rfl (kx_tk_dec rfl dM_begin) (mh_o hm) rfl ?_
    rw [hb]
    refine kx_rn dM_begin 2 27 [(0, .ref m)] [.int ((nI bg) + 1), .ref m] rfl ?_
    rw [show (nI bg) + 1 = nI (bg + 1) from kn_ad rfl rfl]
    refine qM_76 rfl (kx_tk_dec rfl dM_begin) (mh_o hm) rfl rfl (Nat.le_of_ble_eq_true rfl) ?_
    rw [mh_p7]
    refine kx_rn dM_begin 1 31 [(0, .ref m)] [.ref m] rfl ?_
    refine pM_25 (v := .ref (m + 6)) rfl (kx_tk_dec rfl dM_begin) (mh_o hm) rfl ?_
    refine kx_rn dM_begin 1 35 [(0, .ref m)] [.ref m, .ref (m + 6)] rfl ?_
    refine pM_76 (v := .int (nI (bg + 1))) rfl (kx_tk_dec rfl dM_begin) (mh_o hm) rfl ?_
    refine kx_rn dM_begin 1 39 [(0, .ref m)] [.int 1, .int (nI (bg + 1)), .ref (m + 6)] rfl ?_
    refine mh_st (k := 6) (i := bg + 1) (A' := va_up A 6 (va_up (A 6) (bg + 1) 1)) rfl (kx_tk_dec rfl dM_begin) hm (by show bg + 1 < 41; omega) rfl ?_
    refine kx_rn dM_begin 1 41 [(0, .ref m)] [.ref m] rfl ?_
    refine pM_76 (v := .int (nI (bg + 1))) rfl (kx_tk_dec rfl dM_begin) (mh_o hm) rfl ?_
    refine kx_ret (ty := .int) (kx_tk_dec rfl dM_begin) rfl rfl ?_
    exact Or.inr ⟨by omega, rfl, rfl⟩
  · skip
    replace e11 : nI bg = 40 := e11
    replace e11 : bg = 40 := (nI_eq (a := bg) (b := 40) (by omega) (by omega)).mp e11
    refine kx_rn dM_begin 2 16 [(0, .ref m)] [.int 1, .ref m] rfl ?_
    refine cM_79 (as := [.int 1]) (st := []) (mc := 0) (ms := 0) (kc := 0) (ks := 0) rfl (kx_tk_dec rfl dM_begin) (mh_o hm) rfl rfl (Nat.le_of_ble_eq_true rfl) (cM_fail hst hm) (fun o h' hq => ?_)
    obtain ⟨rfl, rfl⟩ := hq
    show kx_w _ _ _ _ _ _ _ _ _ _ _
    rw [va_upup]
    refine kx_ret (ty := .int) (kx_tk_dec rfl dM_begin) rfl rfl ?_
    exact Or.inl ⟨e11, rfl, rfl⟩
theorem cM_commit {t : Int32} (hst : l.stackTraces = false) (hm : mOk G h0 m) {bg : Nat} (hb : S 7 = nI bg) (hbg : bg ≤ 40) :
    kx_c G l mM_commit (d + 1) 0 0 [.ref m, .int t] (mH h0 m S A) (fun o h' => o = .returned none ∧ ((¬ mOp A bg t ∧ h' = mH h0 m (va_up S 0 1) A) ∨ ∃ tn, 1 ≤ tn ∧ tn ≤ bg ∧ t = nI tn ∧ A 6 tn = 1 ∧ h' = mH h0 m (va_up S 0 0) (va_up A 6 (va_up (A 6) tn 2)))) := by
  refine kx_in (by decide +kernel) (Nat.le_of_ble_eq_true rfl) hst ?_
  refine kx_rn dM_commit 2 2 [(0, .ref m), (1, .int t)] [.int 0, .ref m] rfl ?_
  refine qM_69 rfl (kx_tk_dec rfl dM_commit) (mh_o hm) rfl rfl (Nat.le_of_ble_eq_true rfl) ?_
  rw [mh_p0]
  refine kx_rn dM_commit 2 7 [(0, .ref m), (1, .int t)] [.int t, .ref m] rfl ?_
  refine cM_83 (as := [.int t]) (st := []) (mc := 0) (ms := 0) (kc := 0) (ks := 0) rfl (kx_tk_dec rfl dM_commit) (mh_o hm) rfl rfl (Nat.le_of_ble_eq_true rfl) (cM_closed hst hm (S := va_up S 0 0) hb hbg) (fun o h' hq => ?_)
  obtain ⟨bo, rfl, rfl, hbo⟩ := hq
  show kx_w _ _ _ _ _ _ _ _ _ _ _
  refine kx_if (tgt := 21) (kx_tk_dec rfl dM_commit) rfl (fun e10 => ?_) (fun e10 => ?_)
  · skip
    replace e10 : b01 bo = 0 := e10
    replace e10 : bo = false := b01_f e10
    obtain ⟨tn, ht1, ht2, rfl, ht4⟩ : mOp A bg t := Classical.byContradiction fun z => absurd (hbo.mpr z) (by rw [e10]; decide)
    refine kx_rn dM_commit 1 22 [(0, .ref m), (1, .int (nI tn))] [.ref m] rfl ?_
    refine pM_25 (v := .ref (m + 6)) rfl (kx_tk_dec rfl dM_commit) (mh_o hm) rfl ?_
    refine kx_rn dM_commit 2 27 [(0, .ref m), (1, .int (nI tn))] [.int 2, .int (nI tn), .ref (m + 6)] rfl ?_
    refine mh_st (k := 6) (i := tn) (A' := va_up A 6 (va_up (A 6) tn 2)) rfl (kx_tk_dec rfl dM_commit) hm (by show tn < 41; omega) rfl ?_
    refine kx_retv (kx_tk_dec rfl dM_commit) rfl ?_
    exact ⟨rfl, Or.inr ⟨tn, ht1, ht2, rfl, ht4, rfl⟩⟩
  · skip
    replace e10 : ¬ b01 bo = 0 := e10
    replace e10 : bo = true := b01_t e10
    refine kx_rn dM_commit 2 15 [(0, .ref m), (1, .int t)] [.int 1, .ref m] rfl ?_
    refine qM_69 rfl (kx_tk_dec rfl dM_commit) (mh_o hm) rfl rfl (Nat.le_of_ble_eq_true rfl) ?_
    rw [mh_p0]
    rw [va_upup]
    refine kx_rn dM_commit 1 28 [(0, .ref m), (1, .int t)] [] rfl ?_
    refine kx_retv (kx_tk_dec rfl dM_commit) rfl ?_
    exact ⟨rfl, Or.inl ⟨hbo.mp e10, rfl⟩⟩
theorem cM_type {c : Int32} {ln : Nat} (hst : l.stackTraces = false) (hm : mOk G h0 m) (hl : S 10 = nI ln) (hln : ln ≤ 40) :
    kx_c G l mM_type (d + 1) 0 0 [.ref m, .int c] (mH h0 m S A) (fun o h' => ((c < 0 ∨ 127 < c) ∧ o = .returned (some (.int 0)) ∧ h' = mH h0 m (va_up S 0 1) A) ∨ (¬ c < 0 ∧ ¬ 127 < c ∧ ln = 40 ∧ o = .returned (some (.int 0)) ∧ h' = mH h0 m (va_up S 0 2) A) ∨ (¬ c < 0 ∧ ¬ 127 < c ∧ ln < 40 ∧ o = .returned (some (.int (nI (ln + 1)))) ∧ h' = mH h0 m (va_up (va_up S 0 0) 10 (nI (ln + 1))) (va_up A 7 (va_up (A 7) ln c)))) := by
  refine kx_in (by decide +kernel) (Nat.le_of_ble_eq_true rfl) hst ?_
  refine kx_rn dM_type 2 2 [(0, .ref m), (1, .int c)] [.int 0, .ref m] rfl ?_
  refine qM_69 rfl (kx_tk_dec rfl dM_type) (mh_o hm) rfl rfl (Nat.le_of_ble_eq_true rfl) ?_
  rw [mh_p0]
  refine kx_rn dM_type 1 6 [(0, .ref m), (1, .int c)] [.int c] rfl ?_
  refine kx_if (tgt := 15) (kx_tk_dec rfl dM_type) rfl (fun e6 => ?_) (fun e6 => ?_)
  · skip
    replace e6 : c < 0 := e6
    refine kx_rn dM_type 2 17 [(0, .ref m), (1, .int c)] [.int 1, .ref m] rfl ?_
    refine cM_79 (as := [.int 1]) (st := []) (mc := 0) (ms := 0) (kc := 0) (ks := 0) rfl (kx_tk_dec rfl dM_type) (mh_o hm) rfl rfl (Nat.le_of_ble_eq_true rfl) (cM_fail hst hm) (fun o h' hq => ?_)
    obtain ⟨rfl, rfl⟩ := hq
    show kx_w _ _ _ _ _ _ _ _ _ _ _
    rw [va_upup]
    refine kx_ret (ty := .int) (kx_tk_dec rfl dM_type) rfl rfl ?_
    exact Or.inl ⟨Or.inl e6, rfl, rfl⟩
  · skip
    replace e6 : ¬ c < 0 := e6
    refine kx_rn dM_type 2 12 [(0, .ref m), (1, .int c)] [.int 127, .int c] rfl ?_
    refine kx_ic (tgt := 21) (kx_tk_dec rfl dM_type) rfl (fun e12 => ?_) (fun e12 => ?_)
    · skip
      replace e12 : c ≤ 127 := e12
      refine kx_rn dM_type 1 22 [(0, .ref m), (1, .int c)] [.ref m] rfl ?_
      refine pM_90 (v := .int (S 10)) rfl (kx_tk_dec rfl dM_type) (mh_o hm) rfl ?_
      rw [hl]
      refine kx_rn dM_type 1 27 [(0, .ref m), (1, .int c)] [.int 40, .int (nI ln)] rfl ?_
      refine kx_ic (tgt := 36) (kx_tk_dec rfl dM_type) rfl (fun e27 => ?_) (fun e27 => ?_)
      · skip
        replace e27 : ¬ nI ln = 40 := e27
        replace e27 : ¬ ln = 40 := fun z => e27 ((nI_eq (a := ln) (b := 40) (by omega) (by omega)).mpr z)
        refine kx_rn dM_type 1 37 [(0, .ref m), (1, .int c)] [.ref m] rfl ?_
        refine pM_28 (v := .ref (m + 7)) rfl (kx_tk_dec rfl dM_type) (mh_o hm) rfl ?_
        refine kx_rn dM_type 1 41 [(0, .ref m), (1, .int c)] [.ref m, .ref (m + 7)] rfl ?_
        refine pM_90 (v := .int (S 10)) rfl (kx_tk_dec rfl dM_type) (mh_o hm) rfl ?_
        rw [hl]
        refine kx_rn dM_type 1 45 [(0, .ref m), (1, .int c)] [.int c, .int (nI ln), .ref (m + 7)] rfl ?_
        refine mh_st (k := 7) (i := ln) (A' := va_up A 7 (va_up (A 7) ln c)) rfl (kx_tk_dec rfl dM_type) hm (by show ln < 40; omega) rfl ?_
        refine kx_rn dM_type 2 48 [(0, .ref m), (1, .int c)] [.ref m, .ref m] rfl ?_
        refine pM_90 (v := .int (S 10)) rfl (kx_tk_dec rfl dM_type) (mh_o hm) rfl ?_
        rw [hl]
        refine kx_rn dM_type 2 53 [(0, .ref m), (1, .int c)] [.int ((nI ln) + 1), .ref m] rfl ?_
        rw [show (nI ln) + 1 = nI (ln + 1) from kn_ad rfl rfl]
        refine qM_90 rfl (kx_tk_dec rfl dM_type) (mh_o hm) rfl rfl (Nat.le_of_ble_eq_true rfl) ?_
        rw [mh_p10]
        refine kx_rn dM_type 1 57 [(0, .ref m), (1, .int c)] [.ref m] rfl ?_
        refine pM_90 (v := .int (nI (ln + 1))) rfl (kx_tk_dec rfl dM_type) (mh_o hm) rfl ?_
        refine kx_ret (ty := .int) (kx_tk_dec rfl dM_type) rfl rfl ?_
        exact Or.inr (Or.inr ⟨e6, (by rw [kI_le] at e12; rw [kI_lt]; omega), by omega, rfl, rfl⟩)
      · skip
        replace e27 : nI ln = 40 := e27
        replace e27 : ln = 40 := (nI_eq (a := ln) (b := 40) (by omega) (by omega)).mp e27
        refine kx_rn dM_type 2 32 [(0, .ref m), (1, .int c)] [.int 2, .ref m] rfl ?_
        refine cM_79 (as := [.int 2]) (st := []) (mc := 0) (ms := 0) (kc := 0) (ks := 0) rfl (kx_tk_dec rfl dM_type) (mh_o hm) rfl rfl (Nat.le_of_ble_eq_true rfl) (cM_fail hst hm) (fun o h' hq => ?_)
        obtain ⟨rfl, rfl⟩ := hq
        show kx_w _ _ _ _ _ _ _ _ _ _ _
        rw [va_upup]
        refine kx_ret (ty := .int) (kx_tk_dec rfl dM_type) rfl rfl ?_
        exact Or.inr (Or.inl ⟨e6, (by rw [kI_le] at e12; rw [kI_lt]; omega), e27, rfl, rfl⟩)
    · skip
      replace e12 : ¬ c ≤ 127 := e12
      refine kx_rn dM_type 2 17 [(0, .ref m), (1, .int c)] [.int 1, .ref m] rfl ?_
      refine cM_79 (as := [.int 1]) (st := []) (mc := 0) (ms := 0) (kc := 0) (ks := 0) rfl (kx_tk_dec rfl dM_type) (mh_o hm) rfl rfl (Nat.le_of_ble_eq_true rfl) (cM_fail hst hm) (fun o h' hq => ?_)
      obtain ⟨rfl, rfl⟩ := hq
      show kx_w _ _ _ _ _ _ _ _ _ _ _
      rw [va_upup]
      refine kx_ret (ty := .int) (kx_tk_dec rfl dM_type) rfl rfl ?_
      exact Or.inl ⟨Or.inr (by rw [kI_le] at e12; rw [kI_lt]; omega), rfl, rfl⟩
theorem cM_errorAt (hst : l.stackTraces = false) (hm : mOk G h0 m) :
    kx_c G l mM_errorAt d 0 0 [.ref m] (mH h0 m S A) (fun o h' => o = .returned (some (.int (S 11))) ∧ h' = mH h0 m (va_up S 0 0) A) := by
  refine kx_in (by decide +kernel) (Nat.le_of_ble_eq_true rfl) hst ?_
  refine kx_rn dM_errorAt 2 2 [(0, .ref m)] [.int 0, .ref m] rfl ?_
  refine qM_69 rfl (kx_tk_dec rfl dM_errorAt) (mh_o hm) rfl rfl (Nat.le_of_ble_eq_true rfl) ?_
  rw [mh_p0]
  refine kx_rn dM_errorAt 1 6 [(0, .ref m)] [.ref m] rfl ?_
  refine pM_31 (v := .int (S 11)) rfl (kx_tk_dec rfl dM_errorAt) (mh_o hm) rfl ?_
  refine kx_ret (ty := .int) (kx_tk_dec rfl dM_errorAt) rfl rfl ?_
  exact ⟨rfl, rfl⟩
end KM1
