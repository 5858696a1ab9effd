/-! ===== the reference: mean; terms and conditions worked out ===== -/
section KM7
variable {G : kx_G} {l : Launch} {d : Nat} {h0 : kx_H} {m : Nat} {S : Nat → Int32} {A : Nat → Nat → Int32}
theorem km_nn (s : Int64) {n : Nat} (h1 : 1 ≤ n) (h2 : n < 2147483648) : vf_n64 (FP.ddiv (FP.l2d s) (FP.i2d (nI n))) := by
  have h3 : FP.Core.dIsNaN (FP.Core.ddiv (FP.Core.l2d s) (FP.Core.i2d (nI n))) = false := FP.Core.ddiv_out (FP.Core.l2d_fin s).notNaN (FP.Core.i2d_fin _) (fun z => FP.Core.i2d_ne_zero (nI_ne0 (by omega) (by omega)) ((FP.Core.zero_bits2 _).mp z))
  have h4 : ¬ 9218868437227405312 < (FP.Core.ddiv (FP.Core.l2d s) (FP.Core.i2d (nI n))).toNat % 2 ^ 63 := fun z => by
    rw [(FP.Core.isNaN_bits _).mpr z] at h3
    cases h3
  show FP.Core.ddiv (FP.Core.l2d s) (FP.Core.i2d (nI n)) &&& 0x7fffffffffffffff ≤ 0x7ff0000000000000
  rw [UInt64.le_iff_toNat_le, UInt64.toNat_and]
  have h5 : (0x7fffffffffffffff : UInt64).toNat = 2 ^ 63 - 1 := rfl
  have h6 : (0x7ff0000000000000 : UInt64).toNat = 9218868437227405312 := rfl
  rw [h5, h6, Nat.and_two_pow_sub_one_eq_mod]
  omega
def lsum (f : Nat → Int32) : Nat → Int64
  | 0 => 0
  | n + 1 => lsum f n + (f n).toInt64
theorem lsum_congr {f g : Nat → Int32} : ∀ {n : Nat}, (∀ i, i < n → f i = g i) → lsum f n = lsum g n
  | 0, _ => rfl
  | n + 1, h => by
    simp only [lsum]
    rw [lsum_congr (n := n) (fun i hi => h i (by omega)), h n (by omega)]
set_option maxRecDepth 100000 in
theorem cM_mean {c : Int32} {rs : Nat} (hst : l.stackTraces = false) (hm : mOk G h0 m) (hs : S 25 = nI rs) (hs2 : rs ≤ 24) :
    kx_c G l mM_mean (d + 1) 0 0 [.ref m, .int c] (mH h0 m S A) (fun o h' => ((c < 0 ∨ 4 ≤ c) ∧ (∃ x, o = .returned (some (.double x))) ∧ h' = mH h0 m (va_up S 0 1) A) ∨ ∃ cn, cn < 4 ∧ c = nI cn ∧ ((rs = 0 ∧ (∃ x, o = .returned (some (.double x))) ∧ h' = mH h0 m (va_up S 0 2) A) ∨ (¬ rs = 0 ∧ o = .returned (some (.double (FP.ddiv (FP.l2d (lsum (fun i => A 15 (4 * i + cn)) rs)) (FP.i2d (nI rs))))) ∧ h' = mH h0 m (va_up S 0 0) A))) := by
  refine kx_in (by decide +kernel) (Nat.le_of_ble_eq_true rfl) hst ?_
  refine kx_rn dM_mean 2 2 [(0, .ref m), (1, .int c)] [.int 0, .ref m] rfl ?_
  refine qM_69 rfl (kx_tk_dec rfl dM_mean) (mh_o hm) rfl rfl (Nat.le_of_ble_eq_true rfl) ?_
  rw [mh_p0]
  refine kx_rn dM_mean 2 7 [(0, .ref m), (1, .int c)] [.int 4, .int c] rfl ?_
  refine cM_72 (as := [.int c, .int 4]) (st := []) (mc := 0) (ms := 0) (kc := 0) (ks := 0) rfl (kx_tk_dec rfl dM_mean) rfl rfl (Nat.le_of_ble_eq_true rfl) (cM_out hst) (fun o h' hq => ?_)
  obtain ⟨bo, rfl, rfl, hbo⟩ := hq
  show kx_w _ _ _ _ _ _ _ _ _ _ _
  refine kx_if (tgt := 20) (kx_tk_dec rfl dM_mean) rfl (fun e10 => ?_) (fun e10 => ?_)
  · skip
    replace e10 : b01 bo = 0 := e10
    replace e10 : bo = false := b01_f e10
    have hb0 : ¬ (c < 0 ∨ nI 4 ≤ c) := fun z => absurd (hbo.mpr z) (by rw [e10]; decide)
    obtain ⟨cn, hn1, rfl⟩ := mou_in (by omega) hb0
    refine kx_rn dM_mean 1 21 [(0, .ref m), (1, .int (nI cn))] [.ref m] rfl ?_
    refine pM_176 (v := .int (S 25)) rfl (kx_tk_dec rfl dM_mean) (mh_o hm) rfl ?_
    rw [hs]
    refine kx_if (tgt := 34) (kx_tk_dec rfl dM_mean) rfl (fun e24 => ?_) (fun e24 => ?_)
    · skip
      replace e24 : ¬ nI rs = 0 := e24
      replace e24 : ¬ rs = 0 := fun z => e24 ((nI_eq (a := rs) (b := 0) (by omega) (by omega)).mpr z)
      refine kx_rn dM_mean 4 39 [(0, .ref m), (1, .int (nI cn)), (2, .long 0), (4, .int 0)] [] rfl ?_
      have loop : ∀ n (j : Nat), j + n = rs → kx_w G l mM_mean (d + 1) (fun o h' => ((nI cn < 0 ∨ 4 ≤ nI cn) ∧ (∃ x, o = .returned (some (.double x))) ∧ h' = mH h0 m (va_up S 0 1) A) ∨ ∃ c2, c2 < 4 ∧ nI cn = nI c2 ∧ ((rs = 0 ∧ (∃ x, o = .returned (some (.double x))) ∧ h' = mH h0 m (va_up S 0 2) A) ∨ (¬ rs = 0 ∧ o = .returned (some (.double (FP.ddiv (FP.l2d (lsum (fun i => A 15 (4 * i + c2)) rs)) (FP.i2d (nI rs))))) ∧ h' = mH h0 m (va_up S 0 0) A))) 0 0 39 [(0, .ref m), (1, .int (nI cn)), (2, .long (lsum (fun i => A 15 (4 * i + cn)) j)), (4, .int (nI j))] [] (mH h0 m (va_up S 0 0) A) := by
        intro n
        induction n with
        | zero =>
          intro j hj
          refine kx_rn dM_mean 2 42 [(0, .ref m), (1, .int (nI cn)), (2, .long (lsum (fun i => A 15 (4 * i + cn)) j)), (4, .int (nI j))] [.ref m, .int (nI j)] rfl ?_
          refine pM_176 (v := .int (S 25)) rfl (kx_tk_dec rfl dM_mean) (mh_o hm) rfl ?_
          rw [hs]
          refine kx_ic (tgt := 69) (kx_tk_dec rfl dM_mean) rfl (fun e45 => ?_) (fun e45 => ?_)
          · skip
            replace e45 : nI rs ≤ nI j := e45
            replace e45 : rs ≤ j := (nI_leI (a := rs) (b := j) (by omega) (by omega)).mp e45
            refine kx_rn dM_mean 1 70 [(0, .ref m), (1, .int (nI cn)), (2, .long (lsum (fun i => A 15 (4 * i + cn)) j)), (4, .int (nI j))] [.long (lsum (fun i => A 15 (4 * i + cn)) j)] rfl ?_
            refine kx_l2d (kx_tk_dec rfl dM_mean) ?_
            refine kx_rn dM_mean 1 72 [(0, .ref m), (1, .int (nI cn)), (2, .long (lsum (fun i => A 15 (4 * i + cn)) j)), (4, .int (nI j))] [.ref m, .double (FP.l2d (lsum (fun i => A 15 (4 * i + cn)) j))] rfl ?_
            refine pM_176 (v := .int (S 25)) rfl (kx_tk_dec rfl dM_mean) (mh_o hm) rfl ?_
            rw [hs]
            refine kx_rn dM_mean 1 76 [(0, .ref m), (1, .int (nI cn)), (2, .long (lsum (fun i => A 15 (4 * i + cn)) j)), (4, .int (nI j))] [.double (FP.i2d (nI rs)), .double (FP.l2d (lsum (fun i => A 15 (4 * i + cn)) j))] rfl ?_
            refine kx_ddiv (kx_tk_dec rfl dM_mean) (km_nn _ (by omega) (by omega)) ?_
            refine kx_retd (kx_tk_dec rfl dM_mean) rfl ?_
            rw [show j = rs by omega]
            exact Or.inr ⟨cn, hn1, rfl, Or.inr ⟨e24, rfl, rfl⟩⟩
          · skip
            replace e45 : ¬ nI rs ≤ nI j := e45
            replace e45 : ¬ rs ≤ j := fun z => e45 ((nI_leI (a := rs) (b := j) (by omega) (by omega)).mpr z)
            exfalso; omega
        | succ n ih =>
          intro j hj
          refine kx_rn dM_mean 2 42 [(0, .ref m), (1, .int (nI cn)), (2, .long (lsum (fun i => A 15 (4 * i + cn)) j)), (4, .int (nI j))] [.ref m, .int (nI j)] rfl ?_
          refine pM_176 (v := .int (S 25)) rfl (kx_tk_dec rfl dM_mean) (mh_o hm) rfl ?_
          rw [hs]
          refine kx_ic (tgt := 69) (kx_tk_dec rfl dM_mean) rfl (fun e45 => ?_) (fun e45 => ?_)
          · skip
            replace e45 : nI rs ≤ nI j := e45
            replace e45 : rs ≤ j := (nI_leI (a := rs) (b := j) (by omega) (by omega)).mp e45
            exfalso; omega
          · skip
            replace e45 : ¬ nI rs ≤ nI j := e45
            replace e45 : ¬ rs ≤ j := fun z => e45 ((nI_leI (a := rs) (b := j) (by omega) (by omega)).mpr z)
            refine kx_rn dM_mean 2 50 [(0, .ref m), (1, .int (nI cn)), (2, .long (lsum (fun i => A 15 (4 * i + cn)) j)), (4, .int (nI j))] [.ref m, .long (lsum (fun i => A 15 (4 * i + cn)) j)] rfl ?_
            refine pM_57 (v := .ref (m + 15)) rfl (kx_tk_dec rfl dM_mean) (mh_o hm) rfl ?_
            refine kx_rn dM_mean 5 59 [(0, .ref m), (1, .int (nI cn)), (2, .long (lsum (fun i => A 15 (4 * i + cn)) j)), (4, .int (nI j))] [.int ((4 * (nI j)) + (nI cn)), .ref (m + 15), .long (lsum (fun i => A 15 (4 * i + cn)) j)] rfl ?_
            rw [show (4 * (nI j)) + (nI cn) = nI ((4 * j) + cn) from kn_ad (kn_mu rfl rfl) rfl]
            refine mh_ld (k := 15) (x := A 15 ((4 * j) + cn)) (i := (4 * j) + cn) rfl rfl (kx_tk_dec rfl dM_mean) hm (by show (4 * j) + cn < 96; omega) ?_
            refine kx_rn dM_mean 5 39 [(0, .ref m), (1, .int (nI cn)), (2, .long ((lsum (fun i => A 15 (4 * i + cn)) j) + ((A 15 ((4 * j) + cn)).toInt64))), (4, .int ((nI j) + 1))] [] rfl ?_
            rw [show (nI j) + 1 = nI (j + 1) from kn_ad rfl rfl]
            exact ih (j + 1) (by omega)
      exact loop rs 0 (by omega)
    · skip
      replace e24 : nI rs = 0 := e24
      replace e24 : rs = 0 := (nI_eq (a := rs) (b := 0) (by omega) (by omega)).mp e24
      refine kx_rn dM_mean 2 29 [(0, .ref m), (1, .int (nI cn))] [.int 2, .ref m] rfl ?_
      refine cM_79 (as := [.int 2]) (st := []) (mc := 0) (ms := 0) (kc := 0) (ks := 0) rfl (kx_tk_dec rfl dM_mean) (mh_o hm) rfl rfl (Nat.le_of_ble_eq_true rfl) (cM_fail hst hm) (fun o h' hq => ?_)
      obtain ⟨rfl, rfl⟩ := hq
      show kx_w _ _ _ _ _ _ _ _ _ _ _
      rw [va_upup]
      refine kx_rn dM_mean 1 33 [(0, .ref m), (1, .int (nI cn))] [.double (FP.i2d 0)] rfl ?_
      refine kx_retd (kx_tk_dec rfl dM_mean) rfl ?_
      exact Or.inr ⟨cn, hn1, rfl, Or.inl ⟨e24, ⟨_, rfl⟩, rfl⟩⟩
  · skip
    replace e10 : ¬ b01 bo = 0 := e10
    replace e10 : bo = true := b01_t e10
    refine kx_rn dM_mean 2 15 [(0, .ref m), (1, .int c)] [.int 1, .ref m] rfl ?_
    refine cM_79 (as := [.int 1]) (st := []) (mc := 0) (ms := 0) (kc := 0) (ks := 0) rfl (kx_tk_dec rfl dM_mean) (mh_o hm) rfl rfl (Nat.le_of_ble_eq_true rfl) (cM_fail hst hm) (fun o h' hq => ?_)
    obtain ⟨rfl, rfl⟩ := hq
    show kx_w _ _ _ _ _ _ _ _ _ _ _
    rw [va_upup]
    refine kx_rn dM_mean 1 19 [(0, .ref m), (1, .int c)] [.double (FP.i2d 0)] rfl ?_
    refine kx_retd (kx_tk_dec rfl dM_mean) rfl ?_
    exact Or.inl ⟨hbo.mp e10, ⟨_, rfl⟩, rfl⟩
/-- a sign worked out -/
def dvO (sg : Nat) (x y : Int32) : Int32 := if sg = 43 then x + y else if sg = 45 then x - y else if sg = 42 then x * y else if sg = 47 then (if y = 0 then 0 else if y = -1 then -x else x / y) else if sg = 61 then (if x = y then 1 else 0) else if sg = 35 then (if x = y then 0 else 1) else if sg = 60 then (if x < y then 1 else 0) else if sg = 62 then (if y < x then 1 else 0) else if sg = 38 then x &&& y else x ||| y
def dvZ (sg : Nat) (y : Int32) : Bool := decide (sg = 47 ∧ y = 0)
def sgns : List Nat := [43, 45, 42, 47, 61, 35, 60, 62, 38, 124]
set_option maxRecDepth 100000 in
theorem cM_done {sg : Nat} {x y : Int32} {dv : Bool} (hst : l.stackTraces = false) (hm : mOk G h0 m) (hsg : sg ∈ sgns) (hdv : S 22 = b01 dv) :
    kx_c G l mM_done d 0 0 [.ref m, .int (nI sg), .int x, .int y] (mH h0 m S A) (fun o h' => o = .returned (some (.int (dvO sg x y))) ∧ h' = mH h0 m (va_up S 22 (b01 (dv || dvZ sg y))) A) := by
  refine kx_in (by decide +kernel) (Nat.le_of_ble_eq_true rfl) hst ?_
  simp only [sgns, List.mem_cons, List.not_mem_nil, or_false] at hsg
  rcases hsg with rfl | rfl | rfl | rfl | rfl | rfl | rfl | rfl | rfl | rfl
  · skip
    refine kx_rn dM_done 1 1 [(0, .ref m), (1, .int 43), (2, .int x), (3, .int y)] [.int 43] rfl ?_
    refine kx_tin (off := 127) (tgt := 128) (kx_tk_dec rfl dM_done) (by decide) (by decide) rfl rfl ?_
    refine kx_rn dM_done 3 131 [(0, .ref m), (1, .int 43), (2, .int x), (3, .int y)] [.int (x + y)] rfl ?_
    refine kx_ret (ty := .int) (kx_tk_dec rfl dM_done) rfl rfl ?_
    exact ⟨rfl, by rw [show (dv || dvZ 43 y) = dv from by simp [dvZ], ← hdv, va_upsame]⟩
  · skip
    refine kx_rn dM_done 1 1 [(0, .ref m), (1, .int 45), (2, .int x), (3, .int y)] [.int 45] rfl ?_
    refine kx_tin (off := 131) (tgt := 132) (kx_tk_dec rfl dM_done) (by decide) (by decide) rfl rfl ?_
    refine kx_rn dM_done 3 135 [(0, .ref m), (1, .int 45), (2, .int x), (3, .int y)] [.int (x - y)] rfl ?_
    refine kx_ret (ty := .int) (kx_tk_dec rfl dM_done) rfl rfl ?_
    exact ⟨rfl, by rw [show (dv || dvZ 45 y) = dv from by simp [dvZ], ← hdv, va_upsame]⟩
  · skip
    refine kx_rn dM_done 1 1 [(0, .ref m), (1, .int 42), (2, .int x), (3, .int y)] [.int 42] rfl ?_
    refine kx_tin (off := 135) (tgt := 136) (kx_tk_dec rfl dM_done) (by decide) (by decide) rfl rfl ?_
    refine kx_rn dM_done 3 139 [(0, .ref m), (1, .int 42), (2, .int x), (3, .int y)] [.int (x * y)] rfl ?_
    refine kx_ret (ty := .int) (kx_tk_dec rfl dM_done) rfl rfl ?_
    exact ⟨rfl, by rw [show (dv || dvZ 42 y) = dv from by simp [dvZ], ← hdv, va_upsame]⟩
  · skip
    refine kx_rn dM_done 1 1 [(0, .ref m), (1, .int 47), (2, .int x), (3, .int y)] [.int 47] rfl ?_
    refine kx_tin (off := 139) (tgt := 140) (kx_tk_dec rfl dM_done) (by decide) (by decide) rfl rfl ?_
    refine kx_rn dM_done 1 141 [(0, .ref m), (1, .int 47), (2, .int x), (3, .int y)] [.int y] rfl ?_
    refine kx_if (tgt := 149) (kx_tk_dec rfl dM_done) rfl (fun e141 => ?_) (fun e141 => ?_)
    · skip
      replace e141 : ¬ y = 0 := e141
      refine kx_rn dM_done 1 150 [(0, .ref m), (1, .int 47), (2, .int x), (3, .int y)] [.int y] rfl ?_
      refine kx_if (tgt := 157) (kx_tk_dec rfl dM_done) rfl (fun e150 => ?_) (fun e150 => ?_)
      · skip
        replace e150 : ¬ y = 0 := e150
        refine kx_rn dM_done 2 159 [(0, .ref m), (1, .int 47), (2, .int x), (3, .int y)] [.int ((-1)), .int y] rfl ?_
        refine kx_ic (tgt := 167) (kx_tk_dec rfl dM_done) rfl (fun e159 => ?_) (fun e159 => ?_)
        · skip
          replace e159 : ¬ y = (-1) := e159
          refine kx_rn dM_done 2 169 [(0, .ref m), (1, .int 47), (2, .int x), (3, .int y)] [.int y, .int x] rfl ?_
          refine kx_div (kx_tk_dec rfl dM_done) (x := x) e150 ?_
          refine kx_ret (ty := .int) (kx_tk_dec rfl dM_done) rfl rfl ?_
          exact ⟨by show _ = Outcome.returned (some (.int (if y = 0 then 0 else if y = -1 then -x else x / y))); rw [if_neg e150, if_neg e159], by rw [show (dv || dvZ 47 y) = dv from by simp [dvZ, e150], ← hdv, va_upsame]⟩
        · skip
          replace e159 : y = (-1) := e159
          refine kx_rn dM_done 3 170 [(0, .ref m), (1, .int 47), (2, .int x), (3, .int y)] [.int (-x)] rfl ?_
          refine kx_ret (ty := .int) (kx_tk_dec rfl dM_done) rfl rfl ?_
          exact ⟨by show _ = Outcome.returned (some (.int (if y = 0 then 0 else if y = -1 then -x else x / y))); rw [if_neg e150, if_pos e159], by rw [show (dv || dvZ 47 y) = dv from by simp [dvZ, e150], ← hdv, va_upsame]⟩
      · skip
        replace e150 : y = 0 := e150
        exact absurd e150 e141
    · skip
      replace e141 : y = 0 := e141
      refine kx_rn dM_done 2 146 [(0, .ref m), (1, .int 47), (2, .int x), (3, .int y)] [.int 1, .ref m] rfl ?_
      refine qM_148 rfl (kx_tk_dec rfl dM_done) (mh_o hm) rfl rfl (Nat.le_of_ble_eq_true rfl) ?_
      rw [mh_p22]
      refine kx_rn dM_done 1 150 [(0, .ref m), (1, .int 47), (2, .int x), (3, .int y)] [.int y] rfl ?_
      refine kx_if (tgt := 157) (kx_tk_dec rfl dM_done) rfl (fun e150 => ?_) (fun e150 => ?_)
      · skip
        replace e150 : ¬ y = 0 := e150
        exact absurd e141 e150
      · skip
        replace e150 : y = 0 := e150
        refine kx_rn dM_done 2 170 [(0, .ref m), (1, .int 47), (2, .int x), (3, .int y)] [.int 0] rfl ?_
        refine kx_ret (ty := .int) (kx_tk_dec rfl dM_done) rfl rfl ?_
        exact ⟨by show _ = Outcome.returned (some (.int (if y = 0 then 0 else if y = -1 then -x else x / y))); rw [if_pos e150], by rw [show (dv || dvZ 47 y) = true from by simp [dvZ, e150]]; rfl⟩
  · skip
    refine kx_rn dM_done 1 1 [(0, .ref m), (1, .int 61), (2, .int x), (3, .int y)] [.int 61] rfl ?_
    refine kx_tin (off := 170) (tgt := 171) (kx_tk_dec rfl dM_done) (by decide) (by decide) rfl rfl ?_
    refine kx_rn dM_done 2 173 [(0, .ref m), (1, .int 61), (2, .int x), (3, .int y)] [.int y, .int x] rfl ?_
    refine kx_ic (tgt := 180) (kx_tk_dec rfl dM_done) rfl (fun e173 => ?_) (fun e173 => ?_)
    · skip
      replace e173 : ¬ x = y := e173
      refine kx_rn dM_done 1 181 [(0, .ref m), (1, .int 61), (2, .int x), (3, .int y)] [.int 0] rfl ?_
      refine kx_ret (ty := .int) (kx_tk_dec rfl dM_done) rfl rfl ?_
      exact ⟨by show _ = Outcome.returned (some (.int (if x = y then 1 else 0))); rw [if_neg e173], by rw [show (dv || dvZ 61 y) = dv from by simp [dvZ], ← hdv, va_upsame]⟩
    · skip
      replace e173 : x = y := e173
      refine kx_rn dM_done 2 181 [(0, .ref m), (1, .int 61), (2, .int x), (3, .int y)] [.int 1] rfl ?_
      refine kx_ret (ty := .int) (kx_tk_dec rfl dM_done) rfl rfl ?_
      exact ⟨by show _ = Outcome.returned (some (.int (if x = y then 1 else 0))); rw [if_pos e173], by rw [show (dv || dvZ 61 y) = dv from by simp [dvZ], ← hdv, va_upsame]⟩
  · skip
    refine kx_rn dM_done 1 1 [(0, .ref m), (1, .int 35), (2, .int x), (3, .int y)] [.int 35] rfl ?_
    refine kx_tin (off := 181) (tgt := 182) (kx_tk_dec rfl dM_done) (by decide) (by decide) rfl rfl ?_
    refine kx_rn dM_done 2 184 [(0, .ref m), (1, .int 35), (2, .int x), (3, .int y)] [.int y, .int x] rfl ?_
    refine kx_ic (tgt := 191) (kx_tk_dec rfl dM_done) rfl (fun e184 => ?_) (fun e184 => ?_)
    · skip
      replace e184 : x = y := e184
      refine kx_rn dM_done 1 192 [(0, .ref m), (1, .int 35), (2, .int x), (3, .int y)] [.int 0] rfl ?_
      refine kx_ret (ty := .int) (kx_tk_dec rfl dM_done) rfl rfl ?_
      exact ⟨by show _ = Outcome.returned (some (.int (if x = y then 0 else 1))); rw [if_pos e184], by rw [show (dv || dvZ 35 y) = dv from by simp [dvZ], ← hdv, va_upsame]⟩
    · skip
      replace e184 : ¬ x = y := e184
      refine kx_rn dM_done 2 192 [(0, .ref m), (1, .int 35), (2, .int x), (3, .int y)] [.int 1] rfl ?_
      refine kx_ret (ty := .int) (kx_tk_dec rfl dM_done) rfl rfl ?_
      exact ⟨by show _ = Outcome.returned (some (.int (if x = y then 0 else 1))); rw [if_neg e184], by rw [show (dv || dvZ 35 y) = dv from by simp [dvZ], ← hdv, va_upsame]⟩
  · skip
    refine kx_rn dM_done 1 1 [(0, .ref m), (1, .int 60), (2, .int x), (3, .int y)] [.int 60] rfl ?_
    refine kx_tin (off := 192) (tgt := 193) (kx_tk_dec rfl dM_done) (by decide) (by decide) rfl rfl ?_
    refine kx_rn dM_done 2 195 [(0, .ref m), (1, .int 60), (2, .int x), (3, .int y)] [.int y, .int x] rfl ?_
    refine kx_ic (tgt := 202) (kx_tk_dec rfl dM_done) rfl (fun e195 => ?_) (fun e195 => ?_)
    · skip
      replace e195 : y ≤ x := e195
      refine kx_rn dM_done 1 203 [(0, .ref m), (1, .int 60), (2, .int x), (3, .int y)] [.int 0] rfl ?_
      refine kx_ret (ty := .int) (kx_tk_dec rfl dM_done) rfl rfl ?_
      exact ⟨by show _ = Outcome.returned (some (.int (if x < y then 1 else 0))); rw [if_neg (by rw [kI_le] at e195; rw [kI_lt]; omega)], by rw [show (dv || dvZ 60 y) = dv from by simp [dvZ], ← hdv, va_upsame]⟩
    · skip
      replace e195 : ¬ y ≤ x := e195
      refine kx_rn dM_done 2 203 [(0, .ref m), (1, .int 60), (2, .int x), (3, .int y)] [.int 1] rfl ?_
      refine kx_ret (ty := .int) (kx_tk_dec rfl dM_done) rfl rfl ?_
      exact ⟨by show _ = Outcome.returned (some (.int (if x < y then 1 else 0))); rw [if_pos (by rw [kI_le] at e195; rw [kI_lt]; omega)], by rw [show (dv || dvZ 60 y) = dv from by simp [dvZ], ← hdv, va_upsame]⟩
  · skip
    refine kx_rn dM_done 1 1 [(0, .ref m), (1, .int 62), (2, .int x), (3, .int y)] [.int 62] rfl ?_
    refine kx_tin (off := 203) (tgt := 204) (kx_tk_dec rfl dM_done) (by decide) (by decide) rfl rfl ?_
    refine kx_rn dM_done 2 206 [(0, .ref m), (1, .int 62), (2, .int x), (3, .int y)] [.int y, .int x] rfl ?_
    refine kx_ic (tgt := 213) (kx_tk_dec rfl dM_done) rfl (fun e206 => ?_) (fun e206 => ?_)
    · skip
      replace e206 : x ≤ y := e206
      refine kx_rn dM_done 1 214 [(0, .ref m), (1, .int 62), (2, .int x), (3, .int y)] [.int 0] rfl ?_
      refine kx_ret (ty := .int) (kx_tk_dec rfl dM_done) rfl rfl ?_
      exact ⟨by show _ = Outcome.returned (some (.int (if y < x then 1 else 0))); rw [if_neg (by rw [kI_le] at e206; rw [kI_lt]; omega)], by rw [show (dv || dvZ 62 y) = dv from by simp [dvZ], ← hdv, va_upsame]⟩
    · skip
      replace e206 : ¬ x ≤ y := e206
      refine kx_rn dM_done 2 214 [(0, .ref m), (1, .int 62), (2, .int x), (3, .int y)] [.int 1] rfl ?_
      refine kx_ret (ty := .int) (kx_tk_dec rfl dM_done) rfl rfl ?_
      exact ⟨by show _ = Outcome.returned (some (.int (if y < x then 1 else 0))); rw [if_pos (by rw [kI_le] at e206; rw [kI_lt]; omega)], by rw [show (dv || dvZ 62 y) = dv from by simp [dvZ], ← hdv, va_upsame]⟩
  · skip
    refine kx_rn dM_done 1 1 [(0, .ref m), (1, .int 38), (2, .int x), (3, .int y)] [.int 38] rfl ?_
    refine kx_tin (off := 214) (tgt := 215) (kx_tk_dec rfl dM_done) (by decide) (by decide) rfl rfl ?_
    refine kx_rn dM_done 3 218 [(0, .ref m), (1, .int 38), (2, .int x), (3, .int y)] [.int (x &&& y)] rfl ?_
    refine kx_ret (ty := .int) (kx_tk_dec rfl dM_done) rfl rfl ?_
    exact ⟨rfl, by rw [show (dv || dvZ 38 y) = dv from by simp [dvZ], ← hdv, va_upsame]⟩
  · skip
    refine kx_rn dM_done 1 1 [(0, .ref m), (1, .int 124), (2, .int x), (3, .int y)] [.int 124] rfl ?_
    refine kx_tout (tgt := 219) (kx_tk_dec rfl dM_done) (by decide) rfl ?_
    refine kx_rn dM_done 3 222 [(0, .ref m), (1, .int 124), (2, .int x), (3, .int y)] [.int (x ||| y)] rfl ?_
    refine kx_ret (ty := .int) (kx_tk_dec rfl dM_done) rfl rfl ?_
    exact ⟨rfl, by rw [show (dv || dvZ 124 y) = dv from by simp [dvZ], ← hdv, va_upsame]⟩
/-- one item worked out: how high, the stack, whether something was divided by 0 -/
def eS (vals : Nat → Int32) (i : Int32) (q : Nat × (Nat → Int32) × Bool) : Nat × (Nat → Int32) × Bool := if i < -4 then (if i = -133 then (q.1, va_up q.2.1 (q.1 - 1) (1 - q.2.1 (q.1 - 1)), q.2.2) else (q.1 - 1, va_up q.2.1 (q.1 - 1 - 1) (dvO (-100 - i).toNatClampNeg (q.2.1 (q.1 - 1 - 1)) (q.2.1 (q.1 - 1))), q.2.2 || dvZ (-100 - i).toNatClampNeg (q.2.1 (q.1 - 1)))) else (q.1 + 1, va_up q.2.1 q.1 (if 0 ≤ i then i else vals (-1 - i).toNatClampNeg), q.2.2)
def eR (vals P : Nat → Int32) (q0 : Nat × (Nat → Int32) × Bool) : Nat → Nat × (Nat → Int32) × Bool
  | 0 => q0
  | k + 1 => eS vals (P k) (eR vals P q0 k)
/-- an item with n values below it -/
def itK (i : Int32) (n : Nat) : Prop := (∃ v, v < 10000 ∧ i = nI v) ∨ (i = -1 ∨ i = -2 ∨ i = -3 ∨ i = -4) ∨ (i = -133 ∧ 1 ≤ n) ∨ ((i = -143 ∨ i = -145 ∨ i = -142 ∨ i = -147 ∨ i = -161 ∨ i = -135 ∨ i = -160 ∨ i = -162 ∨ i = -138 ∨ i = -224) ∧ 2 ≤ n)
/-- how high the values stand after k items -/
def dpt (P : Nat → Int32) : Nat → Nat
  | 0 => 0
  | k + 1 => if P k < -4 then (if P k = -133 then dpt P k else dpt P k - 1) else dpt P k + 1
theorem eR_dpt (vals P : Nat → Int32) (f : Nat → Int32) (b : Bool) : ∀ k, (eR vals P (0, f, b) k).1 = dpt P k
  | 0 => rfl
  | k + 1 => by
    have h := eR_dpt vals P f b k
    simp only [eR, eS, dpt]
    by_cases e1 : P k < -4
    · rw [if_pos e1, if_pos e1]
      by_cases e2 : P k = -133
      · rw [if_pos e2, if_pos e2]; exact h
      · rw [if_neg e2, if_neg e2]; simp only [h]
    · rw [if_neg e1, if_neg e1]; simp only [h]
theorem dpt_le (P : Nat → Int32) : ∀ k, dpt P k ≤ k
  | 0 => Nat.le_refl _
  | k + 1 => by
    have h := dpt_le P k
    simp only [dpt]
    split
    · split <;> omega
    · omega
def wfP (P : Nat → Int32) (sz : Nat) : Prop := sz ≤ 44 ∧ ∀ k, k < sz → itK (P k) (dpt P k)
theorem kn_col {f c : Nat} {x : Int32} (h : x = -1 - nI c) : nI f - 1 - x = nI (f + c) := by
  rw [h, ← nI_add, Int32.sub_sub, Int32.sub_eq_add_neg, Int32.neg_add]
  rw [show (-1 : Int32) - (-1 - nI c) = nI c from by rw [Int32.sub_eq_add_neg, Int32.neg_sub, Int32.add_comm, Int32.sub_add_cancel]]
theorem nI_n4 {v : Nat} (h : v < 10000) : ¬ nI v < -4 := fun z => by
  rw [kI_lt, nI_toInt (by omega)] at z
  have : (-4 : Int32).toInt = -4 := rfl
  omega
set_option maxRecDepth 100000 in
theorem cM_worked {row fr sz : Nat} {dv : Bool} {P : Nat → Int32} (hst : l.stackTraces = false) (hm : mOk G h0 m) (hdv : S 22 = b01 dv) (hrow : row < 5) (hfr : fr ≤ 11516) (hsz : A 9 row = nI sz) (hwf : wfP P sz) (hP : ∀ k, k < sz → A 8 (44 * row + k) = P k) :
    kx_c G l mM_worked (d + 1) 0 0 [.ref m, .int (nI row), .int (nI fr)] (mH h0 m S A) (fun o h' => o = .returned (some (.int ((eR (fun c => A 5 (fr + c)) P (0, va_up (A 12) 0 1, dv) sz).2.1 0))) ∧ h' = mH h0 m (va_up S 22 (b01 (eR (fun c => A 5 (fr + c)) P (0, va_up (A 12) 0 1, dv) sz).2.2)) (va_up A 12 (eR (fun c => A 5 (fr + c)) P (0, va_up (A 12) 0 1, dv) sz).2.1)) := by
  refine kx_in (by decide +kernel) (Nat.le_of_ble_eq_true rfl) hst ?_
  have hsz2 := hwf.1
  have loop : ∀ n (k n1 : Nat) (b : Bool) (F : Nat → Int32), k + n = sz → eR (fun c => A 5 (fr + c)) P (0, va_up (A 12) 0 1, dv) k = (n1, F, b) → kx_w G l mM_worked (d + 1) (fun o h' => o = .returned (some (.int ((eR (fun c => A 5 (fr + c)) P (0, va_up (A 12) 0 1, dv) sz).2.1 0))) ∧ h' = mH h0 m (va_up S 22 (b01 (eR (fun c => A 5 (fr + c)) P (0, va_up (A 12) 0 1, dv) sz).2.2)) (va_up A 12 (eR (fun c => A 5 (fr + c)) P (0, va_up (A 12) 0 1, dv) sz).2.1)) 0 0 12 [(0, .ref m), (1, .int (nI row)), (2, .int (nI fr)), (3, .int (nI n1)), (4, .int (nI k))] [] (mH h0 m (va_up S 22 (b01 b)) (va_up A 12 F)) := by
    intro n
    induction n with
    | zero =>
      intro k n1 b F hk he
      refine kx_rn dM_worked 2 15 [(0, .ref m), (1, .int (nI row)), (2, .int (nI fr)), (3, .int (nI n1)), (4, .int (nI k))] [.ref m, .int (nI k)] rfl ?_
      refine pM_38 (v := .ref (m + 9)) rfl (kx_tk_dec rfl dM_worked) (mh_o hm) rfl ?_
      refine kx_rn dM_worked 1 19 [(0, .ref m), (1, .int (nI row)), (2, .int (nI fr)), (3, .int (nI n1)), (4, .int (nI k))] [.int (nI row), .ref (m + 9), .int (nI k)] rfl ?_
      refine mh_ld (k := 9) (x := A 9 row) (i := row) rfl rfl (kx_tk_dec rfl dM_worked) hm (by show row < 6; omega) ?_
      rw [hsz]
      refine kx_ic (tgt := 146) (kx_tk_dec rfl dM_worked) rfl (fun e20 => ?_) (fun e20 => ?_)
      · skip
        replace e20 : nI sz ≤ nI k := e20
        replace e20 : sz ≤ k := (nI_leI (a := sz) (b := k) (by omega) (by omega)).mp e20
        refine kx_rn dM_worked 1 147 [(0, .ref m), (1, .int (nI row)), (2, .int (nI fr)), (3, .int (nI n1)), (4, .int (nI k))] [.ref m] rfl ?_
        refine pM_48 (v := .ref (m + 12)) rfl (kx_tk_dec rfl dM_worked) (mh_o hm) rfl ?_
        refine kx_rn dM_worked 1 151 [(0, .ref m), (1, .int (nI row)), (2, .int (nI fr)), (3, .int (nI n1)), (4, .int (nI k))] [.int 0, .ref (m + 12)] rfl ?_
        refine mh_ld (k := 12) (x := F 0) (i := 0) rfl rfl (kx_tk_dec rfl dM_worked) hm (by show 0 < 44; omega) ?_
        refine kx_ret (ty := .int) (kx_tk_dec rfl dM_worked) rfl rfl ?_
        rw [show (eR (fun c => A 5 (fr + c)) P (0, va_up (A 12) 0 1, dv) sz) = (n1, F, b) from by rw [← he, show k = sz by omega]]
        exact ⟨rfl, rfl⟩
      · skip
        replace e20 : ¬ nI sz ≤ nI k := e20
        replace e20 : ¬ sz ≤ k := fun z => e20 ((nI_leI (a := sz) (b := k) (by omega) (by omega)).mpr z)
        exfalso; omega
    | succ n ih =>
      intro k n1 b F hk he
      refine kx_rn dM_worked 2 15 [(0, .ref m), (1, .int (nI row)), (2, .int (nI fr)), (3, .int (nI n1)), (4, .int (nI k))] [.ref m, .int (nI k)] rfl ?_
      refine pM_38 (v := .ref (m + 9)) rfl (kx_tk_dec rfl dM_worked) (mh_o hm) rfl ?_
      refine kx_rn dM_worked 1 19 [(0, .ref m), (1, .int (nI row)), (2, .int (nI fr)), (3, .int (nI n1)), (4, .int (nI k))] [.int (nI row), .ref (m + 9), .int (nI k)] rfl ?_
      refine mh_ld (k := 9) (x := A 9 row) (i := row) rfl rfl (kx_tk_dec rfl dM_worked) hm (by show row < 6; omega) ?_
      rw [hsz]
      refine kx_ic (tgt := 146) (kx_tk_dec rfl dM_worked) rfl (fun e20 => ?_) (fun e20 => ?_)
      · skip
        replace e20 : nI sz ≤ nI k := e20
        replace e20 : sz ≤ k := (nI_leI (a := sz) (b := k) (by omega) (by omega)).mp e20
        exfalso; omega
      · skip
        replace e20 : ¬ nI sz ≤ nI k := e20
        replace e20 : ¬ sz ≤ k := fun z => e20 ((nI_leI (a := sz) (b := k) (by omega) (by omega)).mpr z)
        refine kx_rn dM_worked 1 24 [(0, .ref m), (1, .int (nI row)), (2, .int (nI fr)), (3, .int (nI n1)), (4, .int (nI k))] [.ref m] rfl ?_
        refine pM_35 (v := .ref (m + 8)) rfl (kx_tk_dec rfl dM_worked) (mh_o hm) rfl ?_
        refine kx_rn dM_worked 5 34 [(0, .ref m), (1, .int (nI row)), (2, .int (nI fr)), (3, .int (nI n1)), (4, .int (nI k))] [.int ((44 * (nI row)) + (nI k)), .ref (m + 8)] rfl ?_
        rw [show (44 * (nI row)) + (nI k) = nI ((44 * row) + k) from kn_ad (kn_mu rfl rfl) rfl]
        refine mh_ld (k := 8) (x := A 8 ((44 * row) + k)) (i := (44 * row) + k) rfl rfl (kx_tk_dec rfl dM_worked) hm (by show (44 * row) + k < 264; omega) ?_
        rw [hP k (by omega)]
        have hit := hwf.2 k (by omega)
        have hdk := dpt_le P k
        have hn1 : n1 = dpt P k := by rw [← eR_dpt (fun c => A 5 (fr + c)) P (va_up (A 12) 0 1) dv k, he]
        rw [← hn1] at hit
        rcases hit with ⟨v, hv, hPk⟩ | hPk | ⟨hPk, hlo⟩ | ⟨hPk, hlo⟩
        · rw [hPk]
          refine kx_rn dM_worked 3 41 [(0, .ref m), (1, .int (nI row)), (2, .int (nI fr)), (3, .int (nI n1)), (4, .int (nI k)), (5, .int (nI v))] [.int ((-4)), .int (nI v)] rfl ?_
          refine kx_ic (tgt := 77) (kx_tk_dec rfl dM_worked) rfl (fun e41 => ?_) (fun e41 => ?_)
          · skip
            replace e41 : nI v < (-4) := e41
            exact absurd e41 (nI_n4 hv)
          · skip
            replace e41 : ¬ nI v < (-4) := e41
            refine kx_rn dM_worked 1 45 [(0, .ref m), (1, .int (nI row)), (2, .int (nI fr)), (3, .int (nI n1)), (4, .int (nI k)), (5, .int (nI v))] [.ref m] rfl ?_
            refine pM_48 (v := .ref (m + 12)) rfl (kx_tk_dec rfl dM_worked) (mh_o hm) rfl ?_
            refine kx_rn dM_worked 2 51 [(0, .ref m), (1, .int (nI row)), (2, .int (nI fr)), (3, .int (nI n1)), (4, .int (nI k)), (5, .int (nI v))] [.int (nI v), .int (nI n1), .ref (m + 12)] rfl ?_
            refine kx_if (tgt := 59) (kx_tk_dec rfl dM_worked) rfl (fun e51 => ?_) (fun e51 => ?_)
            · skip
              replace e51 : nI v < 0 := e51
              replace e51 : v < 0 := (nI_ltI (a := v) (b := 0) (by omega) (by omega)).mp e51
              exact absurd e51 (Nat.not_lt_zero _)
            · skip
              replace e51 : ¬ nI v < 0 := e51
              replace e51 : ¬ v < 0 := fun z => e51 ((nI_ltI (a := v) (b := 0) (by omega) (by omega)).mpr z)
              refine kx_rn dM_worked 2 70 [(0, .ref m), (1, .int (nI row)), (2, .int (nI fr)), (3, .int (nI n1)), (4, .int (nI k)), (5, .int (nI v))] [.int (nI v), .int (nI n1), .ref (m + 12)] rfl ?_
              refine mh_st (k := 12) (i := n1) (A' := va_up A 12 (va_up F n1 (nI v))) rfl (kx_tk_dec rfl dM_worked) hm (by show n1 < 44; omega) (va_upup _ _ _ _) ?_
              refine kx_rn dM_worked 4 12 [(0, .ref m), (1, .int (nI row)), (2, .int (nI fr)), (3, .int ((nI n1) + 1)), (4, .int ((nI k) + 1)), (5, .int (nI v))] [] rfl ?_
              rw [show (nI n1) + 1 = nI (n1 + 1) from kn_ad rfl rfl]
              rw [show (nI k) + 1 = nI (k + 1) from kn_ad rfl rfl]
              refine kx_lsub (lv' := [(0, .ref m), (1, .int (nI row)), (2, .int (nI fr)), (3, .int (nI (n1 + 1))), (4, .int (nI (k + 1)))]) (.cons₂ _ (.cons₂ _ (.cons₂ _ (.cons₂ _ (.cons₂ _ (.cons _ .slnil)))))) ?_
              refine ih (k + 1) (n1 + 1) _ _ (by omega) ?_
              show eS _ (P k) _ = _
              rw [he, hPk]
              unfold eS
              rw [if_neg (nI_n4 hv), if_pos (by rw [kI_le, nI_toInt (by omega)]; have z : (0 : Int32).toInt = 0 := rfl; omega)]
        · rcases hPk with hPk | hPk | hPk | hPk
          · rw [hPk]
            refine kx_rn dM_worked 3 41 [(0, .ref m), (1, .int (nI row)), (2, .int (nI fr)), (3, .int (nI n1)), (4, .int (nI k)), (5, .int ((-1)))] [.int ((-4)), .int ((-1))] rfl ?_
            refine kx_ic (tgt := 77) (kx_tk_dec rfl dM_worked) rfl (fun e41 => ?_) (fun e41 => ?_)
            · skip
              replace e41 : ((-1) : Int32) < (-4) := e41
              exact absurd e41 (by decide)
            · skip
              replace e41 : ¬ ((-1) : Int32) < (-4) := e41
              refine kx_rn dM_worked 1 45 [(0, .ref m), (1, .int (nI row)), (2, .int (nI fr)), (3, .int (nI n1)), (4, .int (nI k)), (5, .int ((-1)))] [.ref m] rfl ?_
              refine pM_48 (v := .ref (m + 12)) rfl (kx_tk_dec rfl dM_worked) (mh_o hm) rfl ?_
              refine kx_rn dM_worked 2 51 [(0, .ref m), (1, .int (nI row)), (2, .int (nI fr)), (3, .int (nI n1)), (4, .int (nI k)), (5, .int ((-1)))] [.int ((-1)), .int (nI n1), .ref (m + 12)] rfl ?_
              refine kx_if (tgt := 59) (kx_tk_dec rfl dM_worked) rfl (fun e51 => ?_) (fun e51 => ?_)
              · skip
                replace e51 : ((-1) : Int32) < 0 := e51
                refine kx_rn dM_worked 1 60 [(0, .ref m), (1, .int (nI row)), (2, .int (nI fr)), (3, .int (nI n1)), (4, .int (nI k)), (5, .int ((-1)))] [.ref m, .int (nI n1), .ref (m + 12)] rfl ?_
                refine pM_22 (v := .ref (m + 5)) rfl (kx_tk_dec rfl dM_worked) (mh_o hm) rfl ?_
                refine kx_rn dM_worked 5 69 [(0, .ref m), (1, .int (nI row)), (2, .int (nI fr)), (3, .int (nI n1)), (4, .int (nI k)), (5, .int ((-1)))] [.int (((nI fr) - 1) - ((-1))), .ref (m + 5), .int (nI n1), .ref (m + 12)] rfl ?_
                rw [kn_col (f := fr) (c := 0) (x := -1) rfl]
                refine mh_ld (k := 5) (x := A 5 (fr + 0)) (i := fr + 0) rfl rfl (kx_tk_dec rfl dM_worked) hm (by show fr + 0 < 11520; omega) ?_
                refine mh_st (k := 12) (i := n1) (A' := va_up A 12 (va_up F n1 (A 5 (fr + 0)))) rfl (kx_tk_dec rfl dM_worked) hm (by show n1 < 44; omega) (va_upup _ _ _ _) ?_
                refine kx_rn dM_worked 4 12 [(0, .ref m), (1, .int (nI row)), (2, .int (nI fr)), (3, .int ((nI n1) + 1)), (4, .int ((nI k) + 1)), (5, .int ((-1)))] [] rfl ?_
                rw [show (nI n1) + 1 = nI (n1 + 1) from kn_ad rfl rfl]
                rw [show (nI k) + 1 = nI (k + 1) from kn_ad rfl rfl]
                refine kx_lsub (lv' := [(0, .ref m), (1, .int (nI row)), (2, .int (nI fr)), (3, .int (nI (n1 + 1))), (4, .int (nI (k + 1)))]) (.cons₂ _ (.cons₂ _ (.cons₂ _ (.cons₂ _ (.cons₂ _ (.cons _ .slnil)))))) ?_
                refine ih (k + 1) (n1 + 1) _ _ (by omega) ?_
                show eS _ (P k) _ = _
                rw [he, hPk]
                rfl
              · skip
                replace e51 : ¬ ((-1) : Int32) < 0 := e51
                exact absurd (by decide) e51
          · rw [hPk]
            refine kx_rn dM_worked 3 41 [(0, .ref m), (1, .int (nI row)), (2, .int (nI fr)), (3, .int (nI n1)), (4, .int (nI k)), (5, .int ((-2)))] [.int ((-4)), .int ((-2))] rfl ?_
            refine kx_ic (tgt := 77) (kx_tk_dec rfl dM_worked) rfl (fun e41 => ?_) (fun e41 => ?_)
            · skip
              replace e41 : ((-2) : Int32) < (-4) := e41
              exact absurd e41 (by decide)
            · skip
              replace e41 : ¬ ((-2) : Int32) < (-4) := e41
              refine kx_rn dM_worked 1 45 [(0, .ref m), (1, .int (nI row)), (2, .int (nI fr)), (3, .int (nI n1)), (4, .int (nI k)), (5, .int ((-2)))] [.ref m] rfl ?_
              refine pM_48 (v := .ref (m + 12)) rfl (kx_tk_dec rfl dM_worked) (mh_o hm) rfl ?_
              refine kx_rn dM_worked 2 51 [(0, .ref m), (1, .int (nI row)), (2, .int (nI fr)), (3, .int (nI n1)), (4, .int (nI k)), (5, .int ((-2)))] [.int ((-2)), .int (nI n1), .ref (m + 12)] rfl ?_
              refine kx_if (tgt := 59) (kx_tk_dec rfl dM_worked) rfl (fun e51 => ?_) (fun e51 => ?_)
              · skip
                replace e51 : ((-2) : Int32) < 0 := e51
                refine kx_rn dM_worked 1 60 [(0, .ref m), (1, .int (nI row)), (2, .int (nI fr)), (3, .int (nI n1)), (4, .int (nI k)), (5, .int ((-2)))] [.ref m, .int (nI n1), .ref (m + 12)] rfl ?_
                refine pM_22 (v := .ref (m + 5)) rfl (kx_tk_dec rfl dM_worked) (mh_o hm) rfl ?_
                refine kx_rn dM_worked 5 69 [(0, .ref m), (1, .int (nI row)), (2, .int (nI fr)), (3, .int (nI n1)), (4, .int (nI k)), (5, .int ((-2)))] [.int (((nI fr) - 1) - ((-2))), .ref (m + 5), .int (nI n1), .ref (m + 12)] rfl ?_
                rw [kn_col (f := fr) (c := 1) (x := -2) rfl]
                refine mh_ld (k := 5) (x := A 5 (fr + 1)) (i := fr + 1) rfl rfl (kx_tk_dec rfl dM_worked) hm (by show fr + 1 < 11520; omega) ?_
                refine mh_st (k := 12) (i := n1) (A' := va_up A 12 (va_up F n1 (A 5 (fr + 1)))) rfl (kx_tk_dec rfl dM_worked) hm (by show n1 < 44; omega) (va_upup _ _ _ _) ?_
                refine kx_rn dM_worked 4 12 [(0, .ref m), (1, .int (nI row)), (2, .int (nI fr)), (3, .int ((nI n1) + 1)), (4, .int ((nI k) + 1)), (5, .int ((-2)))] [] rfl ?_
                rw [show (nI n1) + 1 = nI (n1 + 1) from kn_ad rfl rfl]
                rw [show (nI k) + 1 = nI (k + 1) from kn_ad rfl rfl]
                refine kx_lsub (lv' := [(0, .ref m), (1, .int (nI row)), (2, .int (nI fr)), (3, .int (nI (n1 + 1))), (4, .int (nI (k + 1)))]) (.cons₂ _ (.cons₂ _ (.cons₂ _ (.cons₂ _ (.cons₂ _ (.cons _ .slnil)))))) ?_
                refine ih (k + 1) (n1 + 1) _ _ (by omega) ?_
                show eS _ (P k) _ = _
                rw [he, hPk]
                rfl
              · skip
                replace e51 : ¬ ((-2) : Int32) < 0 := e51
                exact absurd (by decide) e51
          · rw [hPk]
            refine kx_rn dM_worked 3 41 [(0, .ref m), (1, .int (nI row)), (2, .int (nI fr)), (3, .int (nI n1)), (4, .int (nI k)), (5, .int ((-3)))] [.int ((-4)), .int ((-3))] rfl ?_
            refine kx_ic (tgt := 77) (kx_tk_dec rfl dM_worked) rfl (fun e41 => ?_) (fun e41 => ?_)
            · skip
              replace e41 : ((-3) : Int32) < (-4) := e41
              exact absurd e41 (by decide)
            · skip
              replace e41 : ¬ ((-3) : Int32) < (-4) := e41
              refine kx_rn dM_worked 1 45 [(0, .ref m), (1, .int (nI row)), (2, .int (nI fr)), (3, .int (nI n1)), (4, .int (nI k)), (5, .int ((-3)))] [.ref m] rfl ?_
              refine pM_48 (v := .ref (m + 12)) rfl (kx_tk_dec rfl dM_worked) (mh_o hm) rfl ?_
              refine kx_rn dM_worked 2 51 [(0, .ref m), (1, .int (nI row)), (2, .int (nI fr)), (3, .int (nI n1)), (4, .int (nI k)), (5, .int ((-3)))] [.int ((-3)), .int (nI n1), .ref (m + 12)] rfl ?_
              refine kx_if (tgt := 59) (kx_tk_dec rfl dM_worked) rfl (fun e51 => ?_) (fun e51 => ?_)
              · skip
                replace e51 : ((-3) : Int32) < 0 := e51
                refine kx_rn dM_worked 1 60 [(0, .ref m), (1, .int (nI row)), (2, .int (nI fr)), (3, .int (nI n1)), (4, .int (nI k)), (5, .int ((-3)))] [.ref m, .int (nI n1), .ref (m + 12)] rfl ?_
                refine pM_22 (v := .ref (m + 5)) rfl (kx_tk_dec rfl dM_worked) (mh_o hm) rfl ?_
                refine kx_rn dM_worked 5 69 [(0, .ref m), (1, .int (nI row)), (2, .int (nI fr)), (3, .int (nI n1)), (4, .int (nI k)), (5, .int ((-3)))] [.int (((nI fr) - 1) - ((-3))), .ref (m + 5), .int (nI n1), .ref (m + 12)] rfl ?_
                rw [kn_col (f := fr) (c := 2) (x := -3) rfl]
                refine mh_ld (k := 5) (x := A 5 (fr + 2)) (i := fr + 2) rfl rfl (kx_tk_dec rfl dM_worked) hm (by show fr + 2 < 11520; omega) ?_
                refine mh_st (k := 12) (i := n1) (A' := va_up A 12 (va_up F n1 (A 5 (fr + 2)))) rfl (kx_tk_dec rfl dM_worked) hm (by show n1 < 44; omega) (va_upup _ _ _ _) ?_
                refine kx_rn dM_worked 4 12 [(0, .ref m), (1, .int (nI row)), (2, .int (nI fr)), (3, .int ((nI n1) + 1)), (4, .int ((nI k) + 1)), (5, .int ((-3)))] [] rfl ?_
                rw [show (nI n1) + 1 = nI (n1 + 1) from kn_ad rfl rfl]
                rw [show (nI k) + 1 = nI (k + 1) from kn_ad rfl rfl]
                refine kx_lsub (lv' := [(0, .ref m), (1, .int (nI row)), (2, .int (nI fr)), (3, .int (nI (n1 + 1))), (4, .int (nI (k + 1)))]) (.cons₂ _ (.cons₂ _ (.cons₂ _ (.cons₂ _ (.cons₂ _ (.cons _ .slnil)))))) ?_
                refine ih (k + 1) (n1 + 1) _ _ (by omega) ?_
                show eS _ (P k) _ = _
                rw [he, hPk]
                rfl
              · skip
                replace e51 : ¬ ((-3) : Int32) < 0 := e51
                exact absurd (by decide) e51
          · rw [hPk]
            refine kx_rn dM_worked 3 41 [(0, .ref m), (1, .int (nI row)), (2, .int (nI fr)), (3, .int (nI n1)), (4, .int (nI k)), (5, .int ((-4)))] [.int ((-4)), .int ((-4))] rfl ?_
            refine kx_ic (tgt := 77) (kx_tk_dec rfl dM_worked) rfl (fun e41 => ?_) (fun e41 => ?_)
            · skip
              replace e41 : ((-4) : Int32) < (-4) := e41
              exact absurd e41 (by decide)
            · skip
              replace e41 : ¬ ((-4) : Int32) < (-4) := e41
              refine kx_rn dM_worked 1 45 [(0, .ref m), (1, .int (nI row)), (2, .int (nI fr)), (3, .int (nI n1)), (4, .int (nI k)), (5, .int ((-4)))] [.ref m] rfl ?_
              refine pM_48 (v := .ref (m + 12)) rfl (kx_tk_dec rfl dM_worked) (mh_o hm) rfl ?_
              refine kx_rn dM_worked 2 51 [(0, .ref m), (1, .int (nI row)), (2, .int (nI fr)), (3, .int (nI n1)), (4, .int (nI k)), (5, .int ((-4)))] [.int ((-4)), .int (nI n1), .ref (m + 12)] rfl ?_
              refine kx_if (tgt := 59) (kx_tk_dec rfl dM_worked) rfl (fun e51 => ?_) (fun e51 => ?_)
              · skip
                replace e51 : ((-4) : Int32) < 0 := e51
                refine kx_rn dM_worked 1 60 [(0, .ref m), (1, .int (nI row)), (2, .int (nI fr)), (3, .int (nI n1)), (4, .int (nI k)), (5, .int ((-4)))] [.ref m, .int (nI n1), .ref (m + 12)] rfl ?_
                refine pM_22 (v := .ref (m + 5)) rfl (kx_tk_dec rfl dM_worked) (mh_o hm) rfl ?_
                refine kx_rn dM_worked 5 69 [(0, .ref m), (1, .int (nI row)), (2, .int (nI fr)), (3, .int (nI n1)), (4, .int (nI k)), (5, .int ((-4)))] [.int (((nI fr) - 1) - ((-4))), .ref (m + 5), .int (nI n1), .ref (m + 12)] rfl ?_
                rw [kn_col (f := fr) (c := 3) (x := -4) rfl]
                refine mh_ld (k := 5) (x := A 5 (fr + 3)) (i := fr + 3) rfl rfl (kx_tk_dec rfl dM_worked) hm (by show fr + 3 < 11520; omega) ?_
                refine mh_st (k := 12) (i := n1) (A' := va_up A 12 (va_up F n1 (A 5 (fr + 3)))) rfl (kx_tk_dec rfl dM_worked) hm (by show n1 < 44; omega) (va_upup _ _ _ _) ?_
                refine kx_rn dM_worked 4 12 [(0, .ref m), (1, .int (nI row)), (2, .int (nI fr)), (3, .int ((nI n1) + 1)), (4, .int ((nI k) + 1)), (5, .int ((-4)))] [] rfl ?_
                rw [show (nI n1) + 1 = nI (n1 + 1) from kn_ad rfl rfl]
                rw [show (nI k) + 1 = nI (k + 1) from kn_ad rfl rfl]
                refine kx_lsub (lv' := [(0, .ref m), (1, .int (nI row)), (2, .int (nI fr)), (3, .int (nI (n1 + 1))), (4, .int (nI (k + 1)))]) (.cons₂ _ (.cons₂ _ (.cons₂ _ (.cons₂ _ (.cons₂ _ (.cons _ .slnil)))))) ?_
                refine ih (k + 1) (n1 + 1) _ _ (by omega) ?_
                show eS _ (P k) _ = _
                rw [he, hPk]
                rfl
              · skip
                replace e51 : ¬ ((-4) : Int32) < 0 := e51
                exact absurd (by decide) e51
        · rw [hPk]
          refine kx_rn dM_worked 3 41 [(0, .ref m), (1, .int (nI row)), (2, .int (nI fr)), (3, .int (nI n1)), (4, .int (nI k)), (5, .int ((-133)))] [.int ((-4)), .int ((-133))] rfl ?_
          refine kx_ic (tgt := 77) (kx_tk_dec rfl dM_worked) rfl (fun e41 => ?_) (fun e41 => ?_)
          · skip
            replace e41 : ((-133) : Int32) < (-4) := e41
            refine kx_rn dM_worked 2 82 [(0, .ref m), (1, .int (nI row)), (2, .int (nI fr)), (3, .int (nI n1)), (4, .int (nI k)), (5, .int ((-133)))] [.int ((-133)), .int ((-133))] rfl ?_
            refine kx_ic (tgt := 106) (kx_tk_dec rfl dM_worked) rfl (fun e82 => ?_) (fun e82 => ?_)
            · skip
              replace e82 : ¬ ((-133) : Int32) = (-133) := e82
              exact absurd (by decide) e82
            · skip
              replace e82 : ((-133) : Int32) = (-133) := e82
              refine kx_rn dM_worked 1 86 [(0, .ref m), (1, .int (nI row)), (2, .int (nI fr)), (3, .int (nI n1)), (4, .int (nI k)), (5, .int ((-133)))] [.ref m] rfl ?_
              refine pM_48 (v := .ref (m + 12)) rfl (kx_tk_dec rfl dM_worked) (mh_o hm) rfl ?_
              refine kx_rn dM_worked 5 94 [(0, .ref m), (1, .int (nI row)), (2, .int (nI fr)), (3, .int (nI n1)), (4, .int (nI k)), (5, .int ((-133)))] [.ref m, .int 1, .int ((nI n1) - 1), .ref (m + 12)] rfl ?_
              rw [show (nI n1) - 1 = nI (n1 - 1) from kn_su rfl rfl (by omega)]
              refine pM_48 (v := .ref (m + 12)) rfl (kx_tk_dec rfl dM_worked) (mh_o hm) rfl ?_
              refine kx_rn dM_worked 3 100 [(0, .ref m), (1, .int (nI row)), (2, .int (nI fr)), (3, .int (nI n1)), (4, .int (nI k)), (5, .int ((-133)))] [.int ((nI n1) - 1), .ref (m + 12), .int 1, .int (nI (n1 - 1)), .ref (m + 12)] rfl ?_
              rw [show (nI n1) - 1 = nI (n1 - 1) from kn_su rfl rfl (by omega)]
              refine mh_ld (k := 12) (x := F (n1 - 1)) (i := n1 - 1) rfl rfl (kx_tk_dec rfl dM_worked) hm (by show n1 - 1 < 44; omega) ?_
              refine kx_rn dM_worked 1 102 [(0, .ref m), (1, .int (nI row)), (2, .int (nI fr)), (3, .int (nI n1)), (4, .int (nI k)), (5, .int ((-133)))] [.int (1 - (F (n1 - 1))), .int (nI (n1 - 1)), .ref (m + 12)] rfl ?_
              refine mh_st (k := 12) (i := n1 - 1) (A' := va_up A 12 (va_up F (n1 - 1) (1 - (F (n1 - 1))))) rfl (kx_tk_dec rfl dM_worked) hm (by show n1 - 1 < 44; omega) (va_upup _ _ _ _) ?_
              refine kx_rn dM_worked 3 12 [(0, .ref m), (1, .int (nI row)), (2, .int (nI fr)), (3, .int (nI n1)), (4, .int ((nI k) + 1)), (5, .int ((-133)))] [] rfl ?_
              rw [show (nI k) + 1 = nI (k + 1) from kn_ad rfl rfl]
              refine kx_lsub (lv' := [(0, .ref m), (1, .int (nI row)), (2, .int (nI fr)), (3, .int (nI n1)), (4, .int (nI (k + 1)))]) (.cons₂ _ (.cons₂ _ (.cons₂ _ (.cons₂ _ (.cons₂ _ (.cons _ .slnil)))))) ?_
              refine ih (k + 1) n1 _ _ (by omega) ?_
              show eS _ (P k) _ = _
              rw [he, hPk]
              rfl
          · skip
            replace e41 : ¬ ((-133) : Int32) < (-4) := e41
            exact absurd (by decide) e41
        · rcases hPk with hPk | hPk | hPk | hPk | hPk | hPk | hPk | hPk | hPk | hPk
          · rw [hPk]
            refine kx_rn dM_worked 3 41 [(0, .ref m), (1, .int (nI row)), (2, .int (nI fr)), (3, .int (nI n1)), (4, .int (nI k)), (5, .int ((-143)))] [.int ((-4)), .int ((-143))] rfl ?_
            refine kx_ic (tgt := 77) (kx_tk_dec rfl dM_worked) rfl (fun e41 => ?_) (fun e41 => ?_)
            · skip
              replace e41 : ((-143) : Int32) < (-4) := e41
              refine kx_rn dM_worked 2 82 [(0, .ref m), (1, .int (nI row)), (2, .int (nI fr)), (3, .int (nI n1)), (4, .int (nI k)), (5, .int ((-143)))] [.int ((-133)), .int ((-143))] rfl ?_
              refine kx_ic (tgt := 106) (kx_tk_dec rfl dM_worked) rfl (fun e82 => ?_) (fun e82 => ?_)
              · skip
                replace e82 : ¬ ((-143) : Int32) = (-133) := e82
                refine kx_rn dM_worked 2 110 [(0, .ref m), (1, .int (nI row)), (2, .int (nI fr)), (3, .int ((nI n1) + (-1))), (4, .int (nI k)), (5, .int ((-143)))] [.ref m] rfl ?_
                rw [show (nI n1) + (-1) = nI (n1 - 1) from kn_sa rfl rfl (by omega)]
                refine pM_48 (v := .ref (m + 12)) rfl (kx_tk_dec rfl dM_worked) (mh_o hm) rfl ?_
                refine kx_rn dM_worked 8 123 [(0, .ref m), (1, .int (nI row)), (2, .int (nI fr)), (3, .int (nI (n1 - 1))), (4, .int (nI k)), (5, .int ((-143)))] [.ref m, .int 43, .ref m, .int ((nI (n1 - 1)) - 1), .ref (m + 12)] rfl ?_
                rw [show (nI (n1 - 1)) - 1 = nI ((n1 - 1) - 1) from kn_su rfl rfl (by omega)]
                refine pM_48 (v := .ref (m + 12)) rfl (kx_tk_dec rfl dM_worked) (mh_o hm) rfl ?_
                refine kx_rn dM_worked 3 129 [(0, .ref m), (1, .int (nI row)), (2, .int (nI fr)), (3, .int (nI (n1 - 1))), (4, .int (nI k)), (5, .int ((-143)))] [.int ((nI (n1 - 1)) - 1), .ref (m + 12), .int 43, .ref m, .int (nI ((n1 - 1) - 1)), .ref (m + 12)] rfl ?_
                rw [show (nI (n1 - 1)) - 1 = nI ((n1 - 1) - 1) from kn_su rfl rfl (by omega)]
                refine mh_ld (k := 12) (x := F ((n1 - 1) - 1)) (i := (n1 - 1) - 1) rfl rfl (kx_tk_dec rfl dM_worked) hm (by show (n1 - 1) - 1 < 44; omega) ?_
                refine kx_rn dM_worked 1 131 [(0, .ref m), (1, .int (nI row)), (2, .int (nI fr)), (3, .int (nI (n1 - 1))), (4, .int (nI k)), (5, .int ((-143)))] [.ref m, .int (F ((n1 - 1) - 1)), .int 43, .ref m, .int (nI ((n1 - 1) - 1)), .ref (m + 12)] rfl ?_
                refine pM_48 (v := .ref (m + 12)) rfl (kx_tk_dec rfl dM_worked) (mh_o hm) rfl ?_
                refine kx_rn dM_worked 1 135 [(0, .ref m), (1, .int (nI row)), (2, .int (nI fr)), (3, .int (nI (n1 - 1))), (4, .int (nI k)), (5, .int ((-143)))] [.int (nI (n1 - 1)), .ref (m + 12), .int (F ((n1 - 1) - 1)), .int 43, .ref m, .int (nI ((n1 - 1) - 1)), .ref (m + 12)] rfl ?_
                refine mh_ld (k := 12) (x := F (n1 - 1)) (i := n1 - 1) rfl rfl (kx_tk_dec rfl dM_worked) hm (by show n1 - 1 < 44; omega) ?_
                refine cM_152 (as := [.int 43, .int (F ((n1 - 1) - 1)), .int (F (n1 - 1))]) (st := [.int (nI ((n1 - 1) - 1)), .ref (m + 12)]) (mc := 0) (ms := 0) (kc := 0) (ks := 0) rfl (kx_tk_dec rfl dM_worked) (mh_o hm) rfl rfl (Nat.le_of_ble_eq_true rfl) (cM_done (sg := 43) (dv := b) hst hm (by decide) rfl) (fun o h' hq => ?_)
                obtain ⟨rfl, rfl⟩ := hq
                show kx_w _ _ _ _ _ _ _ _ _ _ _
                rw [va_upup]
                refine mh_st (k := 12) (i := (n1 - 1) - 1) (A' := va_up A 12 (va_up F ((n1 - 1) - 1) (dvO 43 (F ((n1 - 1) - 1)) (F (n1 - 1))))) rfl (kx_tk_dec rfl dM_worked) hm (by show (n1 - 1) - 1 < 44; omega) (va_upup _ _ _ _) ?_
                refine kx_rn dM_worked 2 12 [(0, .ref m), (1, .int (nI row)), (2, .int (nI fr)), (3, .int (nI (n1 - 1))), (4, .int ((nI k) + 1)), (5, .int ((-143)))] [] rfl ?_
                rw [show (nI k) + 1 = nI (k + 1) from kn_ad rfl rfl]
                refine kx_lsub (lv' := [(0, .ref m), (1, .int (nI row)), (2, .int (nI fr)), (3, .int (nI (n1 - 1))), (4, .int (nI (k + 1)))]) (.cons₂ _ (.cons₂ _ (.cons₂ _ (.cons₂ _ (.cons₂ _ (.cons _ .slnil)))))) ?_
                refine ih (k + 1) (n1 - 1) _ _ (by omega) ?_
                show eS _ (P k) _ = _
                rw [he, hPk]
                rfl
              · skip
                replace e82 : ((-143) : Int32) = (-133) := e82
                exact absurd e82 (by decide)
            · skip
              replace e41 : ¬ ((-143) : Int32) < (-4) := e41
              exact absurd (by decide) e41
          · rw [hPk]
            refine kx_rn dM_worked 3 41 [(0, .ref m), (1, .int (nI row)), (2, .int (nI fr)), (3, .int (nI n1)), (4, .int (nI k)), (5, .int ((-145)))] [.int ((-4)), .int ((-145))] rfl ?_
            refine kx_ic (tgt := 77) (kx_tk_dec rfl dM_worked) rfl (fun e41 => ?_) (fun e41 => ?_)
            · skip
              replace e41 : ((-145) : Int32) < (-4) := e41
              refine kx_rn dM_worked 2 82 [(0, .ref m), (1, .int (nI row)), (2, .int (nI fr)), (3, .int (nI n1)), (4, .int (nI k)), (5, .int ((-145)))] [.int ((-133)), .int ((-145))] rfl ?_
              refine kx_ic (tgt := 106) (kx_tk_dec rfl dM_worked) rfl (fun e82 => ?_) (fun e82 => ?_)
              · skip
                replace e82 : ¬ ((-145) : Int32) = (-133) := e82
                refine kx_rn dM_worked 2 110 [(0, .ref m), (1, .int (nI row)), (2, .int (nI fr)), (3, .int ((nI n1) + (-1))), (4, .int (nI k)), (5, .int ((-145)))] [.ref m] rfl ?_
                rw [show (nI n1) + (-1) = nI (n1 - 1) from kn_sa rfl rfl (by omega)]
                refine pM_48 (v := .ref (m + 12)) rfl (kx_tk_dec rfl dM_worked) (mh_o hm) rfl ?_
                refine kx_rn dM_worked 8 123 [(0, .ref m), (1, .int (nI row)), (2, .int (nI fr)), (3, .int (nI (n1 - 1))), (4, .int (nI k)), (5, .int ((-145)))] [.ref m, .int 45, .ref m, .int ((nI (n1 - 1)) - 1), .ref (m + 12)] rfl ?_
                rw [show (nI (n1 - 1)) - 1 = nI ((n1 - 1) - 1) from kn_su rfl rfl (by omega)]
                refine pM_48 (v := .ref (m + 12)) rfl (kx_tk_dec rfl dM_worked) (mh_o hm) rfl ?_
                refine kx_rn dM_worked 3 129 [(0, .ref m), (1, .int (nI row)), (2, .int (nI fr)), (3, .int (nI (n1 - 1))), (4, .int (nI k)), (5, .int ((-145)))] [.int ((nI (n1 - 1)) - 1), .ref (m + 12), .int 45, .ref m, .int (nI ((n1 - 1) - 1)), .ref (m + 12)] rfl ?_
                rw [show (nI (n1 - 1)) - 1 = nI ((n1 - 1) - 1) from kn_su rfl rfl (by omega)]
                refine mh_ld (k := 12) (x := F ((n1 - 1) - 1)) (i := (n1 - 1) - 1) rfl rfl (kx_tk_dec rfl dM_worked) hm (by show (n1 - 1) - 1 < 44; omega) ?_
                refine kx_rn dM_worked 1 131 [(0, .ref m), (1, .int (nI row)), (2, .int (nI fr)), (3, .int (nI (n1 - 1))), (4, .int (nI k)), (5, .int ((-145)))] [.ref m, .int (F ((n1 - 1) - 1)), .int 45, .ref m, .int (nI ((n1 - 1) - 1)), .ref (m + 12)] rfl ?_
                refine pM_48 (v := .ref (m + 12)) rfl (kx_tk_dec rfl dM_worked) (mh_o hm) rfl ?_
                refine kx_rn dM_worked 1 135 [(0, .ref m), (1, .int (nI row)), (2, .int (nI fr)), (3, .int (nI (n1 - 1))), (4, .int (nI k)), (5, .int ((-145)))] [.int (nI (n1 - 1)), .ref (m + 12), .int (F ((n1 - 1) - 1)), .int 45, .ref m, .int (nI ((n1 - 1) - 1)), .ref (m + 12)] rfl ?_
                refine mh_ld (k := 12) (x := F (n1 - 1)) (i := n1 - 1) rfl rfl (kx_tk_dec rfl dM_worked) hm (by show n1 - 1 < 44; omega) ?_
                refine cM_152 (as := [.int 45, .int (F ((n1 - 1) - 1)), .int (F (n1 - 1))]) (st := [.int (nI ((n1 - 1) - 1)), .ref (m + 12)]) (mc := 0) (ms := 0) (kc := 0) (ks := 0) rfl (kx_tk_dec rfl dM_worked) (mh_o hm) rfl rfl (Nat.le_of_ble_eq_true rfl) (cM_done (sg := 45) (dv := b) hst hm (by decide) rfl) (fun o h' hq => ?_)
                obtain ⟨rfl, rfl⟩ := hq
                show kx_w _ _ _ _ _ _ _ _ _ _ _
                rw [va_upup]
                refine mh_st (k := 12) (i := (n1 - 1) - 1) (A' := va_up A 12 (va_up F ((n1 - 1) - 1) (dvO 45 (F ((n1 - 1) - 1)) (F (n1 - 1))))) rfl (kx_tk_dec rfl dM_worked) hm (by show (n1 - 1) - 1 < 44; omega) (va_upup _ _ _ _) ?_
                refine kx_rn dM_worked 2 12 [(0, .ref m), (1, .int (nI row)), (2, .int (nI fr)), (3, .int (nI (n1 - 1))), (4, .int ((nI k) + 1)), (5, .int ((-145)))] [] rfl ?_
                rw [show (nI k) + 1 = nI (k + 1) from kn_ad rfl rfl]
                refine kx_lsub (lv' := [(0, .ref m), (1, .int (nI row)), (2, .int (nI fr)), (3, .int (nI (n1 - 1))), (4, .int (nI (k + 1)))]) (.cons₂ _ (.cons₂ _ (.cons₂ _ (.cons₂ _ (.cons₂ _ (.cons _ .slnil)))))) ?_
                refine ih (k + 1) (n1 - 1) _ _ (by omega) ?_
                show eS _ (P k) _ = _
                rw [he, hPk]
                rfl
              · skip
                replace e82 : ((-145) : Int32) = (-133) := e82
                exact absurd e82 (by decide)
            · skip
              replace e41 : ¬ ((-145) : Int32) < (-4) := e41
              exact absurd (by decide) e41
          · rw [hPk]
            refine kx_rn dM_worked 3 41 [(0, .ref m), (1, .int (nI row)), (2, .int (nI fr)), (3, .int (nI n1)), (4, .int (nI k)), (5, .int ((-142)))] [.int ((-4)), .int ((-142))] rfl ?_
            refine kx_ic (tgt := 77) (kx_tk_dec rfl dM_worked) rfl (fun e41 => ?_) (fun e41 => ?_)
            · skip
              replace e41 : ((-142) : Int32) < (-4) := e41
              refine kx_rn dM_worked 2 82 [(0, .ref m), (1, .int (nI row)), (2, .int (nI fr)), (3, .int (nI n1)), (4, .int (nI k)), (5, .int ((-142)))] [.int ((-133)), .int ((-142))] rfl ?_
              refine kx_ic (tgt := 106) (kx_tk_dec rfl dM_worked) rfl (fun e82 => ?_) (fun e82 => ?_)
              · skip
                replace e82 : ¬ ((-142) : Int32) = (-133) := e82
                refine kx_rn dM_worked 2 110 [(0, .ref m), (1, .int (nI row)), (2, .int (nI fr)), (3, .int ((nI n1) + (-1))), (4, .int (nI k)), (5, .int ((-142)))] [.ref m] rfl ?_
                rw [show (nI n1) + (-1) = nI (n1 - 1) from kn_sa rfl rfl (by omega)]
                refine pM_48 (v := .ref (m + 12)) rfl (kx_tk_dec rfl dM_worked) (mh_o hm) rfl ?_
                refine kx_rn dM_worked 8 123 [(0, .ref m), (1, .int (nI row)), (2, .int (nI fr)), (3, .int (nI (n1 - 1))), (4, .int (nI k)), (5, .int ((-142)))] [.ref m, .int 42, .ref m, .int ((nI (n1 - 1)) - 1), .ref (m + 12)] rfl ?_
                rw [show (nI (n1 - 1)) - 1 = nI ((n1 - 1) - 1) from kn_su rfl rfl (by omega)]
                refine pM_48 (v := .ref (m + 12)) rfl (kx_tk_dec rfl dM_worked) (mh_o hm) rfl ?_
                refine kx_rn dM_worked 3 129 [(0, .ref m), (1, .int (nI row)), (2, .int (nI fr)), (3, .int (nI (n1 - 1))), (4, .int (nI k)), (5, .int ((-142)))] [.int ((nI (n1 - 1)) - 1), .ref (m + 12), .int 42, .ref m, .int (nI ((n1 - 1) - 1)), .ref (m + 12)] rfl ?_
                rw [show (nI (n1 - 1)) - 1 = nI ((n1 - 1) - 1) from kn_su rfl rfl (by omega)]
                refine mh_ld (k := 12) (x := F ((n1 - 1) - 1)) (i := (n1 - 1) - 1) rfl rfl (kx_tk_dec rfl dM_worked) hm (by show (n1 - 1) - 1 < 44; omega) ?_
                refine kx_rn dM_worked 1 131 [(0, .ref m), (1, .int (nI row)), (2, .int (nI fr)), (3, .int (nI (n1 - 1))), (4, .int (nI k)), (5, .int ((-142)))] [.ref m, .int (F ((n1 - 1) - 1)), .int 42, .ref m, .int (nI ((n1 - 1) - 1)), .ref (m + 12)] rfl ?_
                refine pM_48 (v := .ref (m + 12)) rfl (kx_tk_dec rfl dM_worked) (mh_o hm) rfl ?_
                refine kx_rn dM_worked 1 135 [(0, .ref m), (1, .int (nI row)), (2, .int (nI fr)), (3, .int (nI (n1 - 1))), (4, .int (nI k)), (5, .int ((-142)))] [.int (nI (n1 - 1)), .ref (m + 12), .int (F ((n1 - 1) - 1)), .int 42, .ref m, .int (nI ((n1 - 1) - 1)), .ref (m + 12)] rfl ?_
                refine mh_ld (k := 12) (x := F (n1 - 1)) (i := n1 - 1) rfl rfl (kx_tk_dec rfl dM_worked) hm (by show n1 - 1 < 44; omega) ?_
                refine cM_152 (as := [.int 42, .int (F ((n1 - 1) - 1)), .int (F (n1 - 1))]) (st := [.int (nI ((n1 - 1) - 1)), .ref (m + 12)]) (mc := 0) (ms := 0) (kc := 0) (ks := 0) rfl (kx_tk_dec rfl dM_worked) (mh_o hm) rfl rfl (Nat.le_of_ble_eq_true rfl) (cM_done (sg := 42) (dv := b) hst hm (by decide) rfl) (fun o h' hq => ?_)
                obtain ⟨rfl, rfl⟩ := hq
                show kx_w _ _ _ _ _ _ _ _ _ _ _
                rw [va_upup]
                refine mh_st (k := 12) (i := (n1 - 1) - 1) (A' := va_up A 12 (va_up F ((n1 - 1) - 1) (dvO 42 (F ((n1 - 1) - 1)) (F (n1 - 1))))) rfl (kx_tk_dec rfl dM_worked) hm (by show (n1 - 1) - 1 < 44; omega) (va_upup _ _ _ _) ?_
                refine kx_rn dM_worked 2 12 [(0, .ref m), (1, .int (nI row)), (2, .int (nI fr)), (3, .int (nI (n1 - 1))), (4, .int ((nI k) + 1)), (5, .int ((-142)))] [] rfl ?_
                rw [show (nI k) + 1 = nI (k + 1) from kn_ad rfl rfl]
                refine kx_lsub (lv' := [(0, .ref m), (1, .int (nI row)), (2, .int (nI fr)), (3, .int (nI (n1 - 1))), (4, .int (nI (k + 1)))]) (.cons₂ _ (.cons₂ _ (.cons₂ _ (.cons₂ _ (.cons₂ _ (.cons _ .slnil)))))) ?_
                refine ih (k + 1) (n1 - 1) _ _ (by omega) ?_
                show eS _ (P k) _ = _
                rw [he, hPk]
                rfl
              · skip
                replace e82 : ((-142) : Int32) = (-133) := e82
                exact absurd e82 (by decide)
            · skip
              replace e41 : ¬ ((-142) : Int32) < (-4) := e41
              exact absurd (by decide) e41
          · rw [hPk]
            refine kx_rn dM_worked 3 41 [(0, .ref m), (1, .int (nI row)), (2, .int (nI fr)), (3, .int (nI n1)), (4, .int (nI k)), (5, .int ((-147)))] [.int ((-4)), .int ((-147))] rfl ?_
            refine kx_ic (tgt := 77) (kx_tk_dec rfl dM_worked) rfl (fun e41 => ?_) (fun e41 => ?_)
            · skip
              replace e41 : ((-147) : Int32) < (-4) := e41
              refine kx_rn dM_worked 2 82 [(0, .ref m), (1, .int (nI row)), (2, .int (nI fr)), (3, .int (nI n1)), (4, .int (nI k)), (5, .int ((-147)))] [.int ((-133)), .int ((-147))] rfl ?_
              refine kx_ic (tgt := 106) (kx_tk_dec rfl dM_worked) rfl (fun e82 => ?_) (fun e82 => ?_)
              · skip
                replace e82 : ¬ ((-147) : Int32) = (-133) := e82
                refine kx_rn dM_worked 2 110 [(0, .ref m), (1, .int (nI row)), (2, .int (nI fr)), (3, .int ((nI n1) + (-1))), (4, .int (nI k)), (5, .int ((-147)))] [.ref m] rfl ?_
                rw [show (nI n1) + (-1) = nI (n1 - 1) from kn_sa rfl rfl (by omega)]
                refine pM_48 (v := .ref (m + 12)) rfl (kx_tk_dec rfl dM_worked) (mh_o hm) rfl ?_
                refine kx_rn dM_worked 8 123 [(0, .ref m), (1, .int (nI row)), (2, .int (nI fr)), (3, .int (nI (n1 - 1))), (4, .int (nI k)), (5, .int ((-147)))] [.ref m, .int 47, .ref m, .int ((nI (n1 - 1)) - 1), .ref (m + 12)] rfl ?_
                rw [show (nI (n1 - 1)) - 1 = nI ((n1 - 1) - 1) from kn_su rfl rfl (by omega)]
                refine pM_48 (v := .ref (m + 12)) rfl (kx_tk_dec rfl dM_worked) (mh_o hm) rfl ?_
                refine kx_rn dM_worked 3 129 [(0, .ref m), (1, .int (nI row)), (2, .int (nI fr)), (3, .int (nI (n1 - 1))), (4, .int (nI k)), (5, .int ((-147)))] [.int ((nI (n1 - 1)) - 1), .ref (m + 12), .int 47, .ref m, .int (nI ((n1 - 1) - 1)), .ref (m + 12)] rfl ?_
                rw [show (nI (n1 - 1)) - 1 = nI ((n1 - 1) - 1) from kn_su rfl rfl (by omega)]
                refine mh_ld (k := 12) (x := F ((n1 - 1) - 1)) (i := (n1 - 1) - 1) rfl rfl (kx_tk_dec rfl dM_worked) hm (by show (n1 - 1) - 1 < 44; omega) ?_
                refine kx_rn dM_worked 1 131 [(0, .ref m), (1, .int (nI row)), (2, .int (nI fr)), (3, .int (nI (n1 - 1))), (4, .int (nI k)), (5, .int ((-147)))] [.ref m, .int (F ((n1 - 1) - 1)), .int 47, .ref m, .int (nI ((n1 - 1) - 1)), .ref (m + 12)] rfl ?_
                refine pM_48 (v := .ref (m + 12)) rfl (kx_tk_dec rfl dM_worked) (mh_o hm) rfl ?_
                refine kx_rn dM_worked 1 135 [(0, .ref m), (1, .int (nI row)), (2, .int (nI fr)), (3, .int (nI (n1 - 1))), (4, .int (nI k)), (5, .int ((-147)))] [.int (nI (n1 - 1)), .ref (m + 12), .int (F ((n1 - 1) - 1)), .int 47, .ref m, .int (nI ((n1 - 1) - 1)), .ref (m + 12)] rfl ?_
                refine mh_ld (k := 12) (x := F (n1 - 1)) (i := n1 - 1) rfl rfl (kx_tk_dec rfl dM_worked) hm (by show n1 - 1 < 44; omega) ?_
                refine cM_152 (as := [.int 47, .int (F ((n1 - 1) - 1)), .int (F (n1 - 1))]) (st := [.int (nI ((n1 - 1) - 1)), .ref (m + 12)]) (mc := 0) (ms := 0) (kc := 0) (ks := 0) rfl (kx_tk_dec rfl dM_worked) (mh_o hm) rfl rfl (Nat.le_of_ble_eq_true rfl) (cM_done (sg := 47) (dv := b) hst hm (by decide) rfl) (fun o h' hq => ?_)
                obtain ⟨rfl, rfl⟩ := hq
                show kx_w _ _ _ _ _ _ _ _ _ _ _
                rw [va_upup]
                refine mh_st (k := 12) (i := (n1 - 1) - 1) (A' := va_up A 12 (va_up F ((n1 - 1) - 1) (dvO 47 (F ((n1 - 1) - 1)) (F (n1 - 1))))) rfl (kx_tk_dec rfl dM_worked) hm (by show (n1 - 1) - 1 < 44; omega) (va_upup _ _ _ _) ?_
                refine kx_rn dM_worked 2 12 [(0, .ref m), (1, .int (nI row)), (2, .int (nI fr)), (3, .int (nI (n1 - 1))), (4, .int ((nI k) + 1)), (5, .int ((-147)))] [] rfl ?_
                rw [show (nI k) + 1 = nI (k + 1) from kn_ad rfl rfl]
                refine kx_lsub (lv' := [(0, .ref m), (1, .int (nI row)), (2, .int (nI fr)), (3, .int (nI (n1 - 1))), (4, .int (nI (k + 1)))]) (.cons₂ _ (.cons₂ _ (.cons₂ _ (.cons₂ _ (.cons₂ _ (.cons _ .slnil)))))) ?_
                refine ih (k + 1) (n1 - 1) _ _ (by omega) ?_
                show eS _ (P k) _ = _
                rw [he, hPk]
                rfl
              · skip
                replace e82 : ((-147) : Int32) = (-133) := e82
                exact absurd e82 (by decide)
            · skip
              replace e41 : ¬ ((-147) : Int32) < (-4) := e41
              exact absurd (by decide) e41
          · rw [hPk]
            refine kx_rn dM_worked 3 41 [(0, .ref m), (1, .int (nI row)), (2, .int (nI fr)), (3, .int (nI n1)), (4, .int (nI k)), (5, .int ((-161)))] [.int ((-4)), .int ((-161))] rfl ?_
            refine kx_ic (tgt := 77) (kx_tk_dec rfl dM_worked) rfl (fun e41 => ?_) (fun e41 => ?_)
            · skip
              replace e41 : ((-161) : Int32) < (-4) := e41
              refine kx_rn dM_worked 2 82 [(0, .ref m), (1, .int (nI row)), (2, .int (nI fr)), (3, .int (nI n1)), (4, .int (nI k)), (5, .int ((-161)))] [.int ((-133)), .int ((-161))] rfl ?_
              refine kx_ic (tgt := 106) (kx_tk_dec rfl dM_worked) rfl (fun e82 => ?_) (fun e82 => ?_)
              · skip
                replace e82 : ¬ ((-161) : Int32) = (-133) := e82
                refine kx_rn dM_worked 2 110 [(0, .ref m), (1, .int (nI row)), (2, .int (nI fr)), (3, .int ((nI n1) + (-1))), (4, .int (nI k)), (5, .int ((-161)))] [.ref m] rfl ?_
                rw [show (nI n1) + (-1) = nI (n1 - 1) from kn_sa rfl rfl (by omega)]
                refine pM_48 (v := .ref (m + 12)) rfl (kx_tk_dec rfl dM_worked) (mh_o hm) rfl ?_
                refine kx_rn dM_worked 8 123 [(0, .ref m), (1, .int (nI row)), (2, .int (nI fr)), (3, .int (nI (n1 - 1))), (4, .int (nI k)), (5, .int ((-161)))] [.ref m, .int 61, .ref m, .int ((nI (n1 - 1)) - 1), .ref (m + 12)] rfl ?_
                rw [show (nI (n1 - 1)) - 1 = nI ((n1 - 1) - 1) from kn_su rfl rfl (by omega)]
                refine pM_48 (v := .ref (m + 12)) rfl (kx_tk_dec rfl dM_worked) (mh_o hm) rfl ?_
                refine kx_rn dM_worked 3 129 [(0, .ref m), (1, .int (nI row)), (2, .int (nI fr)), (3, .int (nI (n1 - 1))), (4, .int (nI k)), (5, .int ((-161)))] [.int ((nI (n1 - 1)) - 1), .ref (m + 12), .int 61, .ref m, .int (nI ((n1 - 1) - 1)), .ref (m + 12)] rfl ?_
                rw [show (nI (n1 - 1)) - 1 = nI ((n1 - 1) - 1) from kn_su rfl rfl (by omega)]
                refine mh_ld (k := 12) (x := F ((n1 - 1) - 1)) (i := (n1 - 1) - 1) rfl rfl (kx_tk_dec rfl dM_worked) hm (by show (n1 - 1) - 1 < 44; omega) ?_
                refine kx_rn dM_worked 1 131 [(0, .ref m), (1, .int (nI row)), (2, .int (nI fr)), (3, .int (nI (n1 - 1))), (4, .int (nI k)), (5, .int ((-161)))] [.ref m, .int (F ((n1 - 1) - 1)), .int 61, .ref m, .int (nI ((n1 - 1) - 1)), .ref (m + 12)] rfl ?_
                refine pM_48 (v := .ref (m + 12)) rfl (kx_tk_dec rfl dM_worked) (mh_o hm) rfl ?_
                refine kx_rn dM_worked 1 135 [(0, .ref m), (1, .int (nI row)), (2, .int (nI fr)), (3, .int (nI (n1 - 1))), (4, .int (nI k)), (5, .int ((-161)))] [.int (nI (n1 - 1)), .ref (m + 12), .int (F ((n1 - 1) - 1)), .int 61, .ref m, .int (nI ((n1 - 1) - 1)), .ref (m + 12)] rfl ?_
                refine mh_ld (k := 12) (x := F (n1 - 1)) (i := n1 - 1) rfl rfl (kx_tk_dec rfl dM_worked) hm (by show n1 - 1 < 44; omega) ?_
                refine cM_152 (as := [.int 61, .int (F ((n1 - 1) - 1)), .int (F (n1 - 1))]) (st := [.int (nI ((n1 - 1) - 1)), .ref (m + 12)]) (mc := 0) (ms := 0) (kc := 0) (ks := 0) rfl (kx_tk_dec rfl dM_worked) (mh_o hm) rfl rfl (Nat.le_of_ble_eq_true rfl) (cM_done (sg := 61) (dv := b) hst hm (by decide) rfl) (fun o h' hq => ?_)
                obtain ⟨rfl, rfl⟩ := hq
                show kx_w _ _ _ _ _ _ _ _ _ _ _
                rw [va_upup]
                refine mh_st (k := 12) (i := (n1 - 1) - 1) (A' := va_up A 12 (va_up F ((n1 - 1) - 1) (dvO 61 (F ((n1 - 1) - 1)) (F (n1 - 1))))) rfl (kx_tk_dec rfl dM_worked) hm (by show (n1 - 1) - 1 < 44; omega) (va_upup _ _ _ _) ?_
                refine kx_rn dM_worked 2 12 [(0, .ref m), (1, .int (nI row)), (2, .int (nI fr)), (3, .int (nI (n1 - 1))), (4, .int ((nI k) + 1)), (5, .int ((-161)))] [] rfl ?_
                rw [show (nI k) + 1 = nI (k + 1) from kn_ad rfl rfl]
                refine kx_lsub (lv' := [(0, .ref m), (1, .int (nI row)), (2, .int (nI fr)), (3, .int (nI (n1 - 1))), (4, .int (nI (k + 1)))]) (.cons₂ _ (.cons₂ _ (.cons₂ _ (.cons₂ _ (.cons₂ _ (.cons _ .slnil)))))) ?_
                refine ih (k + 1) (n1 - 1) _ _ (by omega) ?_
                show eS _ (P k) _ = _
                rw [he, hPk]
                rfl
              · skip
                replace e82 : ((-161) : Int32) = (-133) := e82
                exact absurd e82 (by decide)
            · skip
              replace e41 : ¬ ((-161) : Int32) < (-4) := e41
              exact absurd (by decide) e41
          · rw [hPk]
            refine kx_rn dM_worked 3 41 [(0, .ref m), (1, .int (nI row)), (2, .int (nI fr)), (3, .int (nI n1)), (4, .int (nI k)), (5, .int ((-135)))] [.int ((-4)), .int ((-135))] rfl ?_
            refine kx_ic (tgt := 77) (kx_tk_dec rfl dM_worked) rfl (fun e41 => ?_) (fun e41 => ?_)
            · skip
              replace e41 : ((-135) : Int32) < (-4) := e41
              refine kx_rn dM_worked 2 82 [(0, .ref m), (1, .int (nI row)), (2, .int (nI fr)), (3, .int (nI n1)), (4, .int (nI k)), (5, .int ((-135)))] [.int ((-133)), .int ((-135))] rfl ?_
              refine kx_ic (tgt := 106) (kx_tk_dec rfl dM_worked) rfl (fun e82 => ?_) (fun e82 => ?_)
              · skip
                replace e82 : ¬ ((-135) : Int32) = (-133) := e82
                refine kx_rn dM_worked 2 110 [(0, .ref m), (1, .int (nI row)), (2, .int (nI fr)), (3, .int ((nI n1) + (-1))), (4, .int (nI k)), (5, .int ((-135)))] [.ref m] rfl ?_
                rw [show (nI n1) + (-1) = nI (n1 - 1) from kn_sa rfl rfl (by omega)]
                refine pM_48 (v := .ref (m + 12)) rfl (kx_tk_dec rfl dM_worked) (mh_o hm) rfl ?_
                refine kx_rn dM_worked 8 123 [(0, .ref m), (1, .int (nI row)), (2, .int (nI fr)), (3, .int (nI (n1 - 1))), (4, .int (nI k)), (5, .int ((-135)))] [.ref m, .int 35, .ref m, .int ((nI (n1 - 1)) - 1), .ref (m + 12)] rfl ?_
                rw [show (nI (n1 - 1)) - 1 = nI ((n1 - 1) - 1) from kn_su rfl rfl (by omega)]
                refine pM_48 (v := .ref (m + 12)) rfl (kx_tk_dec rfl dM_worked) (mh_o hm) rfl ?_
                refine kx_rn dM_worked 3 129 [(0, .ref m), (1, .int (nI row)), (2, .int (nI fr)), (3, .int (nI (n1 - 1))), (4, .int (nI k)), (5, .int ((-135)))] [.int ((nI (n1 - 1)) - 1), .ref (m + 12), .int 35, .ref m, .int (nI ((n1 - 1) - 1)), .ref (m + 12)] rfl ?_
                rw [show (nI (n1 - 1)) - 1 = nI ((n1 - 1) - 1) from kn_su rfl rfl (by omega)]
                refine mh_ld (k := 12) (x := F ((n1 - 1) - 1)) (i := (n1 - 1) - 1) rfl rfl (kx_tk_dec rfl dM_worked) hm (by show (n1 - 1) - 1 < 44; omega) ?_
                refine kx_rn dM_worked 1 131 [(0, .ref m), (1, .int (nI row)), (2, .int (nI fr)), (3, .int (nI (n1 - 1))), (4, .int (nI k)), (5, .int ((-135)))] [.ref m, .int (F ((n1 - 1) - 1)), .int 35, .ref m, .int (nI ((n1 - 1) - 1)), .ref (m + 12)] rfl ?_
                refine pM_48 (v := .ref (m + 12)) rfl (kx_tk_dec rfl dM_worked) (mh_o hm) rfl ?_
                refine kx_rn dM_worked 1 135 [(0, .ref m), (1, .int (nI row)), (2, .int (nI fr)), (3, .int (nI (n1 - 1))), (4, .int (nI k)), (5, .int ((-135)))] [.int (nI (n1 - 1)), .ref (m + 12), .int (F ((n1 - 1) - 1)), .int 35, .ref m, .int (nI ((n1 - 1) - 1)), .ref (m + 12)] rfl ?_
                refine mh_ld (k := 12) (x := F (n1 - 1)) (i := n1 - 1) rfl rfl (kx_tk_dec rfl dM_worked) hm (by show n1 - 1 < 44; omega) ?_
                refine cM_152 (as := [.int 35, .int (F ((n1 - 1) - 1)), .int (F (n1 - 1))]) (st := [.int (nI ((n1 - 1) - 1)), .ref (m + 12)]) (mc := 0) (ms := 0) (kc := 0) (ks := 0) rfl (kx_tk_dec rfl dM_worked) (mh_o hm) rfl rfl (Nat.le_of_ble_eq_true rfl) (cM_done (sg := 35) (dv := b) hst hm (by decide) rfl) (fun o h' hq => ?_)
                obtain ⟨rfl, rfl⟩ := hq
                show kx_w _ _ _ _ _ _ _ _ _ _ _
                rw [va_upup]
                refine mh_st (k := 12) (i := (n1 - 1) - 1) (A' := va_up A 12 (va_up F ((n1 - 1) - 1) (dvO 35 (F ((n1 - 1) - 1)) (F (n1 - 1))))) rfl (kx_tk_dec rfl dM_worked) hm (by show (n1 - 1) - 1 < 44; omega) (va_upup _ _ _ _) ?_
                refine kx_rn dM_worked 2 12 [(0, .ref m), (1, .int (nI row)), (2, .int (nI fr)), (3, .int (nI (n1 - 1))), (4, .int ((nI k) + 1)), (5, .int ((-135)))] [] rfl ?_
                rw [show (nI k) + 1 = nI (k + 1) from kn_ad rfl rfl]
                refine kx_lsub (lv' := [(0, .ref m), (1, .int (nI row)), (2, .int (nI fr)), (3, .int (nI (n1 - 1))), (4, .int (nI (k + 1)))]) (.cons₂ _ (.cons₂ _ (.cons₂ _ (.cons₂ _ (.cons₂ _ (.cons _ .slnil)))))) ?_
                refine ih (k + 1) (n1 - 1) _ _ (by omega) ?_
                show eS _ (P k) _ = _
                rw [he, hPk]
                rfl
              · skip
                replace e82 : ((-135) : Int32) = (-133) := e82
                exact absurd e82 (by decide)
            · skip
              replace e41 : ¬ ((-135) : Int32) < (-4) := e41
              exact absurd (by decide) e41
          · rw [hPk]
            refine kx_rn dM_worked 3 41 [(0, .ref m), (1, .int (nI row)), (2, .int (nI fr)), (3, .int (nI n1)), (4, .int (nI k)), (5, .int ((-160)))] [.int ((-4)), .int ((-160))] rfl ?_
            refine kx_ic (tgt := 77) (kx_tk_dec rfl dM_worked) rfl (fun e41 => ?_) (fun e41 => ?_)
            · skip
              replace e41 : ((-160) : Int32) < (-4) := e41
              refine kx_rn dM_worked 2 82 [(0, .ref m), (1, .int (nI row)), (2, .int (nI fr)), (3, .int (nI n1)), (4, .int (nI k)), (5, .int ((-160)))] [.int ((-133)), .int ((-160))] rfl ?_
              refine kx_ic (tgt := 106) (kx_tk_dec rfl dM_worked) rfl (fun e82 => ?_) (fun e82 => ?_)
              · skip
                replace e82 : ¬ ((-160) : Int32) = (-133) := e82
                refine kx_rn dM_worked 2 110 [(0, .ref m), (1, .int (nI row)), (2, .int (nI fr)), (3, .int ((nI n1) + (-1))), (4, .int (nI k)), (5, .int ((-160)))] [.ref m] rfl ?_
                rw [show (nI n1) + (-1) = nI (n1 - 1) from kn_sa rfl rfl (by omega)]
                refine pM_48 (v := .ref (m + 12)) rfl (kx_tk_dec rfl dM_worked) (mh_o hm) rfl ?_
                refine kx_rn dM_worked 8 123 [(0, .ref m), (1, .int (nI row)), (2, .int (nI fr)), (3, .int (nI (n1 - 1))), (4, .int (nI k)), (5, .int ((-160)))] [.ref m, .int 60, .ref m, .int ((nI (n1 - 1)) - 1), .ref (m + 12)] rfl ?_
                rw [show (nI (n1 - 1)) - 1 = nI ((n1 - 1) - 1) from kn_su rfl rfl (by omega)]
                refine pM_48 (v := .ref (m + 12)) rfl (kx_tk_dec rfl dM_worked) (mh_o hm) rfl ?_
                refine kx_rn dM_worked 3 129 [(0, .ref m), (1, .int (nI row)), (2, .int (nI fr)), (3, .int (nI (n1 - 1))), (4, .int (nI k)), (5, .int ((-160)))] [.int ((nI (n1 - 1)) - 1), .ref (m + 12), .int 60, .ref m, .int (nI ((n1 - 1) - 1)), .ref (m + 12)] rfl ?_
                rw [show (nI (n1 - 1)) - 1 = nI ((n1 - 1) - 1) from kn_su rfl rfl (by omega)]
                refine mh_ld (k := 12) (x := F ((n1 - 1) - 1)) (i := (n1 - 1) - 1) rfl rfl (kx_tk_dec rfl dM_worked) hm (by show (n1 - 1) - 1 < 44; omega) ?_
                refine kx_rn dM_worked 1 131 [(0, .ref m), (1, .int (nI row)), (2, .int (nI fr)), (3, .int (nI (n1 - 1))), (4, .int (nI k)), (5, .int ((-160)))] [.ref m, .int (F ((n1 - 1) - 1)), .int 60, .ref m, .int (nI ((n1 - 1) - 1)), .ref (m + 12)] rfl ?_
                refine pM_48 (v := .ref (m + 12)) rfl (kx_tk_dec rfl dM_worked) (mh_o hm) rfl ?_
                refine kx_rn dM_worked 1 135 [(0, .ref m), (1, .int (nI row)), (2, .int (nI fr)), (3, .int (nI (n1 - 1))), (4, .int (nI k)), (5, .int ((-160)))] [.int (nI (n1 - 1)), .ref (m + 12), .int (F ((n1 - 1) - 1)), .int 60, .ref m, .int (nI ((n1 - 1) - 1)), .ref (m + 12)] rfl ?_
                refine mh_ld (k := 12) (x := F (n1 - 1)) (i := n1 - 1) rfl rfl (kx_tk_dec rfl dM_worked) hm (by show n1 - 1 < 44; omega) ?_
                refine cM_152 (as := [.int 60, .int (F ((n1 - 1) - 1)), .int (F (n1 - 1))]) (st := [.int (nI ((n1 - 1) - 1)), .ref (m + 12)]) (mc := 0) (ms := 0) (kc := 0) (ks := 0) rfl (kx_tk_dec rfl dM_worked) (mh_o hm) rfl rfl (Nat.le_of_ble_eq_true rfl) (cM_done (sg := 60) (dv := b) hst hm (by decide) rfl) (fun o h' hq => ?_)
                obtain ⟨rfl, rfl⟩ := hq
                show kx_w _ _ _ _ _ _ _ _ _ _ _
                rw [va_upup]
                refine mh_st (k := 12) (i := (n1 - 1) - 1) (A' := va_up A 12 (va_up F ((n1 - 1) - 1) (dvO 60 (F ((n1 - 1) - 1)) (F (n1 - 1))))) rfl (kx_tk_dec rfl dM_worked) hm (by show (n1 - 1) - 1 < 44; omega) (va_upup _ _ _ _) ?_
                refine kx_rn dM_worked 2 12 [(0, .ref m), (1, .int (nI row)), (2, .int (nI fr)), (3, .int (nI (n1 - 1))), (4, .int ((nI k) + 1)), (5, .int ((-160)))] [] rfl ?_
                rw [show (nI k) + 1 = nI (k + 1) from kn_ad rfl rfl]
                refine kx_lsub (lv' := [(0, .ref m), (1, .int (nI row)), (2, .int (nI fr)), (3, .int (nI (n1 - 1))), (4, .int (nI (k + 1)))]) (.cons₂ _ (.cons₂ _ (.cons₂ _ (.cons₂ _ (.cons₂ _ (.cons _ .slnil)))))) ?_
                refine ih (k + 1) (n1 - 1) _ _ (by omega) ?_
                show eS _ (P k) _ = _
                rw [he, hPk]
                rfl
              · skip
                replace e82 : ((-160) : Int32) = (-133) := e82
                exact absurd e82 (by decide)
            · skip
              replace e41 : ¬ ((-160) : Int32) < (-4) := e41
              exact absurd (by decide) e41
          · rw [hPk]
            refine kx_rn dM_worked 3 41 [(0, .ref m), (1, .int (nI row)), (2, .int (nI fr)), (3, .int (nI n1)), (4, .int (nI k)), (5, .int ((-162)))] [.int ((-4)), .int ((-162))] rfl ?_
            refine kx_ic (tgt := 77) (kx_tk_dec rfl dM_worked) rfl (fun e41 => ?_) (fun e41 => ?_)
            · skip
              replace e41 : ((-162) : Int32) < (-4) := e41
              refine kx_rn dM_worked 2 82 [(0, .ref m), (1, .int (nI row)), (2, .int (nI fr)), (3, .int (nI n1)), (4, .int (nI k)), (5, .int ((-162)))] [.int ((-133)), .int ((-162))] rfl ?_
              refine kx_ic (tgt := 106) (kx_tk_dec rfl dM_worked) rfl (fun e82 => ?_) (fun e82 => ?_)
              · skip
                replace e82 : ¬ ((-162) : Int32) = (-133) := e82
                refine kx_rn dM_worked 2 110 [(0, .ref m), (1, .int (nI row)), (2, .int (nI fr)), (3, .int ((nI n1) + (-1))), (4, .int (nI k)), (5, .int ((-162)))] [.ref m] rfl ?_
                rw [show (nI n1) + (-1) = nI (n1 - 1) from kn_sa rfl rfl (by omega)]
                refine pM_48 (v := .ref (m + 12)) rfl (kx_tk_dec rfl dM_worked) (mh_o hm) rfl ?_
                refine kx_rn dM_worked 8 123 [(0, .ref m), (1, .int (nI row)), (2, .int (nI fr)), (3, .int (nI (n1 - 1))), (4, .int (nI k)), (5, .int ((-162)))] [.ref m, .int 62, .ref m, .int ((nI (n1 - 1)) - 1), .ref (m + 12)] rfl ?_
                rw [show (nI (n1 - 1)) - 1 = nI ((n1 - 1) - 1) from kn_su rfl rfl (by omega)]
                refine pM_48 (v := .ref (m + 12)) rfl (kx_tk_dec rfl dM_worked) (mh_o hm) rfl ?_
                refine kx_rn dM_worked 3 129 [(0, .ref m), (1, .int (nI row)), (2, .int (nI fr)), (3, .int (nI (n1 - 1))), (4, .int (nI k)), (5, .int ((-162)))] [.int ((nI (n1 - 1)) - 1), .ref (m + 12), .int 62, .ref m, .int (nI ((n1 - 1) - 1)), .ref (m + 12)] rfl ?_
                rw [show (nI (n1 - 1)) - 1 = nI ((n1 - 1) - 1) from kn_su rfl rfl (by omega)]
                refine mh_ld (k := 12) (x := F ((n1 - 1) - 1)) (i := (n1 - 1) - 1) rfl rfl (kx_tk_dec rfl dM_worked) hm (by show (n1 - 1) - 1 < 44; omega) ?_
                refine kx_rn dM_worked 1 131 [(0, .ref m), (1, .int (nI row)), (2, .int (nI fr)), (3, .int (nI (n1 - 1))), (4, .int (nI k)), (5, .int ((-162)))] [.ref m, .int (F ((n1 - 1) - 1)), .int 62, .ref m, .int (nI ((n1 - 1) - 1)), .ref (m + 12)] rfl ?_
                refine pM_48 (v := .ref (m + 12)) rfl (kx_tk_dec rfl dM_worked) (mh_o hm) rfl ?_
                refine kx_rn dM_worked 1 135 [(0, .ref m), (1, .int (nI row)), (2, .int (nI fr)), (3, .int (nI (n1 - 1))), (4, .int (nI k)), (5, .int ((-162)))] [.int (nI (n1 - 1)), .ref (m + 12), .int (F ((n1 - 1) - 1)), .int 62, .ref m, .int (nI ((n1 - 1) - 1)), .ref (m + 12)] rfl ?_
                refine mh_ld (k := 12) (x := F (n1 - 1)) (i := n1 - 1) rfl rfl (kx_tk_dec rfl dM_worked) hm (by show n1 - 1 < 44; omega) ?_
                refine cM_152 (as := [.int 62, .int (F ((n1 - 1) - 1)), .int (F (n1 - 1))]) (st := [.int (nI ((n1 - 1) - 1)), .ref (m + 12)]) (mc := 0) (ms := 0) (kc := 0) (ks := 0) rfl (kx_tk_dec rfl dM_worked) (mh_o hm) rfl rfl (Nat.le_of_ble_eq_true rfl) (cM_done (sg := 62) (dv := b) hst hm (by decide) rfl) (fun o h' hq => ?_)
                obtain ⟨rfl, rfl⟩ := hq
                show kx_w _ _ _ _ _ _ _ _ _ _ _
                rw [va_upup]
                refine mh_st (k := 12) (i := (n1 - 1) - 1) (A' := va_up A 12 (va_up F ((n1 - 1) - 1) (dvO 62 (F ((n1 - 1) - 1)) (F (n1 - 1))))) rfl (kx_tk_dec rfl dM_worked) hm (by show (n1 - 1) - 1 < 44; omega) (va_upup _ _ _ _) ?_
                refine kx_rn dM_worked 2 12 [(0, .ref m), (1, .int (nI row)), (2, .int (nI fr)), (3, .int (nI (n1 - 1))), (4, .int ((nI k) + 1)), (5, .int ((-162)))] [] rfl ?_
                rw [show (nI k) + 1 = nI (k + 1) from kn_ad rfl rfl]
                refine kx_lsub (lv' := [(0, .ref m), (1, .int (nI row)), (2, .int (nI fr)), (3, .int (nI (n1 - 1))), (4, .int (nI (k + 1)))]) (.cons₂ _ (.cons₂ _ (.cons₂ _ (.cons₂ _ (.cons₂ _ (.cons _ .slnil)))))) ?_
                refine ih (k + 1) (n1 - 1) _ _ (by omega) ?_
                show eS _ (P k) _ = _
                rw [he, hPk]
                rfl
              · skip
                replace e82 : ((-162) : Int32) = (-133) := e82
                exact absurd e82 (by decide)
            · skip
              replace e41 : ¬ ((-162) : Int32) < (-4) := e41
              exact absurd (by decide) e41
          · rw [hPk]
            refine kx_rn dM_worked 3 41 [(0, .ref m), (1, .int (nI row)), (2, .int (nI fr)), (3, .int (nI n1)), (4, .int (nI k)), (5, .int ((-138)))] [.int ((-4)), .int ((-138))] rfl ?_
            refine kx_ic (tgt := 77) (kx_tk_dec rfl dM_worked) rfl (fun e41 => ?_) (fun e41 => ?_)
            · skip
              replace e41 : ((-138) : Int32) < (-4) := e41
              refine kx_rn dM_worked 2 82 [(0, .ref m), (1, .int (nI row)), (2, .int (nI fr)), (3, .int (nI n1)), (4, .int (nI k)), (5, .int ((-138)))] [.int ((-133)), .int ((-138))] rfl ?_
              refine kx_ic (tgt := 106) (kx_tk_dec rfl dM_worked) rfl (fun e82 => ?_) (fun e82 => ?_)
              · skip
                replace e82 : ¬ ((-138) : Int32) = (-133) := e82
                refine kx_rn dM_worked 2 110 [(0, .ref m), (1, .int (nI row)), (2, .int (nI fr)), (3, .int ((nI n1) + (-1))), (4, .int (nI k)), (5, .int ((-138)))] [.ref m] rfl ?_
                rw [show (nI n1) + (-1) = nI (n1 - 1) from kn_sa rfl rfl (by omega)]
                refine pM_48 (v := .ref (m + 12)) rfl (kx_tk_dec rfl dM_worked) (mh_o hm) rfl ?_
                refine kx_rn dM_worked 8 123 [(0, .ref m), (1, .int (nI row)), (2, .int (nI fr)), (3, .int (nI (n1 - 1))), (4, .int (nI k)), (5, .int ((-138)))] [.ref m, .int 38, .ref m, .int ((nI (n1 - 1)) - 1), .ref (m + 12)] rfl ?_
                rw [show (nI (n1 - 1)) - 1 = nI ((n1 - 1) - 1) from kn_su rfl rfl (by omega)]
                refine pM_48 (v := .ref (m + 12)) rfl (kx_tk_dec rfl dM_worked) (mh_o hm) rfl ?_
                refine kx_rn dM_worked 3 129 [(0, .ref m), (1, .int (nI row)), (2, .int (nI fr)), (3, .int (nI (n1 - 1))), (4, .int (nI k)), (5, .int ((-138)))] [.int ((nI (n1 - 1)) - 1), .ref (m + 12), .int 38, .ref m, .int (nI ((n1 - 1) - 1)), .ref (m + 12)] rfl ?_
                rw [show (nI (n1 - 1)) - 1 = nI ((n1 - 1) - 1) from kn_su rfl rfl (by omega)]
                refine mh_ld (k := 12) (x := F ((n1 - 1) - 1)) (i := (n1 - 1) - 1) rfl rfl (kx_tk_dec rfl dM_worked) hm (by show (n1 - 1) - 1 < 44; omega) ?_
                refine kx_rn dM_worked 1 131 [(0, .ref m), (1, .int (nI row)), (2, .int (nI fr)), (3, .int (nI (n1 - 1))), (4, .int (nI k)), (5, .int ((-138)))] [.ref m, .int (F ((n1 - 1) - 1)), .int 38, .ref m, .int (nI ((n1 - 1) - 1)), .ref (m + 12)] rfl ?_
                refine pM_48 (v := .ref (m + 12)) rfl (kx_tk_dec rfl dM_worked) (mh_o hm) rfl ?_
                refine kx_rn dM_worked 1 135 [(0, .ref m), (1, .int (nI row)), (2, .int (nI fr)), (3, .int (nI (n1 - 1))), (4, .int (nI k)), (5, .int ((-138)))] [.int (nI (n1 - 1)), .ref (m + 12), .int (F ((n1 - 1) - 1)), .int 38, .ref m, .int (nI ((n1 - 1) - 1)), .ref (m + 12)] rfl ?_
                refine mh_ld (k := 12) (x := F (n1 - 1)) (i := n1 - 1) rfl rfl (kx_tk_dec rfl dM_worked) hm (by show n1 - 1 < 44; omega) ?_
                refine cM_152 (as := [.int 38, .int (F ((n1 - 1) - 1)), .int (F (n1 - 1))]) (st := [.int (nI ((n1 - 1) - 1)), .ref (m + 12)]) (mc := 0) (ms := 0) (kc := 0) (ks := 0) rfl (kx_tk_dec rfl dM_worked) (mh_o hm) rfl rfl (Nat.le_of_ble_eq_true rfl) (cM_done (sg := 38) (dv := b) hst hm (by decide) rfl) (fun o h' hq => ?_)
                obtain ⟨rfl, rfl⟩ := hq
                show kx_w _ _ _ _ _ _ _ _ _ _ _
                rw [va_upup]
                refine mh_st (k := 12) (i := (n1 - 1) - 1) (A' := va_up A 12 (va_up F ((n1 - 1) - 1) (dvO 38 (F ((n1 - 1) - 1)) (F (n1 - 1))))) rfl (kx_tk_dec rfl dM_worked) hm (by show (n1 - 1) - 1 < 44; omega) (va_upup _ _ _ _) ?_
                refine kx_rn dM_worked 2 12 [(0, .ref m), (1, .int (nI row)), (2, .int (nI fr)), (3, .int (nI (n1 - 1))), (4, .int ((nI k) + 1)), (5, .int ((-138)))] [] rfl ?_
                rw [show (nI k) + 1 = nI (k + 1) from kn_ad rfl rfl]
                refine kx_lsub (lv' := [(0, .ref m), (1, .int (nI row)), (2, .int (nI fr)), (3, .int (nI (n1 - 1))), (4, .int (nI (k + 1)))]) (.cons₂ _ (.cons₂ _ (.cons₂ _ (.cons₂ _ (.cons₂ _ (.cons _ .slnil)))))) ?_
                refine ih (k + 1) (n1 - 1) _ _ (by omega) ?_
                show eS _ (P k) _ = _
                rw [he, hPk]
                rfl
              · skip
                replace e82 : ((-138) : Int32) = (-133) := e82
                exact absurd e82 (by decide)
            · skip
              replace e41 : ¬ ((-138) : Int32) < (-4) := e41
              exact absurd (by decide) e41
          · rw [hPk]
            refine kx_rn dM_worked 3 41 [(0, .ref m), (1, .int (nI row)), (2, .int (nI fr)), (3, .int (nI n1)), (4, .int (nI k)), (5, .int ((-224)))] [.int ((-4)), .int ((-224))] rfl ?_
            refine kx_ic (tgt := 77) (kx_tk_dec rfl dM_worked) rfl (fun e41 => ?_) (fun e41 => ?_)
            · skip
              replace e41 : ((-224) : Int32) < (-4) := e41
              refine kx_rn dM_worked 2 82 [(0, .ref m), (1, .int (nI row)), (2, .int (nI fr)), (3, .int (nI n1)), (4, .int (nI k)), (5, .int ((-224)))] [.int ((-133)), .int ((-224))] rfl ?_
              refine kx_ic (tgt := 106) (kx_tk_dec rfl dM_worked) rfl (fun e82 => ?_) (fun e82 => ?_)
              · skip
                replace e82 : ¬ ((-224) : Int32) = (-133) := e82
                refine kx_rn dM_worked 2 110 [(0, .ref m), (1, .int (nI row)), (2, .int (nI fr)), (3, .int ((nI n1) + (-1))), (4, .int (nI k)), (5, .int ((-224)))] [.ref m] rfl ?_
                rw [show (nI n1) + (-1) = nI (n1 - 1) from kn_sa rfl rfl (by omega)]
                refine pM_48 (v := .ref (m + 12)) rfl (kx_tk_dec rfl dM_worked) (mh_o hm) rfl ?_
                refine kx_rn dM_worked 8 123 [(0, .ref m), (1, .int (nI row)), (2, .int (nI fr)), (3, .int (nI (n1 - 1))), (4, .int (nI k)), (5, .int ((-224)))] [.ref m, .int 124, .ref m, .int ((nI (n1 - 1)) - 1), .ref (m + 12)] rfl ?_
                rw [show (nI (n1 - 1)) - 1 = nI ((n1 - 1) - 1) from kn_su rfl rfl (by omega)]
                refine pM_48 (v := .ref (m + 12)) rfl (kx_tk_dec rfl dM_worked) (mh_o hm) rfl ?_
                refine kx_rn dM_worked 3 129 [(0, .ref m), (1, .int (nI row)), (2, .int (nI fr)), (3, .int (nI (n1 - 1))), (4, .int (nI k)), (5, .int ((-224)))] [.int ((nI (n1 - 1)) - 1), .ref (m + 12), .int 124, .ref m, .int (nI ((n1 - 1) - 1)), .ref (m + 12)] rfl ?_
                rw [show (nI (n1 - 1)) - 1 = nI ((n1 - 1) - 1) from kn_su rfl rfl (by omega)]
                refine mh_ld (k := 12) (x := F ((n1 - 1) - 1)) (i := (n1 - 1) - 1) rfl rfl (kx_tk_dec rfl dM_worked) hm (by show (n1 - 1) - 1 < 44; omega) ?_
                refine kx_rn dM_worked 1 131 [(0, .ref m), (1, .int (nI row)), (2, .int (nI fr)), (3, .int (nI (n1 - 1))), (4, .int (nI k)), (5, .int ((-224)))] [.ref m, .int (F ((n1 - 1) - 1)), .int 124, .ref m, .int (nI ((n1 - 1) - 1)), .ref (m + 12)] rfl ?_
                refine pM_48 (v := .ref (m + 12)) rfl (kx_tk_dec rfl dM_worked) (mh_o hm) rfl ?_
                refine kx_rn dM_worked 1 135 [(0, .ref m), (1, .int (nI row)), (2, .int (nI fr)), (3, .int (nI (n1 - 1))), (4, .int (nI k)), (5, .int ((-224)))] [.int (nI (n1 - 1)), .ref (m + 12), .int (F ((n1 - 1) - 1)), .int 124, .ref m, .int (nI ((n1 - 1) - 1)), .ref (m + 12)] rfl ?_
                refine mh_ld (k := 12) (x := F (n1 - 1)) (i := n1 - 1) rfl rfl (kx_tk_dec rfl dM_worked) hm (by show n1 - 1 < 44; omega) ?_
                refine cM_152 (as := [.int 124, .int (F ((n1 - 1) - 1)), .int (F (n1 - 1))]) (st := [.int (nI ((n1 - 1) - 1)), .ref (m + 12)]) (mc := 0) (ms := 0) (kc := 0) (ks := 0) rfl (kx_tk_dec rfl dM_worked) (mh_o hm) rfl rfl (Nat.le_of_ble_eq_true rfl) (cM_done (sg := 124) (dv := b) hst hm (by decide) rfl) (fun o h' hq => ?_)
                obtain ⟨rfl, rfl⟩ := hq
                show kx_w _ _ _ _ _ _ _ _ _ _ _
                rw [va_upup]
                refine mh_st (k := 12) (i := (n1 - 1) - 1) (A' := va_up A 12 (va_up F ((n1 - 1) - 1) (dvO 124 (F ((n1 - 1) - 1)) (F (n1 - 1))))) rfl (kx_tk_dec rfl dM_worked) hm (by show (n1 - 1) - 1 < 44; omega) (va_upup _ _ _ _) ?_
                refine kx_rn dM_worked 2 12 [(0, .ref m), (1, .int (nI row)), (2, .int (nI fr)), (3, .int (nI (n1 - 1))), (4, .int ((nI k) + 1)), (5, .int ((-224)))] [] rfl ?_
                rw [show (nI k) + 1 = nI (k + 1) from kn_ad rfl rfl]
                refine kx_lsub (lv' := [(0, .ref m), (1, .int (nI row)), (2, .int (nI fr)), (3, .int (nI (n1 - 1))), (4, .int (nI (k + 1)))]) (.cons₂ _ (.cons₂ _ (.cons₂ _ (.cons₂ _ (.cons₂ _ (.cons _ .slnil)))))) ?_
                refine ih (k + 1) (n1 - 1) _ _ (by omega) ?_
                show eS _ (P k) _ = _
                rw [he, hPk]
                rfl
              · skip
                replace e82 : ((-224) : Int32) = (-133) := e82
                exact absurd e82 (by decide)
            · skip
              replace e41 : ¬ ((-224) : Int32) < (-4) := e41
              exact absurd (by decide) e41
  refine kx_rn dM_worked 3 3 [(0, .ref m), (1, .int (nI row)), (2, .int (nI fr)), (3, .int 0)] [.ref m] rfl ?_
  refine pM_48 (v := .ref (m + 12)) rfl (kx_tk_dec rfl dM_worked) (mh_o hm) rfl ?_
  refine kx_rn dM_worked 2 8 [(0, .ref m), (1, .int (nI row)), (2, .int (nI fr)), (3, .int 0)] [.int 1, .int 0, .ref (m + 12)] rfl ?_
  refine mh_st (k := 12) (i := 0) (A' := va_up A 12 (va_up (A 12) 0 1)) rfl (kx_tk_dec rfl dM_worked) hm (by show 0 < 44; omega) rfl ?_
  refine kx_rn dM_worked 2 12 [(0, .ref m), (1, .int (nI row)), (2, .int (nI fr)), (3, .int 0), (4, .int 0)] [] rfl ?_
  refine kx_heq (congrArg (fun z => mH h0 m z (va_up A 12 (va_up (A 12) 0 1))) (show S = va_up S 22 (b01 dv) by rw [← hdv, va_upsame])) ?_
  exact loop sz 0 0 dv _ (by omega) rfl
end KM7
