/-! ===== the reference: versions ===== -/
section KM2
variable {G : kx_G} {l : Launch} {d : Nat} {h0 : kx_H} {m : Nat} {S : Nat → Int32} {A : Nat → Nat → Int32}
theorem va_nIp {F : Nat → Int32} {U : Nat → Nat} (h : ∀ v, F v = nI (U v)) (i x : Nat) : ∀ v, va_up F i (nI x) v = nI (va_up U i x v) := by
  intro v
  simp only [va_up]
  split
  · rfl
  · exact h v
/-- the highest of 1 .. n with f, or 0 -/
def hw (f : Nat → Bool) : Nat → Nat
  | 0 => 0
  | n + 1 => if f (n + 1) then n + 1 else hw f n
theorem hw_le (f : Nat → Bool) : ∀ n, hw f n ≤ n
  | 0 => Nat.le_refl _
  | n + 1 => by
    simp only [hw]
    split
    · exact Nat.le_refl _
    · exact Nat.le_succ_of_le (hw_le f n)
theorem hw_congr {f g : Nat → Bool} : ∀ {n : Nat}, (∀ i, 1 ≤ i → i ≤ n → f i = g i) → hw f n = hw g n
  | 0, _ => rfl
  | n + 1, h => by
    simp only [hw]
    rw [hw_congr (n := n) (fun i h1 h2 => h i h1 (by omega)), h (n + 1) (by omega) (by omega)]
theorem hw_at {f : Nat → Bool} : ∀ {n : Nat}, hw f n ≠ 0 → f (hw f n) = true
  | 0, h => absurd rfl h
  | n + 1, h => by
    simp only [hw] at h ⊢
    split
    · assumption
    · rename_i e; rw [if_neg e] at h; exact hw_at h
def heldJ (low : Nat) : Nat → Int32
  | 0 => nI low - 1
  | w + 1 => nI (low + w)
def heldR (low : Nat) : Nat → Int32
  | 0 => -1
  | w + 1 => nI (low + w)
theorem heldJ_dec {low w : Nat} : nI (low + w) + (-1) = heldJ low w := by
  cases w with
  | zero => show nI low + (-1) = nI low - 1; rw [Int32.sub_eq_add_neg]
  | succ w => show nI (low + w + 1) + (-1) = nI (low + w); rw [← Int32.sub_eq_add_neg]; exact nI_pred _
theorem kn_plt {n : Nat} (h : n < 2147483648) : nI n - 1 < nI n := by
  cases n with
  | zero => decide
  | succ n => rw [nI_pred]; exact nI_lt (by omega) (by omega)
/-- what stays when the writer tn's versions go -/
def vBrk (V : Nat → Nat) (tn v : Nat) : Nat := if v % 40 = tn - 1 ∧ v < 2880 then 0 else V v
theorem cM_breakUp {tn : Nat} (hst : l.stackTraces = false) (hm : mOk G h0 m) (ht1 : 1 ≤ tn) (ht2 : tn ≤ 40) {V : Nat → Nat} (hV : ∀ v, A 4 v = nI (V v)) (hV2 : ∀ v, V v < 256) :
    kx_c G l mM_breakUp d 0 0 [.ref m, .int (nI tn)] (mH h0 m S A) (fun o h' => o = .returned (some (.int (nI (cnt (fun j => decide (¬ V (40 * j + (tn - 1)) = 0)) 72)))) ∧ h' = mH h0 m S (va_up (va_up A 6 (va_up (A 6) tn 3)) 4 (fun v => nI (vBrk V tn v)))) := by
  refine kx_in (by decide +kernel) (Nat.le_of_ble_eq_true rfl) hst ?_
  have loop : ∀ n (j v c : Nat) (F : Nat → Int32) (U : Nat → Nat), j + n = 72 → v = 40 * j + (tn - 1) → c = cnt (fun j => decide (¬ V (40 * j + (tn - 1)) = 0)) j → (∀ v, F v = nI (U v)) → (∀ i, U i = if i % 40 = tn - 1 ∧ i < 40 * j then 0 else V i) → (∀ i, U i < 256) → kx_w G l mM_breakUp d (fun o h' => o = .returned (some (.int (nI (cnt (fun j => decide (¬ V (40 * j + (tn - 1)) = 0)) 72)))) ∧ h' = mH h0 m S (va_up (va_up A 6 (va_up (A 6) tn 3)) 4 (fun v => nI (vBrk V tn v)))) 0 0 13 [(0, .ref m), (1, .int (nI tn)), (2, .int (nI c)), (3, .int (nI v))] [] (mH h0 m S (va_up (va_up A 6 (va_up (A 6) tn 3)) 4 F)) := by
    intro n
    induction n with
    | zero =>
      intro j v c F U hj hv hc hF hU hU2
      refine kx_rn dM_breakUp 2 17 [(0, .ref m), (1, .int (nI tn)), (2, .int (nI c)), (3, .int (nI v))] [.int 2880, .int (nI v)] rfl ?_
      refine kx_ic (tgt := 45) (kx_tk_dec rfl dM_breakUp) rfl (fun e17 => ?_) (fun e17 => ?_)
      · skip
        replace e17 : 2880 ≤ nI v := e17
        replace e17 : 2880 ≤ v := (nI_leI (a := 2880) (b := v) (by omega) (by omega)).mp e17
        refine kx_rn dM_breakUp 1 46 [(0, .ref m), (1, .int (nI tn)), (2, .int (nI c)), (3, .int (nI v))] [.int (nI c)] rfl ?_
        refine kx_ret (ty := .int) (kx_tk_dec rfl dM_breakUp) rfl rfl ?_
        refine ⟨by rw [hc, show j = 72 by omega], ?_⟩
        have z : F = fun v => nI (vBrk V tn v) := by
          funext i
          rw [hF, hU]
          rw [show j = 72 by omega]
          rfl
        rw [z]
      · skip
        replace e17 : ¬ 2880 ≤ nI v := e17
        replace e17 : ¬ 2880 ≤ v := fun z => e17 ((nI_leI (a := 2880) (b := v) (by omega) (by omega)).mpr z)
        exfalso; omega
    | succ n ih =>
      intro j v c F U hj hv hc hF hU hU2
      have hcl := cnt_le (fun j => decide (¬ V (40 * j + (tn - 1)) = 0)) j
      refine kx_rn dM_breakUp 2 17 [(0, .ref m), (1, .int (nI tn)), (2, .int (nI c)), (3, .int (nI v))] [.int 2880, .int (nI v)] rfl ?_
      refine kx_ic (tgt := 45) (kx_tk_dec rfl dM_breakUp) rfl (fun e17 => ?_) (fun e17 => ?_)
      · skip
        replace e17 : 2880 ≤ nI v := e17
        replace e17 : 2880 ≤ v := (nI_leI (a := 2880) (b := v) (by omega) (by omega)).mp e17
        exfalso; omega
      · skip
        replace e17 : ¬ 2880 ≤ nI v := e17
        replace e17 : ¬ 2880 ≤ v := fun z => e17 ((nI_leI (a := 2880) (b := v) (by omega) (by omega)).mpr z)
        refine kx_rn dM_breakUp 1 21 [(0, .ref m), (1, .int (nI tn)), (2, .int (nI c)), (3, .int (nI v))] [.ref m] rfl ?_
        refine pM_19 (v := .ref (m + 4)) rfl (kx_tk_dec rfl dM_breakUp) (mh_o hm) rfl ?_
        refine kx_rn dM_breakUp 1 25 [(0, .ref m), (1, .int (nI tn)), (2, .int (nI c)), (3, .int (nI v))] [.int (nI v), .ref (m + 4)] rfl ?_
        refine mh_ld (k := 4) (x := F v) (i := v) rfl rfl (kx_tk_dec rfl dM_breakUp) hm (by show v < 2880; omega) ?_
        rw [hF v]
        have := hU2 v
        refine kx_if (tgt := 32) (kx_tk_dec rfl dM_breakUp) rfl (fun e26 => ?_) (fun e26 => ?_)
        · skip
          replace e26 : nI (U v) = 0 := e26
          replace e26 : U v = 0 := (nI_eq (a := U v) (b := 0) (by omega) (by omega)).mp e26
          refine kx_rn dM_breakUp 1 33 [(0, .ref m), (1, .int (nI tn)), (2, .int (nI c)), (3, .int (nI v))] [.ref m] rfl ?_
          refine pM_19 (v := .ref (m + 4)) rfl (kx_tk_dec rfl dM_breakUp) (mh_o hm) rfl ?_
          refine kx_rn dM_breakUp 2 38 [(0, .ref m), (1, .int (nI tn)), (2, .int (nI c)), (3, .int (nI v))] [.int 0, .int (nI v), .ref (m + 4)] rfl ?_
          refine mh_st (k := 4) (i := v) (A' := va_up (va_up A 6 (va_up (A 6) tn 3)) 4 (va_up F v 0)) rfl (kx_tk_dec rfl dM_breakUp) hm (by show v < 2880; omega) (va_upup _ _ _ _) ?_
          refine kx_rn dM_breakUp 2 13 [(0, .ref m), (1, .int (nI tn)), (2, .int (nI c)), (3, .int ((nI v) + 40))] [] rfl ?_
          rw [show (nI v) + 40 = nI (v + 40) from kn_ad rfl rfl]
          refine ih (j + 1) (v + 40) c (va_up F v 0) (va_up U v 0) (by omega) (by omega) ?_ (va_nIp hF v 0) ?_ ?_
          · have z : U v = V v := by rw [hU, if_neg (by omega)]
            exact cnt_n hc (by show decide _ = false; rw [decide_eq_false_iff_not, ← hv, ← z]; exact not_not_intro e26)
          · intro i
            simp only [va_up]
            by_cases z : i = v
            · rw [if_pos z, if_pos (by omega)]
            · rw [if_neg z, hU]
              by_cases z2 : i % 40 = tn - 1 ∧ i < 40 * j
              · rw [if_pos z2, if_pos (by omega)]
              · rw [if_neg z2, if_neg (by omega)]
          · intro i
            simp only [va_up]
            split
            · decide
            · exact hU2 i
        · skip
          replace e26 : ¬ nI (U v) = 0 := e26
          replace e26 : ¬ U v = 0 := fun z => e26 ((nI_eq (a := U v) (b := 0) (by omega) (by omega)).mpr z)
          refine kx_rn dM_breakUp 2 33 [(0, .ref m), (1, .int (nI tn)), (2, .int ((nI c) + 1)), (3, .int (nI v))] [.ref m] rfl ?_
          rw [show (nI c) + 1 = nI (c + 1) from kn_ad rfl rfl]
          refine pM_19 (v := .ref (m + 4)) rfl (kx_tk_dec rfl dM_breakUp) (mh_o hm) rfl ?_
          refine kx_rn dM_breakUp 2 38 [(0, .ref m), (1, .int (nI tn)), (2, .int (nI (c + 1))), (3, .int (nI v))] [.int 0, .int (nI v), .ref (m + 4)] rfl ?_
          refine mh_st (k := 4) (i := v) (A' := va_up (va_up A 6 (va_up (A 6) tn 3)) 4 (va_up F v 0)) rfl (kx_tk_dec rfl dM_breakUp) hm (by show v < 2880; omega) (va_upup _ _ _ _) ?_
          refine kx_rn dM_breakUp 2 13 [(0, .ref m), (1, .int (nI tn)), (2, .int (nI (c + 1))), (3, .int ((nI v) + 40))] [] rfl ?_
          rw [show (nI v) + 40 = nI (v + 40) from kn_ad rfl rfl]
          refine ih (j + 1) (v + 40) (c + 1) (va_up F v 0) (va_up U v 0) (by omega) (by omega) ?_ (va_nIp hF v 0) ?_ ?_
          · have z : U v = V v := by rw [hU, if_neg (by omega)]
            exact cnt_y hc (by show decide _ = true; rw [decide_eq_true_eq, ← hv, ← z]; exact e26)
          · intro i
            simp only [va_up]
            by_cases z : i = v
            · rw [if_pos z, if_pos (by omega)]
            · rw [if_neg z, hU]
              by_cases z2 : i % 40 = tn - 1 ∧ i < 40 * j
              · rw [if_pos z2, if_pos (by omega)]
              · rw [if_neg z2, if_neg (by omega)]
          · intro i
            simp only [va_up]
            split
            · decide
            · exact hU2 i
  refine kx_rn dM_breakUp 1 1 [(0, .ref m), (1, .int (nI tn))] [.ref m] rfl ?_
  refine pM_25 (v := .ref (m + 6)) rfl (kx_tk_dec rfl dM_breakUp) (mh_o hm) rfl ?_
  refine kx_rn dM_breakUp 2 6 [(0, .ref m), (1, .int (nI tn))] [.int 3, .int (nI tn), .ref (m + 6)] rfl ?_
  refine mh_st (k := 6) (i := tn) (A' := va_up A 6 (va_up (A 6) tn 3)) rfl (kx_tk_dec rfl dM_breakUp) hm (by show tn < 41; omega) rfl ?_
  refine kx_rn dM_breakUp 6 13 [(0, .ref m), (1, .int (nI tn)), (2, .int 0), (3, .int ((nI tn) - 1))] [] rfl ?_
  rw [show (nI tn) - 1 = nI (tn - 1) from kn_su rfl rfl (by omega)]
  refine kx_heq (congrArg (mH h0 m S) (va_upsame (va_up A 6 (va_up (A 6) tn 3)) 4).symm) ?_
  exact loop 72 0 (tn - 1) 0 _ V rfl (by omega) rfl hV (fun i => by rw [if_neg (by omega)]) hV2
theorem heldR_z {low w : Nat} (h : w = 0) : heldR low w = -1 := by rw [h]; rfl
theorem cM_held {tn kn rn : Nat} (hst : l.stackTraces = false) (hm : mOk G h0 m) (ht1 : 1 ≤ tn) (ht2 : tn ≤ 40) (hk : kn < 3) (hr : rn < 24) {V : Nat → Nat} (hV : ∀ v, A 4 v = nI (V v)) (hV2 : ∀ v, V v < 256) :
    kx_c G l mM_held d 0 0 [.ref m, .int (nI tn), .int (nI kn), .int (nI rn)] (mH h0 m S A) (fun o h' => o = .returned (some (.int (heldR (40 * (24 * kn + rn)) (hw (fun w => decide (¬ V (40 * (24 * kn + rn) + w - 1) = 0)) tn)))) ∧ h' = mH h0 m S A) := by
  refine kx_in (by decide +kernel) (Nat.le_of_ble_eq_true rfl) hst ?_
  have loop : ∀ n : Nat, n ≤ tn → hw (fun w => decide (¬ V (40 * (24 * kn + rn) + w - 1) = 0)) tn = hw (fun w => decide (¬ V (40 * (24 * kn + rn) + w - 1) = 0)) n → kx_w G l mM_held d (fun o h' => o = .returned (some (.int (heldR (40 * (24 * kn + rn)) (hw (fun w => decide (¬ V (40 * (24 * kn + rn) + w - 1) = 0)) tn)))) ∧ h' = mH h0 m S A) 0 0 26 [(0, .ref m), (1, .int (nI tn)), (2, .int (nI kn)), (3, .int (nI rn)), (4, .int (heldJ (40 * (24 * kn + rn)) n)), (5, .int (nI (40 * (24 * kn + rn))))] [] (mH h0 m S A) := by
    intro n
    induction n with
    | zero =>
      intro hw1 hw0
      refine kx_rn dM_held 2 30 [(0, .ref m), (1, .int (nI tn)), (2, .int (nI kn)), (3, .int (nI rn)), (4, .int (nI (40 * (24 * kn + rn)) - 1)), (5, .int (nI (40 * (24 * kn + rn))))] [.int (nI (40 * (24 * kn + rn))), .int (nI (40 * (24 * kn + rn)) - 1)] rfl ?_
      refine kx_ic (tgt := 49) (kx_tk_dec rfl dM_held) rfl (fun e30 => ?_) (fun e30 => ?_)
      · skip
        replace e30 : nI (40 * (24 * kn + rn)) - 1 < nI (40 * (24 * kn + rn)) := e30
        refine kx_rn dM_held 2 53 [(0, .ref m), (1, .int (nI tn)), (2, .int (nI kn)), (3, .int (nI rn)), (4, .int (nI (40 * (24 * kn + rn)) - 1)), (5, .int (nI (40 * (24 * kn + rn))))] [.int (nI (40 * (24 * kn + rn))), .int (nI (40 * (24 * kn + rn)) - 1)] rfl ?_
        refine kx_ic (tgt := 61) (kx_tk_dec rfl dM_held) rfl (fun e53 => ?_) (fun e53 => ?_)
        · skip
          replace e53 : nI (40 * (24 * kn + rn)) - 1 < nI (40 * (24 * kn + rn)) := e53
          refine kx_rn dM_held 1 62 [(0, .ref m), (1, .int (nI tn)), (2, .int (nI kn)), (3, .int (nI rn)), (4, .int (nI (40 * (24 * kn + rn)) - 1)), (5, .int (nI (40 * (24 * kn + rn))))] [.int ((-1))] rfl ?_
          refine kx_ret (ty := .int) (kx_tk_dec rfl dM_held) rfl rfl ?_
          rw [hw0]
          exact ⟨rfl, rfl⟩
        · skip
          replace e53 : ¬ nI (40 * (24 * kn + rn)) - 1 < nI (40 * (24 * kn + rn)) := e53
          exact absurd (kn_plt (by omega)) e53
      · skip
        replace e30 : ¬ nI (40 * (24 * kn + rn)) - 1 < nI (40 * (24 * kn + rn)) := e30
        exact absurd (kn_plt (by omega)) e30
    | succ n ih =>
      intro hw1 hw0
      refine kx_rn dM_held 2 30 [(0, .ref m), (1, .int (nI tn)), (2, .int (nI kn)), (3, .int (nI rn)), (4, .int (nI (40 * (24 * kn + rn) + n))), (5, .int (nI (40 * (24 * kn + rn))))] [.int (nI (40 * (24 * kn + rn))), .int (nI (40 * (24 * kn + rn) + n))] rfl ?_
      refine kx_ic (tgt := 49) (kx_tk_dec rfl dM_held) rfl (fun e30 => ?_) (fun e30 => ?_)
      · skip
        replace e30 : nI (40 * (24 * kn + rn) + n) < nI (40 * (24 * kn + rn)) := e30
        replace e30 : 40 * (24 * kn + rn) + n < 40 * (24 * kn + rn) := (nI_ltI (a := 40 * (24 * kn + rn) + n) (b := 40 * (24 * kn + rn)) (by omega) (by omega)).mp e30
        exfalso; omega
      · skip
        replace e30 : ¬ nI (40 * (24 * kn + rn) + n) < nI (40 * (24 * kn + rn)) := e30
        replace e30 : ¬ 40 * (24 * kn + rn) + n < 40 * (24 * kn + rn) := fun z => e30 ((nI_ltI (a := 40 * (24 * kn + rn) + n) (b := 40 * (24 * kn + rn)) (by omega) (by omega)).mpr z)
        refine kx_rn dM_held 1 34 [(0, .ref m), (1, .int (nI tn)), (2, .int (nI kn)), (3, .int (nI rn)), (4, .int (nI (40 * (24 * kn + rn) + n))), (5, .int (nI (40 * (24 * kn + rn))))] [.ref m] rfl ?_
        refine pM_19 (v := .ref (m + 4)) rfl (kx_tk_dec rfl dM_held) (mh_o hm) rfl ?_
        refine kx_rn dM_held 1 39 [(0, .ref m), (1, .int (nI tn)), (2, .int (nI kn)), (3, .int (nI rn)), (4, .int (nI (40 * (24 * kn + rn) + n))), (5, .int (nI (40 * (24 * kn + rn))))] [.int (nI (40 * (24 * kn + rn) + n)), .ref (m + 4)] rfl ?_
        refine mh_ld (k := 4) (x := A 4 (40 * (24 * kn + rn) + n)) (i := 40 * (24 * kn + rn) + n) rfl rfl (kx_tk_dec rfl dM_held) hm (by show 40 * (24 * kn + rn) + n < 2880; omega) ?_
        rw [hV (40 * (24 * kn + rn) + n)]
        have := hV2 (40 * (24 * kn + rn) + n)
        refine kx_if (tgt := 49) (kx_tk_dec rfl dM_held) rfl (fun e40 => ?_) (fun e40 => ?_)
        · skip
          replace e40 : ¬ nI (V (40 * (24 * kn + rn) + n)) = 0 := e40
          replace e40 : ¬ V (40 * (24 * kn + rn) + n) = 0 := fun z => e40 ((nI_eq (a := V (40 * (24 * kn + rn) + n)) (b := 0) (by omega) (by omega)).mpr z)
          refine kx_rn dM_held 2 53 [(0, .ref m), (1, .int (nI tn)), (2, .int (nI kn)), (3, .int (nI rn)), (4, .int (nI (40 * (24 * kn + rn) + n))), (5, .int (nI (40 * (24 * kn + rn))))] [.int (nI (40 * (24 * kn + rn))), .int (nI (40 * (24 * kn + rn) + n))] rfl ?_
          refine kx_ic (tgt := 61) (kx_tk_dec rfl dM_held) rfl (fun e53 => ?_) (fun e53 => ?_)
          · skip
            replace e53 : nI (40 * (24 * kn + rn) + n) < nI (40 * (24 * kn + rn)) := e53
            replace e53 : 40 * (24 * kn + rn) + n < 40 * (24 * kn + rn) := (nI_ltI (a := 40 * (24 * kn + rn) + n) (b := 40 * (24 * kn + rn)) (by omega) (by omega)).mp e53
            exfalso; omega
          · skip
            replace e53 : ¬ nI (40 * (24 * kn + rn) + n) < nI (40 * (24 * kn + rn)) := e53
            replace e53 : ¬ 40 * (24 * kn + rn) + n < 40 * (24 * kn + rn) := fun z => e53 ((nI_ltI (a := 40 * (24 * kn + rn) + n) (b := 40 * (24 * kn + rn)) (by omega) (by omega)).mpr z)
            refine kx_rn dM_held 2 62 [(0, .ref m), (1, .int (nI tn)), (2, .int (nI kn)), (3, .int (nI rn)), (4, .int (nI (40 * (24 * kn + rn) + n))), (5, .int (nI (40 * (24 * kn + rn))))] [.int (nI (40 * (24 * kn + rn) + n))] rfl ?_
            refine kx_ret (ty := .int) (kx_tk_dec rfl dM_held) rfl rfl ?_
            have z : hw (fun w => decide (¬ V (40 * (24 * kn + rn) + w - 1) = 0)) (n + 1) = n + 1 := by simp only [hw]; rw [if_pos (by simpa using e40)]
            rw [hw0, z]
            exact ⟨rfl, rfl⟩
        · skip
          replace e40 : nI (V (40 * (24 * kn + rn) + n)) = 0 := e40
          replace e40 : V (40 * (24 * kn + rn) + n) = 0 := (nI_eq (a := V (40 * (24 * kn + rn) + n)) (b := 0) (by omega) (by omega)).mp e40
          refine kx_rn dM_held 1 46 [(0, .ref m), (1, .int (nI tn)), (2, .int (nI kn)), (3, .int (nI rn)), (4, .int ((nI (40 * (24 * kn + rn) + n)) + (-1))), (5, .int (nI (40 * (24 * kn + rn))))] [] rfl ?_
          refine kx_rn dM_held 1 26 [(0, .ref m), (1, .int (nI tn)), (2, .int (nI kn)), (3, .int (nI rn)), (4, .int ((nI (40 * (24 * kn + rn) + n)) + (-1))), (5, .int (nI (40 * (24 * kn + rn))))] [] rfl ?_
          rw [heldJ_dec]
          exact ih (by omega) (by rw [hw0]; simp only [hw]; rw [if_neg (by simpa using e40)])
  refine kx_rn dM_held 20 26 [(0, .ref m), (1, .int (nI tn)), (2, .int (nI kn)), (3, .int (nI rn)), (4, .int (((40 * ((24 * (nI kn)) + (nI rn))) + (nI tn)) - 1)), (5, .int (40 * ((24 * (nI kn)) + (nI rn))))] [] rfl ?_
  rw [show ((40 * ((24 * (nI kn)) + (nI rn))) + (nI tn)) - 1 = nI (((40 * ((24 * kn) + rn)) + tn) - 1) from kn_su (kn_ad (kn_mu rfl (kn_ad (kn_mu rfl rfl) rfl)) rfl) rfl (by omega)]
  rw [show 40 * ((24 * (nI kn)) + (nI rn)) = nI (40 * ((24 * kn) + rn)) from kn_mu rfl (kn_ad (kn_mu rfl rfl) rfl)]
  rw [show nI (40 * (24 * kn + rn) + tn - 1) = heldJ (40 * (24 * kn + rn)) tn from by cases tn with | zero => omega | succ q => rfl]
  exact loop tn (Nat.le_refl _) rfl
theorem cM_gone {x : Int32} {h : kx_H} (hst : l.stackTraces = false) :
    kx_c G l mM_gone d 0 0 [.int x] h (fun o h' => ∃ b : Bool, o = .returned (some (.int (b01 b))) ∧ h' = h ∧ (b = true ↔ x &&& 2 = 2)) := by
  refine kx_in (by decide +kernel) (Nat.le_of_ble_eq_true rfl) hst ?_
  refine kx_rn dM_gone 4 4 [(0, .int x)] [.int 2, .int (x &&& (2 : Int32))] rfl ?_
  refine kx_ic (tgt := 11) (kx_tk_dec rfl dM_gone) rfl (fun e4 => ?_) (fun e4 => ?_)
  · skip
    replace e4 : ¬ x &&& (2 : Int32) = 2 := e4
    refine kx_rn dM_gone 1 12 [(0, .int x)] [.int 0] rfl ?_
    refine kx_ret (ty := .boolean) (kx_tk_dec rfl dM_gone) rfl rfl ?_
    exact ⟨false, rfl, rfl, fun z => (by cases z), fun z => absurd z e4⟩
  · skip
    replace e4 : x &&& (2 : Int32) = 2 := e4
    refine kx_rn dM_gone 2 12 [(0, .int x)] [.int 1] rfl ?_
    refine kx_ret (ty := .boolean) (kx_tk_dec rfl dM_gone) rfl rfl ?_
    exact ⟨true, rfl, rfl, fun _ => e4, fun _ => rfl⟩
theorem cM_settings (hst : l.stackTraces = false) (hm : mOk G h0 m) :
    kx_c G l mM_settings d 0 0 [.ref m] (mH h0 m S A) (fun o h' => o = .returned (some (.int (nI (cnt (fun c => decide (¬ A 10 c = 0)) 4)))) ∧ h' = mH h0 m S A) := by
  refine kx_in (by decide +kernel) (Nat.le_of_ble_eq_true rfl) hst ?_
  have loop : ∀ n (j c : Nat), j + n = 4 → c = cnt (fun c => decide (¬ A 10 c = 0)) j → kx_w G l mM_settings d (fun o h' => o = .returned (some (.int (nI (cnt (fun c => decide (¬ A 10 c = 0)) 4)))) ∧ h' = mH h0 m S A) 0 0 4 [(0, .ref m), (1, .int (nI c)), (2, .int (nI j))] [] (mH h0 m S A) := by
    intro n
    induction n with
    | zero =>
      intro j c hj hc
      refine kx_rn dM_settings 2 6 [(0, .ref m), (1, .int (nI c)), (2, .int (nI j))] [.int 4, .int (nI j)] rfl ?_
      refine kx_ic (tgt := 27) (kx_tk_dec rfl dM_settings) rfl (fun e6 => ?_) (fun e6 => ?_)
      · skip
        replace e6 : 4 ≤ nI j := e6
        replace e6 : 4 ≤ j := (nI_leI (a := 4) (b := j) (by omega) (by omega)).mp e6
        refine kx_rn dM_settings 1 28 [(0, .ref m), (1, .int (nI c)), (2, .int (nI j))] [.int (nI c)] rfl ?_
        refine kx_ret (ty := .int) (kx_tk_dec rfl dM_settings) rfl rfl ?_
        exact ⟨by rw [hc, show j = 4 by omega], rfl⟩
      · skip
        replace e6 : ¬ 4 ≤ nI j := e6
        replace e6 : ¬ 4 ≤ j := fun z => e6 ((nI_leI (a := 4) (b := j) (by omega) (by omega)).mpr z)
        exfalso; omega
    | succ n ih =>
      intro j c hj hc
      refine kx_rn dM_settings 2 6 [(0, .ref m), (1, .int (nI c)), (2, .int (nI j))] [.int 4, .int (nI j)] rfl ?_
      refine kx_ic (tgt := 27) (kx_tk_dec rfl dM_settings) rfl (fun e6 => ?_) (fun e6 => ?_)
      · skip
        replace e6 : 4 ≤ nI j := e6
        replace e6 : 4 ≤ j := (nI_leI (a := 4) (b := j) (by omega) (by omega)).mp e6
        exfalso; omega
      · skip
        replace e6 : ¬ 4 ≤ nI j := e6
        replace e6 : ¬ 4 ≤ j := fun z => e6 ((nI_leI (a := 4) (b := j) (by omega) (by omega)).mpr z)
        refine kx_rn dM_settings 1 10 [(0, .ref m), (1, .int (nI c)), (2, .int (nI j))] [.ref m] rfl ?_
        refine pM_41 (v := .ref (m + 10)) rfl (kx_tk_dec rfl dM_settings) (mh_o hm) rfl ?_
        refine kx_rn dM_settings 1 14 [(0, .ref m), (1, .int (nI c)), (2, .int (nI j))] [.int (nI j), .ref (m + 10)] rfl ?_
        refine mh_zl (k := 10) (x := A 10 j) (i := j) rfl rfl (kx_tk_dec rfl dM_settings) hm (by show j < 4; omega) ?_
        refine kx_if (tgt := 21) (kx_tk_dec rfl dM_settings) rfl (fun e15 => ?_) (fun e15 => ?_)
        · skip
          replace e15 : A 10 j = 0 := e15
          refine kx_rn dM_settings 2 4 [(0, .ref m), (1, .int (nI c)), (2, .int ((nI j) + 1))] [] rfl ?_
          rw [show (nI j) + 1 = nI (j + 1) from kn_ad rfl rfl]
          exact ih (j + 1) c (by omega) (by simp only [cnt]; rw [← hc]; simp [e15])
        · skip
          replace e15 : ¬ A 10 j = 0 := e15
          refine kx_rn dM_settings 3 4 [(0, .ref m), (1, .int ((nI c) + 1)), (2, .int ((nI j) + 1))] [] rfl ?_
          rw [show (nI c) + 1 = nI (c + 1) from kn_ad rfl rfl]
          rw [show (nI j) + 1 = nI (j + 1) from kn_ad rfl rfl]
          exact ih (j + 1) (c + 1) (by omega) (by simp only [cnt]; rw [← hc]; simp [e15])
  refine kx_rn dM_settings 4 4 [(0, .ref m), (1, .int 0), (2, .int 0)] [] rfl ?_
  exact loop 4 0 0 rfl rfl
theorem cM_clear (hst : l.stackTraces = false) (hm : mOk G h0 m) :
    kx_c G l mM_clear (d + 1) 0 0 [.ref m] (mH h0 m S A) (fun o h' => o = .returned (some (.int (nI (cnt (fun c => decide (¬ A 10 c = 0)) 4)))) ∧ h' = mH h0 m (va_up S 0 0) (va_up A 10 (fun c => if c < 4 then 0 else A 10 c))) := by
  refine kx_in (by decide +kernel) (Nat.le_of_ble_eq_true rfl) hst ?_
  have loop : ∀ n (j : Nat) (F : Nat → Int32), j + n = 4 → (∀ c, F c = if c < j then 0 else A 10 c) → kx_w G l mM_clear (d + 1) (fun o h' => o = .returned (some (.int (nI (cnt (fun c => decide (¬ A 10 c = 0)) 4)))) ∧ h' = mH h0 m (va_up S 0 0) (va_up A 10 (fun c => if c < 4 then 0 else A 10 c))) 0 0 12 [(0, .ref m), (1, .int (nI ((cnt (fun c => decide (¬ A 10 c = 0)) 4)))), (2, .int (nI j))] [] (mH h0 m (va_up S 0 0) (va_up A 10 F)) := by
    intro n
    induction n with
    | zero =>
      intro j F hj hF
      refine kx_rn dM_clear 2 14 [(0, .ref m), (1, .int (nI ((cnt (fun c => decide (¬ A 10 c = 0)) 4)))), (2, .int (nI j))] [.int 4, .int (nI j)] rfl ?_
      refine kx_ic (tgt := 30) (kx_tk_dec rfl dM_clear) rfl (fun e14 => ?_) (fun e14 => ?_)
      · skip
        replace e14 : 4 ≤ nI j := e14
        replace e14 : 4 ≤ j := (nI_leI (a := 4) (b := j) (by omega) (by omega)).mp e14
        refine kx_rn dM_clear 1 31 [(0, .ref m), (1, .int (nI ((cnt (fun c => decide (¬ A 10 c = 0)) 4)))), (2, .int (nI j))] [.int (nI ((cnt (fun c => decide (¬ A 10 c = 0)) 4)))] rfl ?_
        refine kx_ret (ty := .int) (kx_tk_dec rfl dM_clear) rfl rfl ?_
        refine ⟨rfl, ?_⟩
        rw [show F = fun c => if c < 4 then 0 else A 10 c from funext fun c => by rw [hF, show j = 4 by omega]]
      · skip
        replace e14 : ¬ 4 ≤ nI j := e14
        replace e14 : ¬ 4 ≤ j := fun z => e14 ((nI_leI (a := 4) (b := j) (by omega) (by omega)).mpr z)
        exfalso; omega
    | succ n ih =>
      intro j F hj hF
      refine kx_rn dM_clear 2 14 [(0, .ref m), (1, .int (nI ((cnt (fun c => decide (¬ A 10 c = 0)) 4)))), (2, .int (nI j))] [.int 4, .int (nI j)] rfl ?_
      refine kx_ic (tgt := 30) (kx_tk_dec rfl dM_clear) rfl (fun e14 => ?_) (fun e14 => ?_)
      · skip
        replace e14 : 4 ≤ nI j := e14
        replace e14 : 4 ≤ j := (nI_leI (a := 4) (b := j) (by omega) (by omega)).mp e14
        exfalso; omega
      · skip
        replace e14 : ¬ 4 ≤ nI j := e14
        replace e14 : ¬ 4 ≤ j := fun z => e14 ((nI_leI (a := 4) (b := j) (by omega) (by omega)).mpr z)
        refine kx_rn dM_clear 1 18 [(0, .ref m), (1, .int (nI ((cnt (fun c => decide (¬ A 10 c = 0)) 4)))), (2, .int (nI j))] [.ref m] rfl ?_
        refine pM_41 (v := .ref (m + 10)) rfl (kx_tk_dec rfl dM_clear) (mh_o hm) rfl ?_
        refine kx_rn dM_clear 2 23 [(0, .ref m), (1, .int (nI ((cnt (fun c => decide (¬ A 10 c = 0)) 4)))), (2, .int (nI j))] [.int 0, .int (nI j), .ref (m + 10)] rfl ?_
        refine mh_zs (k := 10) (i := j) (A' := va_up A 10 (va_up F j 0)) rfl (kx_tk_dec rfl dM_clear) hm (by show j < 4; omega) (va_upup _ _ _ _) rfl ?_
        refine kx_rn dM_clear 2 12 [(0, .ref m), (1, .int (nI ((cnt (fun c => decide (¬ A 10 c = 0)) 4)))), (2, .int ((nI j) + 1))] [] rfl ?_
        rw [show (nI j) + 1 = nI (j + 1) from kn_ad rfl rfl]
        exact ih (j + 1) (va_up F j 0) (by omega) (fun c => by simp only [va_up]; rw [hF]; by_cases z : c = j <;> by_cases z2 : c < j <;> simp [z, z2] <;> omega)
  refine kx_rn dM_clear 2 2 [(0, .ref m)] [.int 0, .ref m] rfl ?_
  refine qM_69 rfl (kx_tk_dec rfl dM_clear) (mh_o hm) rfl rfl (Nat.le_of_ble_eq_true rfl) ?_
  rw [mh_p0]
  refine kx_rn dM_clear 1 6 [(0, .ref m)] [.ref m] rfl ?_
  refine cM_144 (as := []) (st := []) (mc := 0) (ms := 0) (kc := 0) (ks := 0) rfl (kx_tk_dec rfl dM_clear) (mh_o hm) rfl rfl (Nat.le_of_ble_eq_true rfl) (cM_settings hst hm) (fun o h' hq => ?_)
  obtain ⟨rfl, rfl⟩ := hq
  show kx_w _ _ _ _ _ _ _ _ _ _ _
  refine kx_rn dM_clear 3 12 [(0, .ref m), (1, .int (nI (cnt (fun c => decide (¬ A 10 c = 0)) 4))), (2, .int 0)] [] rfl ?_
  refine kx_heq (congrArg (mH h0 m (va_up S 0 0)) (va_upsame A 10).symm) ?_
  exact loop 4 0 _ rfl (fun c => by simp)
theorem cM_inState {s : Int32} {bg : Nat} (hst : l.stackTraces = false) (hm : mOk G h0 m) (hb : S 7 = nI bg) (hbg : bg ≤ 40) :
    kx_c G l mM_inState d 0 0 [.ref m, .int s] (mH h0 m S A) (fun o h' => o = .returned (some (.int (nI (cnt (fun j => decide (A 6 (j + 1) = s)) bg)))) ∧ h' = mH h0 m S A) := by
  refine kx_in (by decide +kernel) (Nat.le_of_ble_eq_true rfl) hst ?_
  have loop : ∀ n (j c : Nat), j + n = bg → c = cnt (fun j => decide (A 6 (j + 1) = s)) j → kx_w G l mM_inState d (fun o h' => o = .returned (some (.int (nI (cnt (fun j => decide (A 6 (j + 1) = s)) bg)))) ∧ h' = mH h0 m S A) 0 0 4 [(0, .ref m), (1, .int s), (2, .int (nI c)), (3, .int (nI (j + 1)))] [] (mH h0 m S A) := by
    intro n
    induction n with
    | zero =>
      intro j c hj hc
      refine kx_rn dM_inState 2 6 [(0, .ref m), (1, .int s), (2, .int (nI c)), (3, .int (nI (j + 1)))] [.ref m, .int (nI (j + 1))] rfl ?_
      refine pM_76 (v := .int (S 7)) rfl (kx_tk_dec rfl dM_inState) (mh_o hm) rfl ?_
      rw [hb]
      refine kx_ic (tgt := 31) (kx_tk_dec rfl dM_inState) rfl (fun e9 => ?_) (fun e9 => ?_)
      · skip
        replace e9 : nI bg < nI (j + 1) := e9
        replace e9 : bg < j + 1 := (nI_ltI (a := bg) (b := j + 1) (by omega) (by omega)).mp e9
        refine kx_rn dM_inState 1 32 [(0, .ref m), (1, .int s), (2, .int (nI c)), (3, .int (nI (j + 1)))] [.int (nI c)] rfl ?_
        refine kx_ret (ty := .int) (kx_tk_dec rfl dM_inState) rfl rfl ?_
        exact ⟨by rw [hc, show j = bg by omega], rfl⟩
      · skip
        replace e9 : ¬ nI bg < nI (j + 1) := e9
        replace e9 : ¬ bg < j + 1 := fun z => e9 ((nI_ltI (a := bg) (b := j + 1) (by omega) (by omega)).mpr z)
        exfalso; omega
    | succ n ih =>
      intro j c hj hc
      refine kx_rn dM_inState 2 6 [(0, .ref m), (1, .int s), (2, .int (nI c)), (3, .int (nI (j + 1)))] [.ref m, .int (nI (j + 1))] rfl ?_
      refine pM_76 (v := .int (S 7)) rfl (kx_tk_dec rfl dM_inState) (mh_o hm) rfl ?_
      rw [hb]
      refine kx_ic (tgt := 31) (kx_tk_dec rfl dM_inState) rfl (fun e9 => ?_) (fun e9 => ?_)
      · skip
        replace e9 : nI bg < nI (j + 1) := e9
        replace e9 : bg < j + 1 := (nI_ltI (a := bg) (b := j + 1) (by omega) (by omega)).mp e9
        exfalso; omega
      · skip
        replace e9 : ¬ nI bg < nI (j + 1) := e9
        replace e9 : ¬ bg < j + 1 := fun z => e9 ((nI_ltI (a := bg) (b := j + 1) (by omega) (by omega)).mpr z)
        refine kx_rn dM_inState 1 13 [(0, .ref m), (1, .int s), (2, .int (nI c)), (3, .int (nI (j + 1)))] [.ref m] rfl ?_
        refine pM_25 (v := .ref (m + 6)) rfl (kx_tk_dec rfl dM_inState) (mh_o hm) rfl ?_
        refine kx_rn dM_inState 1 17 [(0, .ref m), (1, .int s), (2, .int (nI c)), (3, .int (nI (j + 1)))] [.int (nI (j + 1)), .ref (m + 6)] rfl ?_
        refine mh_ld (k := 6) (x := A 6 (j + 1)) (i := j + 1) rfl rfl (kx_tk_dec rfl dM_inState) hm (by show j + 1 < 41; omega) ?_
        refine kx_rn dM_inState 1 19 [(0, .ref m), (1, .int s), (2, .int (nI c)), (3, .int (nI (j + 1)))] [.int s, .int (A 6 (j + 1))] rfl ?_
        refine kx_ic (tgt := 25) (kx_tk_dec rfl dM_inState) rfl (fun e19 => ?_) (fun e19 => ?_)
        · skip
          replace e19 : ¬ A 6 (j + 1) = s := e19
          refine kx_rn dM_inState 2 4 [(0, .ref m), (1, .int s), (2, .int (nI c)), (3, .int ((nI (j + 1)) + 1))] [] rfl ?_
          rw [show (nI (j + 1)) + 1 = nI ((j + 1) + 1) from kn_ad rfl rfl]
          exact ih (j + 1) c (by omega) (by simp only [cnt]; rw [← hc]; simp [e19])
        · skip
          replace e19 : A 6 (j + 1) = s := e19
          refine kx_rn dM_inState 3 4 [(0, .ref m), (1, .int s), (2, .int ((nI c) + 1)), (3, .int ((nI (j + 1)) + 1))] [] rfl ?_
          rw [show (nI c) + 1 = nI (c + 1) from kn_ad rfl rfl]
          rw [show (nI (j + 1)) + 1 = nI ((j + 1) + 1) from kn_ad rfl rfl]
          exact ih (j + 1) (c + 1) (by omega) (by simp only [cnt]; rw [← hc]; simp [e19])
  refine kx_rn dM_inState 4 4 [(0, .ref m), (1, .int s), (2, .int 0), (3, .int 1)] [] rfl ?_
  exact loop bg 0 0 (by omega) rfl
theorem cM_versionsOf {q : Nat} (hst : l.stackTraces = false) (hm : mOk G h0 m) (hq : q < 72) {V : Nat → Nat} (hV : ∀ v, A 4 v = nI (V v)) (hV2 : ∀ v, V v < 256) :
    kx_c G l mM_versionsOf d 0 0 [.ref m, .int (nI q)] (mH h0 m S A) (fun o h' => o = .returned (some (.int (nI (cnt (fun j => decide (¬ V (40 * q + j) = 0)) 40)))) ∧ h' = mH h0 m S A) := by
  refine kx_in (by decide +kernel) (Nat.le_of_ble_eq_true rfl) hst ?_
  have loop : ∀ n (j c v : Nat), j + n = 40 → c = cnt (fun j => decide (¬ V (40 * q + j) = 0)) j → v = 40 * q + j → kx_w G l mM_versionsOf d (fun o h' => o = .returned (some (.int (nI (cnt (fun j => decide (¬ V (40 * q + j) = 0)) 40)))) ∧ h' = mH h0 m S A) 0 0 7 [(0, .ref m), (1, .int (nI q)), (2, .int (nI c)), (3, .int (nI v))] [] (mH h0 m S A) := by
    intro n
    induction n with
    | zero =>
      intro j c v hj hc hv
      refine kx_rn dM_versionsOf 6 15 [(0, .ref m), (1, .int (nI q)), (2, .int (nI c)), (3, .int (nI v))] [.int ((40 * (nI q)) + 40), .int (nI v)] rfl ?_
      rw [show (40 * (nI q)) + 40 = nI ((40 * q) + 40) from kn_ad (kn_mu rfl rfl) rfl]
      refine kx_ic (tgt := 36) (kx_tk_dec rfl dM_versionsOf) rfl (fun e15 => ?_) (fun e15 => ?_)
      · skip
        replace e15 : nI ((40 * q) + 40) ≤ nI v := e15
        replace e15 : (40 * q) + 40 ≤ v := (nI_leI (a := (40 * q) + 40) (b := v) (by omega) (by omega)).mp e15
        refine kx_rn dM_versionsOf 1 37 [(0, .ref m), (1, .int (nI q)), (2, .int (nI c)), (3, .int (nI v))] [.int (nI c)] rfl ?_
        refine kx_ret (ty := .int) (kx_tk_dec rfl dM_versionsOf) rfl rfl ?_
        exact ⟨by rw [hc, show j = 40 by omega], rfl⟩
      · skip
        replace e15 : ¬ nI ((40 * q) + 40) ≤ nI v := e15
        replace e15 : ¬ (40 * q) + 40 ≤ v := fun z => e15 ((nI_leI (a := (40 * q) + 40) (b := v) (by omega) (by omega)).mpr z)
        exfalso; omega
    | succ n ih =>
      intro j c v hj hc hv
      refine kx_rn dM_versionsOf 6 15 [(0, .ref m), (1, .int (nI q)), (2, .int (nI c)), (3, .int (nI v))] [.int ((40 * (nI q)) + 40), .int (nI v)] rfl ?_
      rw [show (40 * (nI q)) + 40 = nI ((40 * q) + 40) from kn_ad (kn_mu rfl rfl) rfl]
      refine kx_ic (tgt := 36) (kx_tk_dec rfl dM_versionsOf) rfl (fun e15 => ?_) (fun e15 => ?_)
      · skip
        replace e15 : nI ((40 * q) + 40) ≤ nI v := e15
        replace e15 : (40 * q) + 40 ≤ v := (nI_leI (a := (40 * q) + 40) (b := v) (by omega) (by omega)).mp e15
        exfalso; omega
      · skip
        replace e15 : ¬ nI ((40 * q) + 40) ≤ nI v := e15
        replace e15 : ¬ (40 * q) + 40 ≤ v := fun z => e15 ((nI_leI (a := (40 * q) + 40) (b := v) (by omega) (by omega)).mpr z)
        refine kx_rn dM_versionsOf 1 19 [(0, .ref m), (1, .int (nI q)), (2, .int (nI c)), (3, .int (nI v))] [.ref m] rfl ?_
        refine pM_19 (v := .ref (m + 4)) rfl (kx_tk_dec rfl dM_versionsOf) (mh_o hm) rfl ?_
        refine kx_rn dM_versionsOf 1 23 [(0, .ref m), (1, .int (nI q)), (2, .int (nI c)), (3, .int (nI v))] [.int (nI v), .ref (m + 4)] rfl ?_
        refine mh_ld (k := 4) (x := A 4 v) (i := v) rfl rfl (kx_tk_dec rfl dM_versionsOf) hm (by show v < 2880; omega) ?_
        rw [hV v]
        have := hV2 v
        refine kx_if (tgt := 30) (kx_tk_dec rfl dM_versionsOf) rfl (fun e24 => ?_) (fun e24 => ?_)
        · skip
          replace e24 : nI (V v) = 0 := e24
          replace e24 : V v = 0 := (nI_eq (a := V v) (b := 0) (by omega) (by omega)).mp e24
          refine kx_rn dM_versionsOf 2 7 [(0, .ref m), (1, .int (nI q)), (2, .int (nI c)), (3, .int ((nI v) + 1))] [] rfl ?_
          rw [show (nI v) + 1 = nI (v + 1) from kn_ad rfl rfl]
          exact ih (j + 1) c (v + 1) (by omega) (cnt_n hc (by show decide _ = false; rw [decide_eq_false_iff_not, ← hv]; exact not_not_intro e24)) (by omega)
        · skip
          replace e24 : ¬ nI (V v) = 0 := e24
          replace e24 : ¬ V v = 0 := fun z => e24 ((nI_eq (a := V v) (b := 0) (by omega) (by omega)).mpr z)
          refine kx_rn dM_versionsOf 3 7 [(0, .ref m), (1, .int (nI q)), (2, .int ((nI c) + 1)), (3, .int ((nI v) + 1))] [] rfl ?_
          rw [show (nI c) + 1 = nI (c + 1) from kn_ad rfl rfl]
          rw [show (nI v) + 1 = nI (v + 1) from kn_ad rfl rfl]
          exact ih (j + 1) (c + 1) (v + 1) (by omega) (cnt_y hc (by show decide _ = true; rw [decide_eq_true_eq, ← hv]; exact e24)) (by omega)
  refine kx_rn dM_versionsOf 6 7 [(0, .ref m), (1, .int (nI q)), (2, .int 0), (3, .int (40 * (nI q)))] [] rfl ?_
  rw [show 40 * (nI q) = nI (40 * q) from kn_mu rfl rfl]
  exact loop 40 0 0 _ rfl rfl rfl
end KM2
