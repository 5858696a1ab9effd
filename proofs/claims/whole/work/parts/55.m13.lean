/-! ===== the reference: texts read ===== -/
section KM13
variable {G : kx_G} {l : Launch} {d : Nat} {h0 : kx_H} {m : Nat} {S : Nat → Int32} {A : Nat → Nat → Int32}
/-- what a reading of the reference leaves -/
def mPR (S : Nat → Int32) (A : Nat → Nat → Int32) (n : Nat) (r : kRes) (S1 : Nat → Int32) (A1 : Nat → Nat → Int32) : Prop := S1 18 = nI r.2.1 ∧ (∀ k, k ≠ 18 → k ≠ 19 → S1 k = S k) ∧ (∀ k, k ≠ 8 → A1 k = A k) ∧ (∀ i, i < 220 + n → A1 8 i = A 8 i) ∧ (r.1 = true → S1 19 = nI (n + r.2.2.length) ∧ atL (A1 8) (220 + n) r.2.2)
set_option maxRecDepth 100000 in
theorem cM_arithmetic {c : Int32} {h : kx_H} (hst : l.stackTraces = false) :
    kx_c G l mM_arithmetic d 0 0 [.int c] h (fun o h' => ∃ b : Bool, o = .returned (some (.int (b01 b))) ∧ h' = h ∧ b = isAri c) := by
  refine kx_in (by decide +kernel) (Nat.le_of_ble_eq_true rfl) hst ?_
  refine kx_rn dM_arithmetic 2 3 [(0, .int c)] [.int 43, .int c] rfl ?_
  refine kx_ic (tgt := 24) (kx_tk_dec rfl dM_arithmetic) rfl (fun e3 => ?_) (fun e3 => ?_)
  · skip
    replace e3 : c = 43 := e3
    refine kx_rn dM_arithmetic 2 29 [(0, .int c)] [.int 1] rfl ?_
    refine kx_ret (ty := .boolean) (kx_tk_dec rfl dM_arithmetic) rfl rfl ?_
    exact ⟨true, by show _ = Outcome.returned (some (.int (b01 true))); rfl, rfl, (show isAri c = true by unfold isAri; rw [decide_eq_true_eq]; exact Or.inl e3).symm⟩
  · skip
    replace e3 : ¬ c = 43 := e3
    refine kx_rn dM_arithmetic 2 9 [(0, .int c)] [.int 45, .int c] rfl ?_
    refine kx_ic (tgt := 24) (kx_tk_dec rfl dM_arithmetic) rfl (fun e9 => ?_) (fun e9 => ?_)
    · skip
      replace e9 : c = 45 := e9
      refine kx_rn dM_arithmetic 2 29 [(0, .int c)] [.int 1] rfl ?_
      refine kx_ret (ty := .boolean) (kx_tk_dec rfl dM_arithmetic) rfl rfl ?_
      exact ⟨true, rfl, rfl, (show isAri c = true by unfold isAri; rw [decide_eq_true_eq]; exact Or.inr (Or.inl e9)).symm⟩
    · skip
      replace e9 : ¬ c = 45 := e9
      refine kx_rn dM_arithmetic 2 15 [(0, .int c)] [.int 42, .int c] rfl ?_
      refine kx_ic (tgt := 24) (kx_tk_dec rfl dM_arithmetic) rfl (fun e15 => ?_) (fun e15 => ?_)
      · skip
        replace e15 : c = 42 := e15
        refine kx_rn dM_arithmetic 2 29 [(0, .int c)] [.int 1] rfl ?_
        refine kx_ret (ty := .boolean) (kx_tk_dec rfl dM_arithmetic) rfl rfl ?_
        exact ⟨true, rfl, rfl, (show isAri c = true by unfold isAri; rw [decide_eq_true_eq]; exact Or.inr (Or.inr (Or.inl e15))).symm⟩
      · skip
        replace e15 : ¬ c = 42 := e15
        refine kx_rn dM_arithmetic 2 21 [(0, .int c)] [.int 47, .int c] rfl ?_
        refine kx_ic (tgt := 28) (kx_tk_dec rfl dM_arithmetic) rfl (fun e21 => ?_) (fun e21 => ?_)
        · skip
          replace e21 : ¬ c = 47 := e21
          refine kx_rn dM_arithmetic 1 29 [(0, .int c)] [.int 0] rfl ?_
          refine kx_ret (ty := .boolean) (kx_tk_dec rfl dM_arithmetic) rfl rfl ?_
          exact ⟨false, rfl, rfl, (show isAri c = false by unfold isAri; rw [decide_eq_false_iff_not]; rintro (z | z | z | z) <;> contradiction).symm⟩
        · skip
          replace e21 : c = 47 := e21
          refine kx_rn dM_arithmetic 2 29 [(0, .int c)] [.int 1] rfl ?_
          refine kx_ret (ty := .boolean) (kx_tk_dec rfl dM_arithmetic) rfl rfl ?_
          exact ⟨true, rfl, rfl, (show isAri c = true by unfold isAri; rw [decide_eq_true_eq]; exact Or.inr (Or.inr (Or.inr e21))).symm⟩
set_option maxRecDepth 100000 in
theorem cM_add {x : Int32} {n : Nat} (hst : l.stackTraces = false) (hm : mOk G h0 m) (hn : S 19 = nI n) (hn2 : n < 44) :
    kx_c G l mM_add d 0 0 [.ref m, .int x] (mH h0 m S A) (fun o h' => o = .returned none ∧ h' = mH h0 m (va_up S 19 (nI (n + 1))) (va_up A 8 (va_up (A 8) (220 + n) x))) := by
  refine kx_in (by decide +kernel) (Nat.le_of_ble_eq_true rfl) hst ?_
  refine kx_rn dM_add 1 1 [(0, .ref m), (1, .int x)] [.ref m] rfl ?_
  refine pM_35 (v := .ref (m + 8)) rfl (kx_tk_dec rfl dM_add) (mh_o hm) rfl ?_
  refine kx_rn dM_add 2 8 [(0, .ref m), (1, .int x)] [.ref m, .int 220, .ref (m + 8)] rfl ?_
  refine pM_93 (v := .int (S 19)) rfl (kx_tk_dec rfl dM_add) (mh_o hm) rfl ?_
  rw [hn]
  refine kx_rn dM_add 2 13 [(0, .ref m), (1, .int x)] [.int x, .int (220 + (nI n)), .ref (m + 8)] rfl ?_
  rw [show 220 + (nI n) = nI (220 + n) from kn_ad rfl rfl]
  refine mh_st (k := 8) (i := 220 + n) (A' := va_up A 8 (va_up (A 8) (220 + n) x)) rfl (kx_tk_dec rfl dM_add) hm (by show 220 + n < 264; omega) rfl ?_
  refine kx_rn dM_add 2 16 [(0, .ref m), (1, .int x)] [.ref m, .ref m] rfl ?_
  refine pM_93 (v := .int (S 19)) rfl (kx_tk_dec rfl dM_add) (mh_o hm) rfl ?_
  rw [hn]
  refine kx_rn dM_add 2 21 [(0, .ref m), (1, .int x)] [.int ((nI n) + 1), .ref m] rfl ?_
  rw [show (nI n) + 1 = nI (n + 1) from kn_ad rfl rfl]
  refine qM_93 rfl (kx_tk_dec rfl dM_add) (mh_o hm) rfl rfl (Nat.le_of_ble_eq_true rfl) ?_
  rw [mh_p19]
  refine kx_retv (kx_tk_dec rfl dM_add) rfl ?_
  exact ⟨rfl, rfl⟩
set_option maxRecDepth 100000 in
theorem cM_push {x : Int32} {n : Nat} (hst : l.stackTraces = false) (hm : mOk G h0 m) (hn : S 20 = nI n) (hn2 : n < 44) :
    kx_c G l mM_push d 0 0 [.ref m, .int x] (mH h0 m S A) (fun o h' => o = .returned none ∧ h' = mH h0 m (va_up S 20 (nI (n + 1))) (va_up A 13 (va_up (A 13) n x))) := by
  refine kx_in (by decide +kernel) (Nat.le_of_ble_eq_true rfl) hst ?_
  refine kx_rn dM_push 1 1 [(0, .ref m), (1, .int x)] [.ref m] rfl ?_
  refine pM_51 (v := .ref (m + 13)) rfl (kx_tk_dec rfl dM_push) (mh_o hm) rfl ?_
  refine kx_rn dM_push 1 5 [(0, .ref m), (1, .int x)] [.ref m, .ref (m + 13)] rfl ?_
  refine pM_113 (v := .int (S 20)) rfl (kx_tk_dec rfl dM_push) (mh_o hm) rfl ?_
  rw [hn]
  refine kx_rn dM_push 1 9 [(0, .ref m), (1, .int x)] [.int x, .int (nI n), .ref (m + 13)] rfl ?_
  refine mh_st (k := 13) (i := n) (A' := va_up A 13 (va_up (A 13) n x)) rfl (kx_tk_dec rfl dM_push) hm (by show n < 44; omega) rfl ?_
  refine kx_rn dM_push 2 12 [(0, .ref m), (1, .int x)] [.ref m, .ref m] rfl ?_
  refine pM_113 (v := .int (S 20)) rfl (kx_tk_dec rfl dM_push) (mh_o hm) rfl ?_
  rw [hn]
  refine kx_rn dM_push 2 17 [(0, .ref m), (1, .int x)] [.int ((nI n) + 1), .ref m] rfl ?_
  rw [show (nI n) + 1 = nI (n + 1) from kn_ad rfl rfl]
  refine qM_113 rfl (kx_tk_dec rfl dM_push) (mh_o hm) rfl rfl (Nat.le_of_ble_eq_true rfl) ?_
  rw [mh_p20]
  refine kx_retv (kx_tk_dec rfl dM_push) rfl ?_
  exact ⟨rfl, rfl⟩
theorem dgN_out {tx : Nat → Int32} {ln f a : Nat} (h : ¬ isDig (kCur tx ln a) = true) : dgN tx ln f a = 0 := by
  cases f with
  | zero => rfl
  | succ f => simp only [dgN]; rw [if_neg h]
set_option maxRecDepth 100000 in
theorem cM_item {ln at0 n : Nat} (hst : l.stackTraces = false) (hm : mOk G h0 m) (hl : S 10 = nI ln) (hln : ln ≤ 40) (hat : S 18 = nI at0) (hat2 : at0 ≤ ln) (hn : S 19 = nI n) (hn2 : n ≤ at0) :
    kx_c G l mM_item (d + 1) 0 0 [.ref m] (mH h0 m S A) (fun o h' => ∃ (S1 : Nat → Int32) (A1 : Nat → Nat → Int32), o = .returned (some (.int (b01 (rItem (A 7) ln at0).1))) ∧ h' = mH h0 m S1 A1 ∧ mPR S A n (rItem (A 7) ln at0) S1 A1) := by
  refine kx_in (by decide +kernel) (Nat.le_of_ble_eq_true rfl) hst ?_
  have dd : ¬ isCol (kCur (A 7) ln at0) = true → kx_w G l mM_item (d + 1) (fun o h' => ∃ (S1 : Nat → Int32) (A1 : Nat → Nat → Int32), o = .returned (some (.int (b01 (rItem (A 7) ln at0).1))) ∧ h' = mH h0 m S1 A1 ∧ mPR S A n (rItem (A 7) ln at0) S1 A1) 0 0 61 [(0, .ref m), (2, .int 0), (3, .int 0)] [] (mH h0 m S A) := by
    intro hnc
    have digits : ∀ n1 (j v : Nat), j + n1 = 4 → at0 + j ≤ ln → dgV (A 7) at0 j = v → v < pw10 j → dgN (A 7) ln 4 at0 = j + dgN (A 7) ln (4 - j) (at0 + j) → kx_w G l mM_item (d + 1) (fun o h' => ∃ (S1 : Nat → Int32) (A1 : Nat → Nat → Int32), o = .returned (some (.int (b01 (rItem (A 7) ln at0).1))) ∧ h' = mH h0 m S1 A1 ∧ mPR S A n (rItem (A 7) ln at0) S1 A1) 0 0 61 [(0, .ref m), (2, .int (nI v)), (3, .int (nI j))] [] (mH h0 m (va_up S 18 (nI (at0 + j))) A) := by
      intro n1
      induction n1 with
      | zero =>
        intro j v hj hat3 hv hvb hdg
        refine kx_rn dM_item 1 62 [(0, .ref m), (2, .int (nI v)), (3, .int (nI j))] [.ref m] rfl ?_
        refine pM_96 (v := .int (nI (at0 + j))) rfl (kx_tk_dec rfl dM_item) (mh_o hm) rfl ?_
        refine kx_rn dM_item 1 66 [(0, .ref m), (2, .int (nI v)), (3, .int (nI j))] [.ref m, .int (nI (at0 + j))] rfl ?_
        refine pM_90 (v := .int (S 10)) rfl (kx_tk_dec rfl dM_item) (mh_o hm) rfl ?_
        rw [hl]
        refine kx_ic (tgt := 139) (kx_tk_dec rfl dM_item) rfl (fun e69 => ?_) (fun e69 => ?_)
        · skip
          replace e69 : nI ln ≤ nI (at0 + j) := e69
          replace e69 : ln ≤ at0 + j := (nI_leI (a := ln) (b := at0 + j) (by omega) (by omega)).mp e69
          have hd4 : dgN (A 7) ln 4 at0 = j := by rw [hdg, dgN_out (by rw [kCur_out (by omega)]; decide)]; rfl
          have hvb2 := pw10_b (by omega) hvb
          refine kx_rn dM_item 1 140 [(0, .ref m), (2, .int (nI v)), (3, .int (nI j))] [.int (nI j)] rfl ?_
          refine kx_if (tgt := 145) (kx_tk_dec rfl dM_item) rfl (fun e140 => ?_) (fun e140 => ?_)
          · skip
            replace e140 : ¬ nI j = 0 := e140
            replace e140 : ¬ j = 0 := fun z => e140 ((nI_eq (a := j) (b := 0) (by omega) (by omega)).mpr z)
            refine kx_rn dM_item 2 147 [(0, .ref m), (2, .int (nI v)), (3, .int (nI j))] [.int (nI v), .ref m] rfl ?_
            refine cM_99 (as := [.int (nI v)]) (st := []) (mc := 0) (ms := 0) (kc := 0) (ks := 0) rfl (kx_tk_dec rfl dM_item) (mh_o hm) rfl rfl (Nat.le_of_ble_eq_true rfl) (cM_add (n := n) hst hm hn (by omega)) (fun o h' hq => ?_)
            obtain ⟨rfl, rfl⟩ := hq
            show kx_w _ _ _ _ _ _ _ _ _ _ _
            refine kx_rn dM_item 1 151 [(0, .ref m), (2, .int (nI v)), (3, .int (nI j))] [.ref m] rfl ?_
            refine pM_96 (v := .int (nI (at0 + j))) rfl (kx_tk_dec rfl dM_item) (mh_o hm) rfl ?_
            refine kx_rn dM_item 1 155 [(0, .ref m), (2, .int (nI v)), (3, .int (nI j))] [.ref m, .int (nI (at0 + j))] rfl ?_
            refine pM_90 (v := .int (S 10)) rfl (kx_tk_dec rfl dM_item) (mh_o hm) rfl ?_
            rw [hl]
            refine kx_ic (tgt := 189) (kx_tk_dec rfl dM_item) rfl (fun e158 => ?_) (fun e158 => ?_)
            · skip
              replace e158 : nI (at0 + j) = nI ln := e158
              replace e158 : at0 + j = ln := (nI_eq (a := at0 + j) (b := ln) (by omega) (by omega)).mp e158
              refine kx_rn dM_item 2 194 [(0, .ref m), (2, .int (nI v)), (3, .int (nI j))] [.int 1] rfl ?_
              refine kx_ret (ty := .boolean) (kx_tk_dec rfl dM_item) rfl rfl ?_
              have hr : rItem (A 7) ln at0 = (true, at0 + j, [nI v]) := by
                unfold rItem
                rw [if_neg hnc, hd4, if_neg e140, hv, show (!isDig (kCur (A 7) ln (at0 + j))) = true from by rw [kCur_out (by omega)]; rfl]
              rw [hr]
              refine ⟨_, _, rfl, rfl, rfl, fun k z18 z19 => by simp only [va_up]; simp only [if_neg z18, if_neg z19], fun k z8 => va_up_ne _ _ z8, fun i hi => ?_, fun _ => ⟨rfl, atL_one ?_⟩⟩
              · show va_up (A 8) _ _ i = _; rw [va_up_ne _ _ (by omega)]
              · show va_up (A 8) _ _ (220 + n) = _; rw [va_up_self]
            · skip
              replace e158 : ¬ nI (at0 + j) = nI ln := e158
              replace e158 : ¬ at0 + j = ln := fun z => e158 ((nI_eq (a := at0 + j) (b := ln) (by omega) (by omega)).mpr z)
              refine kx_rn dM_item 1 162 [(0, .ref m), (2, .int (nI v)), (3, .int (nI j))] [.ref m] rfl ?_
              refine pM_28 (v := .ref (m + 7)) rfl (kx_tk_dec rfl dM_item) (mh_o hm) rfl ?_
              refine kx_rn dM_item 1 166 [(0, .ref m), (2, .int (nI v)), (3, .int (nI j))] [.ref m, .ref (m + 7)] rfl ?_
              refine pM_96 (v := .int (nI (at0 + j))) rfl (kx_tk_dec rfl dM_item) (mh_o hm) rfl ?_
              refine mh_ld (k := 7) (x := A 7 (at0 + j)) (i := at0 + j) rfl rfl (kx_tk_dec rfl dM_item) hm (by show at0 + j < 40; omega) ?_
              refine kx_rn dM_item 1 172 [(0, .ref m), (2, .int (nI v)), (3, .int (nI j))] [.int 48, .int (A 7 (at0 + j))] rfl ?_
              refine kx_ic (tgt := 189) (kx_tk_dec rfl dM_item) rfl (fun e172 => ?_) (fun e172 => ?_)
              · skip
                replace e172 : A 7 (at0 + j) < 48 := e172
                refine kx_rn dM_item 2 194 [(0, .ref m), (2, .int (nI v)), (3, .int (nI j))] [.int 1] rfl ?_
                refine kx_ret (ty := .boolean) (kx_tk_dec rfl dM_item) rfl rfl ?_
                have hr : rItem (A 7) ln at0 = (true, at0 + j, [nI v]) := by
                  unfold rItem
                  rw [if_neg hnc, hd4, if_neg e140, hv, show (!isDig (kCur (A 7) ln (at0 + j))) = true from by rw [kCur_in (by omega)]; show (!decide _) = true; rw [decide_eq_false (fun z => by have := z.1; rw [kI_le] at this; rw [kI_lt] at e172; omega)]; rfl]
                rw [hr]
                refine ⟨_, _, rfl, rfl, rfl, fun k z18 z19 => by simp only [va_up]; simp only [if_neg z18, if_neg z19], fun k z8 => va_up_ne _ _ z8, fun i hi => ?_, fun _ => ⟨rfl, atL_one ?_⟩⟩
                · show va_up (A 8) _ _ i = _; rw [va_up_ne _ _ (by omega)]
                · show va_up (A 8) _ _ (220 + n) = _; rw [va_up_self]
              · skip
                replace e172 : ¬ A 7 (at0 + j) < 48 := e172
                refine kx_rn dM_item 1 176 [(0, .ref m), (2, .int (nI v)), (3, .int (nI j))] [.ref m] rfl ?_
                refine pM_28 (v := .ref (m + 7)) rfl (kx_tk_dec rfl dM_item) (mh_o hm) rfl ?_
                refine kx_rn dM_item 1 180 [(0, .ref m), (2, .int (nI v)), (3, .int (nI j))] [.ref m, .ref (m + 7)] rfl ?_
                refine pM_96 (v := .int (nI (at0 + j))) rfl (kx_tk_dec rfl dM_item) (mh_o hm) rfl ?_
                refine mh_ld (k := 7) (x := A 7 (at0 + j)) (i := at0 + j) rfl rfl (kx_tk_dec rfl dM_item) hm (by show at0 + j < 40; omega) ?_
                refine kx_rn dM_item 1 186 [(0, .ref m), (2, .int (nI v)), (3, .int (nI j))] [.int 57, .int (A 7 (at0 + j))] rfl ?_
                refine kx_ic (tgt := 193) (kx_tk_dec rfl dM_item) rfl (fun e186 => ?_) (fun e186 => ?_)
                · skip
                  replace e186 : A 7 (at0 + j) ≤ 57 := e186
                  refine kx_rn dM_item 1 194 [(0, .ref m), (2, .int (nI v)), (3, .int (nI j))] [.int 0] rfl ?_
                  refine kx_ret (ty := .boolean) (kx_tk_dec rfl dM_item) rfl rfl ?_
                  have hr : rItem (A 7) ln at0 = (false, at0 + j, [nI v]) := by
                    unfold rItem
                    rw [if_neg hnc, hd4, if_neg e140, hv, show (!isDig (kCur (A 7) ln (at0 + j))) = false from by rw [kCur_in (by omega)]; show (!decide _) = false; rw [decide_eq_true ⟨by rw [kI_lt] at e172; rw [kI_le]; omega, e186⟩]; rfl]
                  rw [hr]
                  refine ⟨_, _, rfl, rfl, rfl, fun k z18 z19 => by simp only [va_up]; simp only [if_neg z18, if_neg z19], fun k z8 => va_up_ne _ _ z8, fun i hi => ?_, fun _ => ⟨rfl, atL_one ?_⟩⟩
                  · show va_up (A 8) _ _ i = _; rw [va_up_ne _ _ (by omega)]
                  · show va_up (A 8) _ _ (220 + n) = _; rw [va_up_self]
                · skip
                  replace e186 : ¬ A 7 (at0 + j) ≤ 57 := e186
                  refine kx_rn dM_item 2 194 [(0, .ref m), (2, .int (nI v)), (3, .int (nI j))] [.int 1] rfl ?_
                  refine kx_ret (ty := .boolean) (kx_tk_dec rfl dM_item) rfl rfl ?_
                  have hr : rItem (A 7) ln at0 = (true, at0 + j, [nI v]) := by
                    unfold rItem
                    rw [if_neg hnc, hd4, if_neg e140, hv, show (!isDig (kCur (A 7) ln (at0 + j))) = true from by rw [kCur_in (by omega)]; show (!decide _) = true; rw [decide_eq_false (fun z => e186 z.2)]; rfl]
                  rw [hr]
                  refine ⟨_, _, rfl, rfl, rfl, fun k z18 z19 => by simp only [va_up]; simp only [if_neg z18, if_neg z19], fun k z8 => va_up_ne _ _ z8, fun i hi => ?_, fun _ => ⟨rfl, atL_one ?_⟩⟩
                  · show va_up (A 8) _ _ i = _; rw [va_up_ne _ _ (by omega)]
                  · show va_up (A 8) _ _ (220 + n) = _; rw [va_up_self]
          · skip
            replace e140 : nI j = 0 := e140
            replace e140 : j = 0 := (nI_eq (a := j) (b := 0) (by omega) (by omega)).mp e140
            refine kx_rn dM_item 1 144 [(0, .ref m), (2, .int (nI v)), (3, .int (nI j))] [.int 0] rfl ?_
            refine kx_ret (ty := .boolean) (kx_tk_dec rfl dM_item) rfl rfl ?_
            have hr : rItem (A 7) ln at0 = (false, at0, []) := by
              unfold rItem
              rw [if_neg hnc, hd4, if_pos e140]
            rw [hr]
            exact ⟨_, _, rfl, rfl, by show nI (at0 + j) = nI at0; rw [e140]; rfl, fun k z18 z19 => va_up_ne _ _ z18, fun k _ => rfl, fun i _ => rfl, fun z => by cases z⟩
        · skip
          replace e69 : ¬ nI ln ≤ nI (at0 + j) := e69
          replace e69 : ¬ ln ≤ at0 + j := fun z => e69 ((nI_leI (a := ln) (b := at0 + j) (by omega) (by omega)).mpr z)
          refine kx_rn dM_item 2 74 [(0, .ref m), (2, .int (nI v)), (3, .int (nI j))] [.int 4, .int (nI j)] rfl ?_
          refine kx_ic (tgt := 139) (kx_tk_dec rfl dM_item) rfl (fun e74 => ?_) (fun e74 => ?_)
          · skip
            replace e74 : 4 ≤ nI j := e74
            replace e74 : 4 ≤ j := (nI_leI (a := 4) (b := j) (by omega) (by omega)).mp e74
            have hd4 : dgN (A 7) ln 4 at0 = j := by rw [hdg, show dgN (A 7) ln (4 - j) (at0 + j) = 0 from by rw [show 4 - j = 0 by omega]; rfl]; rfl
            have hvb2 := pw10_b (by omega) hvb
            refine kx_rn dM_item 1 140 [(0, .ref m), (2, .int (nI v)), (3, .int (nI j))] [.int (nI j)] rfl ?_
            refine kx_if (tgt := 145) (kx_tk_dec rfl dM_item) rfl (fun e140 => ?_) (fun e140 => ?_)
            · skip
              replace e140 : ¬ nI j = 0 := e140
              replace e140 : ¬ j = 0 := fun z => e140 ((nI_eq (a := j) (b := 0) (by omega) (by omega)).mpr z)
              refine kx_rn dM_item 2 147 [(0, .ref m), (2, .int (nI v)), (3, .int (nI j))] [.int (nI v), .ref m] rfl ?_
              refine cM_99 (as := [.int (nI v)]) (st := []) (mc := 0) (ms := 0) (kc := 0) (ks := 0) rfl (kx_tk_dec rfl dM_item) (mh_o hm) rfl rfl (Nat.le_of_ble_eq_true rfl) (cM_add (n := n) hst hm hn (by omega)) (fun o h' hq => ?_)
              obtain ⟨rfl, rfl⟩ := hq
              show kx_w _ _ _ _ _ _ _ _ _ _ _
              refine kx_rn dM_item 1 151 [(0, .ref m), (2, .int (nI v)), (3, .int (nI j))] [.ref m] rfl ?_
              refine pM_96 (v := .int (nI (at0 + j))) rfl (kx_tk_dec rfl dM_item) (mh_o hm) rfl ?_
              refine kx_rn dM_item 1 155 [(0, .ref m), (2, .int (nI v)), (3, .int (nI j))] [.ref m, .int (nI (at0 + j))] rfl ?_
              refine pM_90 (v := .int (S 10)) rfl (kx_tk_dec rfl dM_item) (mh_o hm) rfl ?_
              rw [hl]
              refine kx_ic (tgt := 189) (kx_tk_dec rfl dM_item) rfl (fun e158 => ?_) (fun e158 => ?_)
              · skip
                replace e158 : nI (at0 + j) = nI ln := e158
                replace e158 : at0 + j = ln := (nI_eq (a := at0 + j) (b := ln) (by omega) (by omega)).mp e158
                refine kx_rn dM_item 2 194 [(0, .ref m), (2, .int (nI v)), (3, .int (nI j))] [.int 1] rfl ?_
                refine kx_ret (ty := .boolean) (kx_tk_dec rfl dM_item) rfl rfl ?_
                have hr : rItem (A 7) ln at0 = (true, at0 + j, [nI v]) := by
                  unfold rItem
                  rw [if_neg hnc, hd4, if_neg e140, hv, show (!isDig (kCur (A 7) ln (at0 + j))) = true from by rw [kCur_out (by omega)]; rfl]
                rw [hr]
                refine ⟨_, _, rfl, rfl, rfl, fun k z18 z19 => by simp only [va_up]; simp only [if_neg z18, if_neg z19], fun k z8 => va_up_ne _ _ z8, fun i hi => ?_, fun _ => ⟨rfl, atL_one ?_⟩⟩
                · show va_up (A 8) _ _ i = _; rw [va_up_ne _ _ (by omega)]
                · show va_up (A 8) _ _ (220 + n) = _; rw [va_up_self]
              · skip
                replace e158 : ¬ nI (at0 + j) = nI ln := e158
                replace e158 : ¬ at0 + j = ln := fun z => e158 ((nI_eq (a := at0 + j) (b := ln) (by omega) (by omega)).mpr z)
                refine kx_rn dM_item 1 162 [(0, .ref m), (2, .int (nI v)), (3, .int (nI j))] [.ref m] rfl ?_
                refine pM_28 (v := .ref (m + 7)) rfl (kx_tk_dec rfl dM_item) (mh_o hm) rfl ?_
                refine kx_rn dM_item 1 166 [(0, .ref m), (2, .int (nI v)), (3, .int (nI j))] [.ref m, .ref (m + 7)] rfl ?_
                refine pM_96 (v := .int (nI (at0 + j))) rfl (kx_tk_dec rfl dM_item) (mh_o hm) rfl ?_
                refine mh_ld (k := 7) (x := A 7 (at0 + j)) (i := at0 + j) rfl rfl (kx_tk_dec rfl dM_item) hm (by show at0 + j < 40; omega) ?_
                refine kx_rn dM_item 1 172 [(0, .ref m), (2, .int (nI v)), (3, .int (nI j))] [.int 48, .int (A 7 (at0 + j))] rfl ?_
                refine kx_ic (tgt := 189) (kx_tk_dec rfl dM_item) rfl (fun e172 => ?_) (fun e172 => ?_)
                · skip
                  replace e172 : A 7 (at0 + j) < 48 := e172
                  refine kx_rn dM_item 2 194 [(0, .ref m), (2, .int (nI v)), (3, .int (nI j))] [.int 1] rfl ?_
                  refine kx_ret (ty := .boolean) (kx_tk_dec rfl dM_item) rfl rfl ?_
                  have hr : rItem (A 7) ln at0 = (true, at0 + j, [nI v]) := by
                    unfold rItem
                    rw [if_neg hnc, hd4, if_neg e140, hv, show (!isDig (kCur (A 7) ln (at0 + j))) = true from by rw [kCur_in (by omega)]; show (!decide _) = true; rw [decide_eq_false (fun z => by have := z.1; rw [kI_le] at this; rw [kI_lt] at e172; omega)]; rfl]
                  rw [hr]
                  refine ⟨_, _, rfl, rfl, rfl, fun k z18 z19 => by simp only [va_up]; simp only [if_neg z18, if_neg z19], fun k z8 => va_up_ne _ _ z8, fun i hi => ?_, fun _ => ⟨rfl, atL_one ?_⟩⟩
                  · show va_up (A 8) _ _ i = _; rw [va_up_ne _ _ (by omega)]
                  · show va_up (A 8) _ _ (220 + n) = _; rw [va_up_self]
                · skip
                  replace e172 : ¬ A 7 (at0 + j) < 48 := e172
                  refine kx_rn dM_item 1 176 [(0, .ref m), (2, .int (nI v)), (3, .int (nI j))] [.ref m] rfl ?_
                  refine pM_28 (v := .ref (m + 7)) rfl (kx_tk_dec rfl dM_item) (mh_o hm) rfl ?_
                  refine kx_rn dM_item 1 180 [(0, .ref m), (2, .int (nI v)), (3, .int (nI j))] [.ref m, .ref (m + 7)] rfl ?_
                  refine pM_96 (v := .int (nI (at0 + j))) rfl (kx_tk_dec rfl dM_item) (mh_o hm) rfl ?_
                  refine mh_ld (k := 7) (x := A 7 (at0 + j)) (i := at0 + j) rfl rfl (kx_tk_dec rfl dM_item) hm (by show at0 + j < 40; omega) ?_
                  refine kx_rn dM_item 1 186 [(0, .ref m), (2, .int (nI v)), (3, .int (nI j))] [.int 57, .int (A 7 (at0 + j))] rfl ?_
                  refine kx_ic (tgt := 193) (kx_tk_dec rfl dM_item) rfl (fun e186 => ?_) (fun e186 => ?_)
                  · skip
                    replace e186 : A 7 (at0 + j) ≤ 57 := e186
                    refine kx_rn dM_item 1 194 [(0, .ref m), (2, .int (nI v)), (3, .int (nI j))] [.int 0] rfl ?_
                    refine kx_ret (ty := .boolean) (kx_tk_dec rfl dM_item) rfl rfl ?_
                    have hr : rItem (A 7) ln at0 = (false, at0 + j, [nI v]) := by
                      unfold rItem
                      rw [if_neg hnc, hd4, if_neg e140, hv, show (!isDig (kCur (A 7) ln (at0 + j))) = false from by rw [kCur_in (by omega)]; show (!decide _) = false; rw [decide_eq_true ⟨by rw [kI_lt] at e172; rw [kI_le]; omega, e186⟩]; rfl]
                    rw [hr]
                    refine ⟨_, _, rfl, rfl, rfl, fun k z18 z19 => by simp only [va_up]; simp only [if_neg z18, if_neg z19], fun k z8 => va_up_ne _ _ z8, fun i hi => ?_, fun _ => ⟨rfl, atL_one ?_⟩⟩
                    · show va_up (A 8) _ _ i = _; rw [va_up_ne _ _ (by omega)]
                    · show va_up (A 8) _ _ (220 + n) = _; rw [va_up_self]
                  · skip
                    replace e186 : ¬ A 7 (at0 + j) ≤ 57 := e186
                    refine kx_rn dM_item 2 194 [(0, .ref m), (2, .int (nI v)), (3, .int (nI j))] [.int 1] rfl ?_
                    refine kx_ret (ty := .boolean) (kx_tk_dec rfl dM_item) rfl rfl ?_
                    have hr : rItem (A 7) ln at0 = (true, at0 + j, [nI v]) := by
                      unfold rItem
                      rw [if_neg hnc, hd4, if_neg e140, hv, show (!isDig (kCur (A 7) ln (at0 + j))) = true from by rw [kCur_in (by omega)]; show (!decide _) = true; rw [decide_eq_false (fun z => e186 z.2)]; rfl]
                    rw [hr]
                    refine ⟨_, _, rfl, rfl, rfl, fun k z18 z19 => by simp only [va_up]; simp only [if_neg z18, if_neg z19], fun k z8 => va_up_ne _ _ z8, fun i hi => ?_, fun _ => ⟨rfl, atL_one ?_⟩⟩
                    · show va_up (A 8) _ _ i = _; rw [va_up_ne _ _ (by omega)]
                    · show va_up (A 8) _ _ (220 + n) = _; rw [va_up_self]
            · skip
              replace e140 : nI j = 0 := e140
              replace e140 : j = 0 := (nI_eq (a := j) (b := 0) (by omega) (by omega)).mp e140
              refine kx_rn dM_item 1 144 [(0, .ref m), (2, .int (nI v)), (3, .int (nI j))] [.int 0] rfl ?_
              refine kx_ret (ty := .boolean) (kx_tk_dec rfl dM_item) rfl rfl ?_
              have hr : rItem (A 7) ln at0 = (false, at0, []) := by
                unfold rItem
                rw [if_neg hnc, hd4, if_pos e140]
              rw [hr]
              exact ⟨_, _, rfl, rfl, by show nI (at0 + j) = nI at0; rw [e140]; rfl, fun k z18 z19 => va_up_ne _ _ z18, fun k _ => rfl, fun i _ => rfl, fun z => by cases z⟩
          · skip
            replace e74 : ¬ 4 ≤ nI j := e74
            replace e74 : ¬ 4 ≤ j := fun z => e74 ((nI_leI (a := 4) (b := j) (by omega) (by omega)).mpr z)
            exfalso; omega
      | succ n1 ih =>
        intro j v hj hat3 hv hvb hdg
        refine kx_rn dM_item 1 62 [(0, .ref m), (2, .int (nI v)), (3, .int (nI j))] [.ref m] rfl ?_
        refine pM_96 (v := .int (nI (at0 + j))) rfl (kx_tk_dec rfl dM_item) (mh_o hm) rfl ?_
        refine kx_rn dM_item 1 66 [(0, .ref m), (2, .int (nI v)), (3, .int (nI j))] [.ref m, .int (nI (at0 + j))] rfl ?_
        refine pM_90 (v := .int (S 10)) rfl (kx_tk_dec rfl dM_item) (mh_o hm) rfl ?_
        rw [hl]
        refine kx_ic (tgt := 139) (kx_tk_dec rfl dM_item) rfl (fun e69 => ?_) (fun e69 => ?_)
        · skip
          replace e69 : nI ln ≤ nI (at0 + j) := e69
          replace e69 : ln ≤ at0 + j := (nI_leI (a := ln) (b := at0 + j) (by omega) (by omega)).mp e69
          have hd4 : dgN (A 7) ln 4 at0 = j := by rw [hdg, dgN_out (by rw [kCur_out (by omega)]; decide)]; rfl
          have hvb2 := pw10_b (by omega) hvb
          refine kx_rn dM_item 1 140 [(0, .ref m), (2, .int (nI v)), (3, .int (nI j))] [.int (nI j)] rfl ?_
          refine kx_if (tgt := 145) (kx_tk_dec rfl dM_item) rfl (fun e140 => ?_) (fun e140 => ?_)
          · skip
            replace e140 : ¬ nI j = 0 := e140
            replace e140 : ¬ j = 0 := fun z => e140 ((nI_eq (a := j) (b := 0) (by omega) (by omega)).mpr z)
            refine kx_rn dM_item 2 147 [(0, .ref m), (2, .int (nI v)), (3, .int (nI j))] [.int (nI v), .ref m] rfl ?_
            refine cM_99 (as := [.int (nI v)]) (st := []) (mc := 0) (ms := 0) (kc := 0) (ks := 0) rfl (kx_tk_dec rfl dM_item) (mh_o hm) rfl rfl (Nat.le_of_ble_eq_true rfl) (cM_add (n := n) hst hm hn (by omega)) (fun o h' hq => ?_)
            obtain ⟨rfl, rfl⟩ := hq
            show kx_w _ _ _ _ _ _ _ _ _ _ _
            refine kx_rn dM_item 1 151 [(0, .ref m), (2, .int (nI v)), (3, .int (nI j))] [.ref m] rfl ?_
            refine pM_96 (v := .int (nI (at0 + j))) rfl (kx_tk_dec rfl dM_item) (mh_o hm) rfl ?_
            refine kx_rn dM_item 1 155 [(0, .ref m), (2, .int (nI v)), (3, .int (nI j))] [.ref m, .int (nI (at0 + j))] rfl ?_
            refine pM_90 (v := .int (S 10)) rfl (kx_tk_dec rfl dM_item) (mh_o hm) rfl ?_
            rw [hl]
            refine kx_ic (tgt := 189) (kx_tk_dec rfl dM_item) rfl (fun e158 => ?_) (fun e158 => ?_)
            · skip
              replace e158 : nI (at0 + j) = nI ln := e158
              replace e158 : at0 + j = ln := (nI_eq (a := at0 + j) (b := ln) (by omega) (by omega)).mp e158
              refine kx_rn dM_item 2 194 [(0, .ref m), (2, .int (nI v)), (3, .int (nI j))] [.int 1] rfl ?_
              refine kx_ret (ty := .boolean) (kx_tk_dec rfl dM_item) rfl rfl ?_
              have hr : rItem (A 7) ln at0 = (true, at0 + j, [nI v]) := by
                unfold rItem
                rw [if_neg hnc, hd4, if_neg e140, hv, show (!isDig (kCur (A 7) ln (at0 + j))) = true from by rw [kCur_out (by omega)]; rfl]
              rw [hr]
              refine ⟨_, _, rfl, rfl, rfl, fun k z18 z19 => by simp only [va_up]; simp only [if_neg z18, if_neg z19], fun k z8 => va_up_ne _ _ z8, fun i hi => ?_, fun _ => ⟨rfl, atL_one ?_⟩⟩
              · show va_up (A 8) _ _ i = _; rw [va_up_ne _ _ (by omega)]
              · show va_up (A 8) _ _ (220 + n) = _; rw [va_up_self]
            · skip
              replace e158 : ¬ nI (at0 + j) = nI ln := e158
              replace e158 : ¬ at0 + j = ln := fun z => e158 ((nI_eq (a := at0 + j) (b := ln) (by omega) (by omega)).mpr z)
              refine kx_rn dM_item 1 162 [(0, .ref m), (2, .int (nI v)), (3, .int (nI j))] [.ref m] rfl ?_
              refine pM_28 (v := .ref (m + 7)) rfl (kx_tk_dec rfl dM_item) (mh_o hm) rfl ?_
              refine kx_rn dM_item 1 166 [(0, .ref m), (2, .int (nI v)), (3, .int (nI j))] [.ref m, .ref (m + 7)] rfl ?_
              refine pM_96 (v := .int (nI (at0 + j))) rfl (kx_tk_dec rfl dM_item) (mh_o hm) rfl ?_
              refine mh_ld (k := 7) (x := A 7 (at0 + j)) (i := at0 + j) rfl rfl (kx_tk_dec rfl dM_item) hm (by show at0 + j < 40; omega) ?_
              refine kx_rn dM_item 1 172 [(0, .ref m), (2, .int (nI v)), (3, .int (nI j))] [.int 48, .int (A 7 (at0 + j))] rfl ?_
              refine kx_ic (tgt := 189) (kx_tk_dec rfl dM_item) rfl (fun e172 => ?_) (fun e172 => ?_)
              · skip
                replace e172 : A 7 (at0 + j) < 48 := e172
                refine kx_rn dM_item 2 194 [(0, .ref m), (2, .int (nI v)), (3, .int (nI j))] [.int 1] rfl ?_
                refine kx_ret (ty := .boolean) (kx_tk_dec rfl dM_item) rfl rfl ?_
                have hr : rItem (A 7) ln at0 = (true, at0 + j, [nI v]) := by
                  unfold rItem
                  rw [if_neg hnc, hd4, if_neg e140, hv, show (!isDig (kCur (A 7) ln (at0 + j))) = true from by rw [kCur_in (by omega)]; show (!decide _) = true; rw [decide_eq_false (fun z => by have := z.1; rw [kI_le] at this; rw [kI_lt] at e172; omega)]; rfl]
                rw [hr]
                refine ⟨_, _, rfl, rfl, rfl, fun k z18 z19 => by simp only [va_up]; simp only [if_neg z18, if_neg z19], fun k z8 => va_up_ne _ _ z8, fun i hi => ?_, fun _ => ⟨rfl, atL_one ?_⟩⟩
                · show va_up (A 8) _ _ i = _; rw [va_up_ne _ _ (by omega)]
                · show va_up (A 8) _ _ (220 + n) = _; rw [va_up_self]
              · skip
                replace e172 : ¬ A 7 (at0 + j) < 48 := e172
                refine kx_rn dM_item 1 176 [(0, .ref m), (2, .int (nI v)), (3, .int (nI j))] [.ref m] rfl ?_
                refine pM_28 (v := .ref (m + 7)) rfl (kx_tk_dec rfl dM_item) (mh_o hm) rfl ?_
                refine kx_rn dM_item 1 180 [(0, .ref m), (2, .int (nI v)), (3, .int (nI j))] [.ref m, .ref (m + 7)] rfl ?_
                refine pM_96 (v := .int (nI (at0 + j))) rfl (kx_tk_dec rfl dM_item) (mh_o hm) rfl ?_
                refine mh_ld (k := 7) (x := A 7 (at0 + j)) (i := at0 + j) rfl rfl (kx_tk_dec rfl dM_item) hm (by show at0 + j < 40; omega) ?_
                refine kx_rn dM_item 1 186 [(0, .ref m), (2, .int (nI v)), (3, .int (nI j))] [.int 57, .int (A 7 (at0 + j))] rfl ?_
                refine kx_ic (tgt := 193) (kx_tk_dec rfl dM_item) rfl (fun e186 => ?_) (fun e186 => ?_)
                · skip
                  replace e186 : A 7 (at0 + j) ≤ 57 := e186
                  refine kx_rn dM_item 1 194 [(0, .ref m), (2, .int (nI v)), (3, .int (nI j))] [.int 0] rfl ?_
                  refine kx_ret (ty := .boolean) (kx_tk_dec rfl dM_item) rfl rfl ?_
                  have hr : rItem (A 7) ln at0 = (false, at0 + j, [nI v]) := by
                    unfold rItem
                    rw [if_neg hnc, hd4, if_neg e140, hv, show (!isDig (kCur (A 7) ln (at0 + j))) = false from by rw [kCur_in (by omega)]; show (!decide _) = false; rw [decide_eq_true ⟨by rw [kI_lt] at e172; rw [kI_le]; omega, e186⟩]; rfl]
                  rw [hr]
                  refine ⟨_, _, rfl, rfl, rfl, fun k z18 z19 => by simp only [va_up]; simp only [if_neg z18, if_neg z19], fun k z8 => va_up_ne _ _ z8, fun i hi => ?_, fun _ => ⟨rfl, atL_one ?_⟩⟩
                  · show va_up (A 8) _ _ i = _; rw [va_up_ne _ _ (by omega)]
                  · show va_up (A 8) _ _ (220 + n) = _; rw [va_up_self]
                · skip
                  replace e186 : ¬ A 7 (at0 + j) ≤ 57 := e186
                  refine kx_rn dM_item 2 194 [(0, .ref m), (2, .int (nI v)), (3, .int (nI j))] [.int 1] rfl ?_
                  refine kx_ret (ty := .boolean) (kx_tk_dec rfl dM_item) rfl rfl ?_
                  have hr : rItem (A 7) ln at0 = (true, at0 + j, [nI v]) := by
                    unfold rItem
                    rw [if_neg hnc, hd4, if_neg e140, hv, show (!isDig (kCur (A 7) ln (at0 + j))) = true from by rw [kCur_in (by omega)]; show (!decide _) = true; rw [decide_eq_false (fun z => e186 z.2)]; rfl]
                  rw [hr]
                  refine ⟨_, _, rfl, rfl, rfl, fun k z18 z19 => by simp only [va_up]; simp only [if_neg z18, if_neg z19], fun k z8 => va_up_ne _ _ z8, fun i hi => ?_, fun _ => ⟨rfl, atL_one ?_⟩⟩
                  · show va_up (A 8) _ _ i = _; rw [va_up_ne _ _ (by omega)]
                  · show va_up (A 8) _ _ (220 + n) = _; rw [va_up_self]
          · skip
            replace e140 : nI j = 0 := e140
            replace e140 : j = 0 := (nI_eq (a := j) (b := 0) (by omega) (by omega)).mp e140
            refine kx_rn dM_item 1 144 [(0, .ref m), (2, .int (nI v)), (3, .int (nI j))] [.int 0] rfl ?_
            refine kx_ret (ty := .boolean) (kx_tk_dec rfl dM_item) rfl rfl ?_
            have hr : rItem (A 7) ln at0 = (false, at0, []) := by
              unfold rItem
              rw [if_neg hnc, hd4, if_pos e140]
            rw [hr]
            exact ⟨_, _, rfl, rfl, by show nI (at0 + j) = nI at0; rw [e140]; rfl, fun k z18 z19 => va_up_ne _ _ z18, fun k _ => rfl, fun i _ => rfl, fun z => by cases z⟩
        · skip
          replace e69 : ¬ nI ln ≤ nI (at0 + j) := e69
          replace e69 : ¬ ln ≤ at0 + j := fun z => e69 ((nI_leI (a := ln) (b := at0 + j) (by omega) (by omega)).mpr z)
          refine kx_rn dM_item 2 74 [(0, .ref m), (2, .int (nI v)), (3, .int (nI j))] [.int 4, .int (nI j)] rfl ?_
          refine kx_ic (tgt := 139) (kx_tk_dec rfl dM_item) rfl (fun e74 => ?_) (fun e74 => ?_)
          · skip
            replace e74 : 4 ≤ nI j := e74
            replace e74 : 4 ≤ j := (nI_leI (a := 4) (b := j) (by omega) (by omega)).mp e74
            exfalso; omega
          · skip
            replace e74 : ¬ 4 ≤ nI j := e74
            replace e74 : ¬ 4 ≤ j := fun z => e74 ((nI_leI (a := 4) (b := j) (by omega) (by omega)).mpr z)
            refine kx_rn dM_item 1 78 [(0, .ref m), (2, .int (nI v)), (3, .int (nI j))] [.ref m] rfl ?_
            refine pM_28 (v := .ref (m + 7)) rfl (kx_tk_dec rfl dM_item) (mh_o hm) rfl ?_
            refine kx_rn dM_item 1 82 [(0, .ref m), (2, .int (nI v)), (3, .int (nI j))] [.ref m, .ref (m + 7)] rfl ?_
            refine pM_96 (v := .int (nI (at0 + j))) rfl (kx_tk_dec rfl dM_item) (mh_o hm) rfl ?_
            refine mh_ld (k := 7) (x := A 7 (at0 + j)) (i := at0 + j) rfl rfl (kx_tk_dec rfl dM_item) hm (by show at0 + j < 40; omega) ?_
            refine kx_rn dM_item 1 88 [(0, .ref m), (2, .int (nI v)), (3, .int (nI j))] [.int 48, .int (A 7 (at0 + j))] rfl ?_
            refine kx_ic (tgt := 139) (kx_tk_dec rfl dM_item) rfl (fun e88 => ?_) (fun e88 => ?_)
            · skip
              replace e88 : A 7 (at0 + j) < 48 := e88
              have hd4 : dgN (A 7) ln 4 at0 = j := by rw [hdg, dgN_out (by rw [kCur_in (by omega)]; unfold isDig; rw [decide_eq_true_eq]; rintro ⟨z, -⟩; rw [kI_le] at z; rw [kI_lt] at e88; omega)]; rfl
              have hvb2 := pw10_b (by omega) hvb
              refine kx_rn dM_item 1 140 [(0, .ref m), (2, .int (nI v)), (3, .int (nI j))] [.int (nI j)] rfl ?_
              refine kx_if (tgt := 145) (kx_tk_dec rfl dM_item) rfl (fun e140 => ?_) (fun e140 => ?_)
              · skip
                replace e140 : ¬ nI j = 0 := e140
                replace e140 : ¬ j = 0 := fun z => e140 ((nI_eq (a := j) (b := 0) (by omega) (by omega)).mpr z)
                refine kx_rn dM_item 2 147 [(0, .ref m), (2, .int (nI v)), (3, .int (nI j))] [.int (nI v), .ref m] rfl ?_
                refine cM_99 (as := [.int (nI v)]) (st := []) (mc := 0) (ms := 0) (kc := 0) (ks := 0) rfl (kx_tk_dec rfl dM_item) (mh_o hm) rfl rfl (Nat.le_of_ble_eq_true rfl) (cM_add (n := n) hst hm hn (by omega)) (fun o h' hq => ?_)
                obtain ⟨rfl, rfl⟩ := hq
                show kx_w _ _ _ _ _ _ _ _ _ _ _
                refine kx_rn dM_item 1 151 [(0, .ref m), (2, .int (nI v)), (3, .int (nI j))] [.ref m] rfl ?_
                refine pM_96 (v := .int (nI (at0 + j))) rfl (kx_tk_dec rfl dM_item) (mh_o hm) rfl ?_
                refine kx_rn dM_item 1 155 [(0, .ref m), (2, .int (nI v)), (3, .int (nI j))] [.ref m, .int (nI (at0 + j))] rfl ?_
                refine pM_90 (v := .int (S 10)) rfl (kx_tk_dec rfl dM_item) (mh_o hm) rfl ?_
                rw [hl]
                refine kx_ic (tgt := 189) (kx_tk_dec rfl dM_item) rfl (fun e158 => ?_) (fun e158 => ?_)
                · skip
                  replace e158 : nI (at0 + j) = nI ln := e158
                  replace e158 : at0 + j = ln := (nI_eq (a := at0 + j) (b := ln) (by omega) (by omega)).mp e158
                  refine kx_rn dM_item 2 194 [(0, .ref m), (2, .int (nI v)), (3, .int (nI j))] [.int 1] rfl ?_
                  refine kx_ret (ty := .boolean) (kx_tk_dec rfl dM_item) rfl rfl ?_
                  have hr : rItem (A 7) ln at0 = (true, at0 + j, [nI v]) := by
                    unfold rItem
                    rw [if_neg hnc, hd4, if_neg e140, hv, show (!isDig (kCur (A 7) ln (at0 + j))) = true from by rw [kCur_out (by omega)]; rfl]
                  rw [hr]
                  refine ⟨_, _, rfl, rfl, rfl, fun k z18 z19 => by simp only [va_up]; simp only [if_neg z18, if_neg z19], fun k z8 => va_up_ne _ _ z8, fun i hi => ?_, fun _ => ⟨rfl, atL_one ?_⟩⟩
                  · show va_up (A 8) _ _ i = _; rw [va_up_ne _ _ (by omega)]
                  · show va_up (A 8) _ _ (220 + n) = _; rw [va_up_self]
                · skip
                  replace e158 : ¬ nI (at0 + j) = nI ln := e158
                  replace e158 : ¬ at0 + j = ln := fun z => e158 ((nI_eq (a := at0 + j) (b := ln) (by omega) (by omega)).mpr z)
                  refine kx_rn dM_item 1 162 [(0, .ref m), (2, .int (nI v)), (3, .int (nI j))] [.ref m] rfl ?_
                  refine pM_28 (v := .ref (m + 7)) rfl (kx_tk_dec rfl dM_item) (mh_o hm) rfl ?_
                  refine kx_rn dM_item 1 166 [(0, .ref m), (2, .int (nI v)), (3, .int (nI j))] [.ref m, .ref (m + 7)] rfl ?_
                  refine pM_96 (v := .int (nI (at0 + j))) rfl (kx_tk_dec rfl dM_item) (mh_o hm) rfl ?_
                  refine mh_ld (k := 7) (x := A 7 (at0 + j)) (i := at0 + j) rfl rfl (kx_tk_dec rfl dM_item) hm (by show at0 + j < 40; omega) ?_
                  refine kx_rn dM_item 1 172 [(0, .ref m), (2, .int (nI v)), (3, .int (nI j))] [.int 48, .int (A 7 (at0 + j))] rfl ?_
                  refine kx_ic (tgt := 189) (kx_tk_dec rfl dM_item) rfl (fun e172 => ?_) (fun e172 => ?_)
                  · skip
                    replace e172 : A 7 (at0 + j) < 48 := e172
                    refine kx_rn dM_item 2 194 [(0, .ref m), (2, .int (nI v)), (3, .int (nI j))] [.int 1] rfl ?_
                    refine kx_ret (ty := .boolean) (kx_tk_dec rfl dM_item) rfl rfl ?_
                    have hr : rItem (A 7) ln at0 = (true, at0 + j, [nI v]) := by
                      unfold rItem
                      rw [if_neg hnc, hd4, if_neg e140, hv, show (!isDig (kCur (A 7) ln (at0 + j))) = true from by rw [kCur_in (by omega)]; show (!decide _) = true; rw [decide_eq_false (fun z => by have := z.1; rw [kI_le] at this; rw [kI_lt] at e172; omega)]; rfl]
                    rw [hr]
                    refine ⟨_, _, rfl, rfl, rfl, fun k z18 z19 => by simp only [va_up]; simp only [if_neg z18, if_neg z19], fun k z8 => va_up_ne _ _ z8, fun i hi => ?_, fun _ => ⟨rfl, atL_one ?_⟩⟩
                    · show va_up (A 8) _ _ i = _; rw [va_up_ne _ _ (by omega)]
                    · show va_up (A 8) _ _ (220 + n) = _; rw [va_up_self]
                  · skip
                    replace e172 : ¬ A 7 (at0 + j) < 48 := e172
                    refine kx_rn dM_item 1 176 [(0, .ref m), (2, .int (nI v)), (3, .int (nI j))] [.ref m] rfl ?_
                    refine pM_28 (v := .ref (m + 7)) rfl (kx_tk_dec rfl dM_item) (mh_o hm) rfl ?_
                    refine kx_rn dM_item 1 180 [(0, .ref m), (2, .int (nI v)), (3, .int (nI j))] [.ref m, .ref (m + 7)] rfl ?_
                    refine pM_96 (v := .int (nI (at0 + j))) rfl (kx_tk_dec rfl dM_item) (mh_o hm) rfl ?_
                    refine mh_ld (k := 7) (x := A 7 (at0 + j)) (i := at0 + j) rfl rfl (kx_tk_dec rfl dM_item) hm (by show at0 + j < 40; omega) ?_
                    refine kx_rn dM_item 1 186 [(0, .ref m), (2, .int (nI v)), (3, .int (nI j))] [.int 57, .int (A 7 (at0 + j))] rfl ?_
                    refine kx_ic (tgt := 193) (kx_tk_dec rfl dM_item) rfl (fun e186 => ?_) (fun e186 => ?_)
                    · skip
                      replace e186 : A 7 (at0 + j) ≤ 57 := e186
                      refine kx_rn dM_item 1 194 [(0, .ref m), (2, .int (nI v)), (3, .int (nI j))] [.int 0] rfl ?_
                      refine kx_ret (ty := .boolean) (kx_tk_dec rfl dM_item) rfl rfl ?_
                      have hr : rItem (A 7) ln at0 = (false, at0 + j, [nI v]) := by
                        unfold rItem
                        rw [if_neg hnc, hd4, if_neg e140, hv, show (!isDig (kCur (A 7) ln (at0 + j))) = false from by rw [kCur_in (by omega)]; show (!decide _) = false; rw [decide_eq_true ⟨by rw [kI_lt] at e172; rw [kI_le]; omega, e186⟩]; rfl]
                      rw [hr]
                      refine ⟨_, _, rfl, rfl, rfl, fun k z18 z19 => by simp only [va_up]; simp only [if_neg z18, if_neg z19], fun k z8 => va_up_ne _ _ z8, fun i hi => ?_, fun _ => ⟨rfl, atL_one ?_⟩⟩
                      · show va_up (A 8) _ _ i = _; rw [va_up_ne _ _ (by omega)]
                      · show va_up (A 8) _ _ (220 + n) = _; rw [va_up_self]
                    · skip
                      replace e186 : ¬ A 7 (at0 + j) ≤ 57 := e186
                      refine kx_rn dM_item 2 194 [(0, .ref m), (2, .int (nI v)), (3, .int (nI j))] [.int 1] rfl ?_
                      refine kx_ret (ty := .boolean) (kx_tk_dec rfl dM_item) rfl rfl ?_
                      have hr : rItem (A 7) ln at0 = (true, at0 + j, [nI v]) := by
                        unfold rItem
                        rw [if_neg hnc, hd4, if_neg e140, hv, show (!isDig (kCur (A 7) ln (at0 + j))) = true from by rw [kCur_in (by omega)]; show (!decide _) = true; rw [decide_eq_false (fun z => e186 z.2)]; rfl]
                      rw [hr]
                      refine ⟨_, _, rfl, rfl, rfl, fun k z18 z19 => by simp only [va_up]; simp only [if_neg z18, if_neg z19], fun k z8 => va_up_ne _ _ z8, fun i hi => ?_, fun _ => ⟨rfl, atL_one ?_⟩⟩
                      · show va_up (A 8) _ _ i = _; rw [va_up_ne _ _ (by omega)]
                      · show va_up (A 8) _ _ (220 + n) = _; rw [va_up_self]
              · skip
                replace e140 : nI j = 0 := e140
                replace e140 : j = 0 := (nI_eq (a := j) (b := 0) (by omega) (by omega)).mp e140
                refine kx_rn dM_item 1 144 [(0, .ref m), (2, .int (nI v)), (3, .int (nI j))] [.int 0] rfl ?_
                refine kx_ret (ty := .boolean) (kx_tk_dec rfl dM_item) rfl rfl ?_
                have hr : rItem (A 7) ln at0 = (false, at0, []) := by
                  unfold rItem
                  rw [if_neg hnc, hd4, if_pos e140]
                rw [hr]
                exact ⟨_, _, rfl, rfl, by show nI (at0 + j) = nI at0; rw [e140]; rfl, fun k z18 z19 => va_up_ne _ _ z18, fun k _ => rfl, fun i _ => rfl, fun z => by cases z⟩
            · skip
              replace e88 : ¬ A 7 (at0 + j) < 48 := e88
              refine kx_rn dM_item 1 92 [(0, .ref m), (2, .int (nI v)), (3, .int (nI j))] [.ref m] rfl ?_
              refine pM_28 (v := .ref (m + 7)) rfl (kx_tk_dec rfl dM_item) (mh_o hm) rfl ?_
              refine kx_rn dM_item 1 96 [(0, .ref m), (2, .int (nI v)), (3, .int (nI j))] [.ref m, .ref (m + 7)] rfl ?_
              refine pM_96 (v := .int (nI (at0 + j))) rfl (kx_tk_dec rfl dM_item) (mh_o hm) rfl ?_
              refine mh_ld (k := 7) (x := A 7 (at0 + j)) (i := at0 + j) rfl rfl (kx_tk_dec rfl dM_item) hm (by show at0 + j < 40; omega) ?_
              refine kx_rn dM_item 1 102 [(0, .ref m), (2, .int (nI v)), (3, .int (nI j))] [.int 57, .int (A 7 (at0 + j))] rfl ?_
              refine kx_ic (tgt := 139) (kx_tk_dec rfl dM_item) rfl (fun e102 => ?_) (fun e102 => ?_)
              · skip
                replace e102 : 57 < A 7 (at0 + j) := e102
                have hd4 : dgN (A 7) ln 4 at0 = j := by rw [hdg, dgN_out (by rw [kCur_in (by omega)]; unfold isDig; rw [decide_eq_true_eq]; rintro ⟨-, z⟩; rw [kI_le] at z; rw [kI_lt] at e102; omega)]; rfl
                have hvb2 := pw10_b (by omega) hvb
                refine kx_rn dM_item 1 140 [(0, .ref m), (2, .int (nI v)), (3, .int (nI j))] [.int (nI j)] rfl ?_
                refine kx_if (tgt := 145) (kx_tk_dec rfl dM_item) rfl (fun e140 => ?_) (fun e140 => ?_)
                · skip
                  replace e140 : ¬ nI j = 0 := e140
                  replace e140 : ¬ j = 0 := fun z => e140 ((nI_eq (a := j) (b := 0) (by omega) (by omega)).mpr z)
                  refine kx_rn dM_item 2 147 [(0, .ref m), (2, .int (nI v)), (3, .int (nI j))] [.int (nI v), .ref m] rfl ?_
                  refine cM_99 (as := [.int (nI v)]) (st := []) (mc := 0) (ms := 0) (kc := 0) (ks := 0) rfl (kx_tk_dec rfl dM_item) (mh_o hm) rfl rfl (Nat.le_of_ble_eq_true rfl) (cM_add (n := n) hst hm hn (by omega)) (fun o h' hq => ?_)
                  obtain ⟨rfl, rfl⟩ := hq
                  show kx_w _ _ _ _ _ _ _ _ _ _ _
                  refine kx_rn dM_item 1 151 [(0, .ref m), (2, .int (nI v)), (3, .int (nI j))] [.ref m] rfl ?_
                  refine pM_96 (v := .int (nI (at0 + j))) rfl (kx_tk_dec rfl dM_item) (mh_o hm) rfl ?_
                  refine kx_rn dM_item 1 155 [(0, .ref m), (2, .int (nI v)), (3, .int (nI j))] [.ref m, .int (nI (at0 + j))] rfl ?_
                  refine pM_90 (v := .int (S 10)) rfl (kx_tk_dec rfl dM_item) (mh_o hm) rfl ?_
                  rw [hl]
                  refine kx_ic (tgt := 189) (kx_tk_dec rfl dM_item) rfl (fun e158 => ?_) (fun e158 => ?_)
                  · skip
                    replace e158 : nI (at0 + j) = nI ln := e158
                    replace e158 : at0 + j = ln := (nI_eq (a := at0 + j) (b := ln) (by omega) (by omega)).mp e158
                    refine kx_rn dM_item 2 194 [(0, .ref m), (2, .int (nI v)), (3, .int (nI j))] [.int 1] rfl ?_
                    refine kx_ret (ty := .boolean) (kx_tk_dec rfl dM_item) rfl rfl ?_
                    have hr : rItem (A 7) ln at0 = (true, at0 + j, [nI v]) := by
                      unfold rItem
                      rw [if_neg hnc, hd4, if_neg e140, hv, show (!isDig (kCur (A 7) ln (at0 + j))) = true from by rw [kCur_out (by omega)]; rfl]
                    rw [hr]
                    refine ⟨_, _, rfl, rfl, rfl, fun k z18 z19 => by simp only [va_up]; simp only [if_neg z18, if_neg z19], fun k z8 => va_up_ne _ _ z8, fun i hi => ?_, fun _ => ⟨rfl, atL_one ?_⟩⟩
                    · show va_up (A 8) _ _ i = _; rw [va_up_ne _ _ (by omega)]
                    · show va_up (A 8) _ _ (220 + n) = _; rw [va_up_self]
                  · skip
                    replace e158 : ¬ nI (at0 + j) = nI ln := e158
                    replace e158 : ¬ at0 + j = ln := fun z => e158 ((nI_eq (a := at0 + j) (b := ln) (by omega) (by omega)).mpr z)
                    refine kx_rn dM_item 1 162 [(0, .ref m), (2, .int (nI v)), (3, .int (nI j))] [.ref m] rfl ?_
                    refine pM_28 (v := .ref (m + 7)) rfl (kx_tk_dec rfl dM_item) (mh_o hm) rfl ?_
                    refine kx_rn dM_item 1 166 [(0, .ref m), (2, .int (nI v)), (3, .int (nI j))] [.ref m, .ref (m + 7)] rfl ?_
                    refine pM_96 (v := .int (nI (at0 + j))) rfl (kx_tk_dec rfl dM_item) (mh_o hm) rfl ?_
                    refine mh_ld (k := 7) (x := A 7 (at0 + j)) (i := at0 + j) rfl rfl (kx_tk_dec rfl dM_item) hm (by show at0 + j < 40; omega) ?_
                    refine kx_rn dM_item 1 172 [(0, .ref m), (2, .int (nI v)), (3, .int (nI j))] [.int 48, .int (A 7 (at0 + j))] rfl ?_
                    refine kx_ic (tgt := 189) (kx_tk_dec rfl dM_item) rfl (fun e172 => ?_) (fun e172 => ?_)
                    · skip
                      replace e172 : A 7 (at0 + j) < 48 := e172
                      refine kx_rn dM_item 2 194 [(0, .ref m), (2, .int (nI v)), (3, .int (nI j))] [.int 1] rfl ?_
                      refine kx_ret (ty := .boolean) (kx_tk_dec rfl dM_item) rfl rfl ?_
                      have hr : rItem (A 7) ln at0 = (true, at0 + j, [nI v]) := by
                        unfold rItem
                        rw [if_neg hnc, hd4, if_neg e140, hv, show (!isDig (kCur (A 7) ln (at0 + j))) = true from by rw [kCur_in (by omega)]; show (!decide _) = true; rw [decide_eq_false (fun z => by have := z.1; rw [kI_le] at this; rw [kI_lt] at e172; omega)]; rfl]
                      rw [hr]
                      refine ⟨_, _, rfl, rfl, rfl, fun k z18 z19 => by simp only [va_up]; simp only [if_neg z18, if_neg z19], fun k z8 => va_up_ne _ _ z8, fun i hi => ?_, fun _ => ⟨rfl, atL_one ?_⟩⟩
                      · show va_up (A 8) _ _ i = _; rw [va_up_ne _ _ (by omega)]
                      · show va_up (A 8) _ _ (220 + n) = _; rw [va_up_self]
                    · skip
                      replace e172 : ¬ A 7 (at0 + j) < 48 := e172
                      refine kx_rn dM_item 1 176 [(0, .ref m), (2, .int (nI v)), (3, .int (nI j))] [.ref m] rfl ?_
                      refine pM_28 (v := .ref (m + 7)) rfl (kx_tk_dec rfl dM_item) (mh_o hm) rfl ?_
                      refine kx_rn dM_item 1 180 [(0, .ref m), (2, .int (nI v)), (3, .int (nI j))] [.ref m, .ref (m + 7)] rfl ?_
                      refine pM_96 (v := .int (nI (at0 + j))) rfl (kx_tk_dec rfl dM_item) (mh_o hm) rfl ?_
                      refine mh_ld (k := 7) (x := A 7 (at0 + j)) (i := at0 + j) rfl rfl (kx_tk_dec rfl dM_item) hm (by show at0 + j < 40; omega) ?_
                      refine kx_rn dM_item 1 186 [(0, .ref m), (2, .int (nI v)), (3, .int (nI j))] [.int 57, .int (A 7 (at0 + j))] rfl ?_
                      refine kx_ic (tgt := 193) (kx_tk_dec rfl dM_item) rfl (fun e186 => ?_) (fun e186 => ?_)
                      · skip
                        replace e186 : A 7 (at0 + j) ≤ 57 := e186
                        refine kx_rn dM_item 1 194 [(0, .ref m), (2, .int (nI v)), (3, .int (nI j))] [.int 0] rfl ?_
                        refine kx_ret (ty := .boolean) (kx_tk_dec rfl dM_item) rfl rfl ?_
                        have hr : rItem (A 7) ln at0 = (false, at0 + j, [nI v]) := by
                          unfold rItem
                          rw [if_neg hnc, hd4, if_neg e140, hv, show (!isDig (kCur (A 7) ln (at0 + j))) = false from by rw [kCur_in (by omega)]; show (!decide _) = false; rw [decide_eq_true ⟨by rw [kI_lt] at e172; rw [kI_le]; omega, e186⟩]; rfl]
                        rw [hr]
                        refine ⟨_, _, rfl, rfl, rfl, fun k z18 z19 => by simp only [va_up]; simp only [if_neg z18, if_neg z19], fun k z8 => va_up_ne _ _ z8, fun i hi => ?_, fun _ => ⟨rfl, atL_one ?_⟩⟩
                        · show va_up (A 8) _ _ i = _; rw [va_up_ne _ _ (by omega)]
                        · show va_up (A 8) _ _ (220 + n) = _; rw [va_up_self]
                      · skip
                        replace e186 : ¬ A 7 (at0 + j) ≤ 57 := e186
                        refine kx_rn dM_item 2 194 [(0, .ref m), (2, .int (nI v)), (3, .int (nI j))] [.int 1] rfl ?_
                        refine kx_ret (ty := .boolean) (kx_tk_dec rfl dM_item) rfl rfl ?_
                        have hr : rItem (A 7) ln at0 = (true, at0 + j, [nI v]) := by
                          unfold rItem
                          rw [if_neg hnc, hd4, if_neg e140, hv, show (!isDig (kCur (A 7) ln (at0 + j))) = true from by rw [kCur_in (by omega)]; show (!decide _) = true; rw [decide_eq_false (fun z => e186 z.2)]; rfl]
                        rw [hr]
                        refine ⟨_, _, rfl, rfl, rfl, fun k z18 z19 => by simp only [va_up]; simp only [if_neg z18, if_neg z19], fun k z8 => va_up_ne _ _ z8, fun i hi => ?_, fun _ => ⟨rfl, atL_one ?_⟩⟩
                        · show va_up (A 8) _ _ i = _; rw [va_up_ne _ _ (by omega)]
                        · show va_up (A 8) _ _ (220 + n) = _; rw [va_up_self]
                · skip
                  replace e140 : nI j = 0 := e140
                  replace e140 : j = 0 := (nI_eq (a := j) (b := 0) (by omega) (by omega)).mp e140
                  refine kx_rn dM_item 1 144 [(0, .ref m), (2, .int (nI v)), (3, .int (nI j))] [.int 0] rfl ?_
                  refine kx_ret (ty := .boolean) (kx_tk_dec rfl dM_item) rfl rfl ?_
                  have hr : rItem (A 7) ln at0 = (false, at0, []) := by
                    unfold rItem
                    rw [if_neg hnc, hd4, if_pos e140]
                  rw [hr]
                  exact ⟨_, _, rfl, rfl, by show nI (at0 + j) = nI at0; rw [e140]; rfl, fun k z18 z19 => va_up_ne _ _ z18, fun k _ => rfl, fun i _ => rfl, fun z => by cases z⟩
              · skip
                replace e102 : ¬ 57 < A 7 (at0 + j) := e102
                have hdj : isDig (A 7 (at0 + j)) = true := by
                  unfold isDig
                  rw [decide_eq_true_eq]
                  rw [kI_lt] at e88 e102
                  rw [kI_le, kI_le]
                  omega
                obtain ⟨x, hx, hx1, hx2⟩ := isDig_nat hdj
                have hvb2 := pw10_b (by omega) hvb
                refine kx_rn dM_item 4 110 [(0, .ref m), (2, .int (nI v)), (3, .int (nI j))] [.ref m, .int (10 * (nI v))] rfl ?_
                rw [show 10 * (nI v) = nI (10 * v) from kn_mu rfl rfl]
                refine pM_28 (v := .ref (m + 7)) rfl (kx_tk_dec rfl dM_item) (mh_o hm) rfl ?_
                refine kx_rn dM_item 1 114 [(0, .ref m), (2, .int (nI v)), (3, .int (nI j))] [.ref m, .ref (m + 7), .int (nI (10 * v))] rfl ?_
                refine pM_96 (v := .int (nI (at0 + j))) rfl (kx_tk_dec rfl dM_item) (mh_o hm) rfl ?_
                refine mh_ld (k := 7) (x := A 7 (at0 + j)) (i := at0 + j) rfl rfl (kx_tk_dec rfl dM_item) hm (by show at0 + j < 40; omega) ?_
                rw [hx]
                refine kx_rn dM_item 7 128 [(0, .ref m), (2, .int (((nI (10 * v)) + (nI x)) - 48)), (3, .int ((nI j) + 1))] [.ref m, .ref m] rfl ?_
                rw [show ((nI (10 * v)) + (nI x)) - 48 = nI (((10 * v) + x) - 48) from kn_su (kn_ad rfl rfl) rfl (by omega)]
                rw [show (nI j) + 1 = nI (j + 1) from kn_ad rfl rfl]
                refine pM_96 (v := .int (nI (at0 + j))) rfl (kx_tk_dec rfl dM_item) (mh_o hm) rfl ?_
                refine kx_rn dM_item 2 133 [(0, .ref m), (2, .int (nI (((10 * v) + x) - 48))), (3, .int (nI (j + 1)))] [.int ((nI (at0 + j)) + 1), .ref m] rfl ?_
                rw [show (nI (at0 + j)) + 1 = nI ((at0 + j) + 1) from kn_ad rfl rfl]
                refine qM_96 rfl (kx_tk_dec rfl dM_item) (mh_o hm) rfl rfl (Nat.le_of_ble_eq_true rfl) ?_
                rw [mh_p18]
                rw [va_upup]
                refine kx_rn dM_item 1 61 [(0, .ref m), (2, .int (nI (((10 * v) + x) - 48))), (3, .int (nI (j + 1)))] [] rfl ?_
                refine ih (j + 1) _ (by omega) (by omega) ?_ (by have := pw10_s (x := x - 48) (by omega) hvb (by omega); rw [show 10 * v + x - 48 = 10 * v + (x - 48) by omega]; exact this) ?_
                · show 10 * dgV (A 7) at0 j + _ = _
                  rw [hv, hx, nI_clamp (by omega)]
                  omega
                · rw [hdg, show 4 - j = (4 - (j + 1)) + 1 by omega]
                  simp only [dgN]
                  rw [kCur_in (by omega), if_pos hdj, show at0 + (j + 1) = at0 + j + 1 by omega]
                  omega
    refine kx_heq (congrArg (fun z => mH h0 m z A) (show S = va_up S 18 (nI (at0 + 0)) by rw [Nat.add_zero, ← hat, va_upsame])) ?_
    exact digits 4 0 0 rfl (by omega) rfl (by decide) (by simp)
  refine kx_rn dM_item 1 1 [(0, .ref m)] [.ref m] rfl ?_
  refine pM_96 (v := .int (S 18)) rfl (kx_tk_dec rfl dM_item) (mh_o hm) rfl ?_
  rw [hat]
  refine kx_rn dM_item 1 5 [(0, .ref m)] [.ref m, .int (nI at0)] rfl ?_
  refine pM_90 (v := .int (S 10)) rfl (kx_tk_dec rfl dM_item) (mh_o hm) rfl ?_
  rw [hl]
  refine kx_ic (tgt := 23) (kx_tk_dec rfl dM_item) rfl (fun e8 => ?_) (fun e8 => ?_)
  · skip
    replace e8 : nI ln ≤ nI at0 := e8
    replace e8 : ln ≤ at0 := (nI_leI (a := ln) (b := at0) (by omega) (by omega)).mp e8
    refine kx_rn dM_item 4 28 [(0, .ref m), (1, .int 0)] [.int 97, .int 0] rfl ?_
    refine kx_ic (tgt := 57) (kx_tk_dec rfl dM_item) rfl (fun e28 => ?_) (fun e28 => ?_)
    · skip
      replace e28 : (0 : Int32) < 97 := e28
      refine kx_rn dM_item 4 61 [(0, .ref m), (1, .int 0), (2, .int 0), (3, .int 0)] [] rfl ?_
      refine kx_lsub (lv' := [(0, .ref m), (2, .int 0), (3, .int 0)]) (.cons₂ _ (.cons _ (.cons₂ _ (.cons₂ _ .slnil)))) ?_
      exact dd (by rw [kCur_out (by omega)]; decide)
    · skip
      replace e28 : ¬ (0 : Int32) < 97 := e28
      exact absurd (by decide) e28
  · skip
    replace e8 : ¬ nI ln ≤ nI at0 := e8
    replace e8 : ¬ ln ≤ at0 := fun z => e8 ((nI_leI (a := ln) (b := at0) (by omega) (by omega)).mpr z)
    refine kx_rn dM_item 1 12 [(0, .ref m)] [.ref m] rfl ?_
    refine pM_28 (v := .ref (m + 7)) rfl (kx_tk_dec rfl dM_item) (mh_o hm) rfl ?_
    refine kx_rn dM_item 1 16 [(0, .ref m)] [.ref m, .ref (m + 7)] rfl ?_
    refine pM_96 (v := .int (S 18)) rfl (kx_tk_dec rfl dM_item) (mh_o hm) rfl ?_
    rw [hat]
    refine mh_ld (k := 7) (x := A 7 at0) (i := at0) rfl rfl (kx_tk_dec rfl dM_item) hm (by show at0 < 40; omega) ?_
    refine kx_rn dM_item 4 28 [(0, .ref m), (1, .int (A 7 at0))] [.int 97, .int (A 7 at0)] rfl ?_
    refine kx_ic (tgt := 57) (kx_tk_dec rfl dM_item) rfl (fun e28 => ?_) (fun e28 => ?_)
    · skip
      replace e28 : A 7 at0 < 97 := e28
      refine kx_rn dM_item 4 61 [(0, .ref m), (1, .int (A 7 at0)), (2, .int 0), (3, .int 0)] [] rfl ?_
      refine kx_lsub (lv' := [(0, .ref m), (2, .int 0), (3, .int 0)]) (.cons₂ _ (.cons _ (.cons₂ _ (.cons₂ _ .slnil)))) ?_
      exact dd (by rw [kCur_in (by omega)]; unfold isCol; rw [decide_eq_true_eq]; rintro ⟨z1, z2⟩; rw [kI_le] at z1 z2; rw [kI_lt] at e28; omega)
    · skip
      replace e28 : ¬ A 7 at0 < 97 := e28
      refine kx_rn dM_item 2 34 [(0, .ref m), (1, .int (A 7 at0))] [.int 100, .int (A 7 at0)] rfl ?_
      refine kx_ic (tgt := 57) (kx_tk_dec rfl dM_item) rfl (fun e34 => ?_) (fun e34 => ?_)
      · skip
        replace e34 : 100 < A 7 at0 := e34
        refine kx_rn dM_item 4 61 [(0, .ref m), (1, .int (A 7 at0)), (2, .int 0), (3, .int 0)] [] rfl ?_
        refine kx_lsub (lv' := [(0, .ref m), (2, .int 0), (3, .int 0)]) (.cons₂ _ (.cons _ (.cons₂ _ (.cons₂ _ .slnil)))) ?_
        exact dd (by rw [kCur_in (by omega)]; unfold isCol; rw [decide_eq_true_eq]; rintro ⟨z1, z2⟩; rw [kI_le] at z1 z2; rw [kI_lt] at e34; omega)
      · skip
        replace e34 : ¬ 100 < A 7 at0 := e34
        refine kx_rn dM_item 4 42 [(0, .ref m), (1, .int (A 7 at0))] [.int (96 - (A 7 at0)), .ref m] rfl ?_
        refine cM_99 (as := [.int (96 - (A 7 at0))]) (st := []) (mc := 0) (ms := 0) (kc := 0) (ks := 0) rfl (kx_tk_dec rfl dM_item) (mh_o hm) rfl rfl (Nat.le_of_ble_eq_true rfl) (cM_add (n := n) hst hm hn (by omega)) (fun o h' hq => ?_)
        obtain ⟨rfl, rfl⟩ := hq
        show kx_w _ _ _ _ _ _ _ _ _ _ _
        refine kx_rn dM_item 2 47 [(0, .ref m), (1, .int (A 7 at0))] [.ref m, .ref m] rfl ?_
        refine pM_96 (v := .int (S 18)) rfl (kx_tk_dec rfl dM_item) (mh_o hm) rfl ?_
        rw [hat]
        refine kx_rn dM_item 2 52 [(0, .ref m), (1, .int (A 7 at0))] [.int ((nI at0) + 1), .ref m] rfl ?_
        rw [show (nI at0) + 1 = nI (at0 + 1) from kn_ad rfl rfl]
        refine qM_96 rfl (kx_tk_dec rfl dM_item) (mh_o hm) rfl rfl (Nat.le_of_ble_eq_true rfl) ?_
        rw [mh_p18]
        refine kx_rn dM_item 1 56 [(0, .ref m), (1, .int (A 7 at0))] [.int 1] rfl ?_
        refine kx_ret (ty := .boolean) (kx_tk_dec rfl dM_item) rfl rfl ?_
        have hcu : kCur (A 7) ln at0 = A 7 at0 := kCur_in (by omega)
        have hr : rItem (A 7) ln at0 = (true, at0 + 1, [96 - A 7 at0]) := by
          unfold rItem
          rw [hcu, if_pos]
          unfold isCol
          rw [decide_eq_true_eq]
          rw [kI_lt] at e28 e34
          rw [kI_le, kI_le]
          omega
        rw [hr]
        refine ⟨_, _, rfl, rfl, rfl, fun k z18 z19 => by simp only [va_up]; simp only [if_neg z18, if_neg z19], fun k z8 => va_up_ne _ _ z8, fun i hi => ?_, fun _ => ⟨rfl, atL_one ?_⟩⟩
        · show va_up (A 8) _ _ i = _; rw [va_up_ne _ _ (by omega)]
        · show va_up (A 8) _ _ (220 + n) = _; rw [va_up_self]
end KM13
