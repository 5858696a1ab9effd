/-! ===== the reference: terms, comparisons ===== -/
section KM14
variable {G : kx_G} {l : Launch} {d : Nat} {h0 : kx_H} {m : Nat} {S : Nat → Int32} {A : Nat → Nat → Int32}
theorem mPR_f {S S1 : Nat → Int32} {A A1 : Nat → Nat → Int32} {n a1 : Nat} {b : Bool} {es fs : List Int32} (h : mPR S A n (b, a1, es) S1 A1) : mPR S A n (false, a1, fs) S1 A1 := ⟨h.1, h.2.1, h.2.2.1, h.2.2.2.1, fun z => by cases z⟩
theorem mPR_le {S S1 : Nat → Int32} {A A1 : Nat → Nat → Int32} {n n2 : Nat} {r : kRes} (h : mPR S A n2 r S1 A1) (hn : n ≤ n2) : S1 18 = nI r.2.1 ∧ (∀ k, k ≠ 18 → k ≠ 19 → S1 k = S k) ∧ (∀ k, k ≠ 8 → A1 k = A k) ∧ (∀ i, i < 220 + n → A1 8 i = A 8 i) := ⟨h.1, h.2.1, h.2.2.1, fun i hi => h.2.2.2.1 i (by omega)⟩
set_option maxRecDepth 100000 in
theorem cM_term {ln at0 n : Nat} (hst : l.stackTraces = false) (hm : mOk G h0 m) (hl : S 10 = nI ln) (hln : ln ≤ 40) (hat : S 18 = nI at0) (hat2 : at0 ≤ ln) (hn : S 19 = nI n) (hn2 : n ≤ at0) :
    kx_c G l mM_term (d + 2) 0 0 [.ref m] (mH h0 m S A) (fun o h' => ∃ (S1 : Nat → Int32) (A1 : Nat → Nat → Int32), o = .returned (some (.int (b01 (rTerm (A 7) ln at0).1))) ∧ h' = mH h0 m S1 A1 ∧ mPR S A n (rTerm (A 7) ln at0) S1 A1) := by
  refine kx_in (by decide +kernel) (Nat.le_of_ble_eq_true rfl) hst ?_
  have loop : ∀ n1 (b : Nat) (es : List Int32) (S2 : Nat → Int32) (A2 : Nat → Nat → Int32), ln ≤ b + n1 → b ≤ ln → n + es.length ≤ b → mPR S A n (true, b, es) S2 A2 → lpO isAri (rItem (A 7) ln) (A 7) ln n1 b es = rTerm (A 7) ln at0 → kx_w G l mM_term (d + 2) (fun o h' => ∃ (S1 : Nat → Int32) (A1 : Nat → Nat → Int32), o = .returned (some (.int (b01 (rTerm (A 7) ln at0).1))) ∧ h' = mH h0 m S1 A1 ∧ mPR S A n (rTerm (A 7) ln at0) S1 A1) 0 0 9 [(0, .ref m)] [] (mH h0 m S2 A2) := by
    intro n1
    induction n1 with
    | zero =>
      intro b es S2 A2 hf hb he hp hres
      obtain ⟨p18, pS, pA, p8, p19⟩ := id hp
      obtain ⟨p19, p8l⟩ := p19 rfl
      have q10 : S2 10 = nI ln := by rw [pS 10 (by decide) (by decide)]; exact hl
      have q7 : A2 7 = A 7 := pA 7 (by decide)
      have p18' : S2 18 = nI b := p18
      have p19' : S2 19 = nI (n + es.length) := p19
      refine kx_rn dM_term 1 10 [(0, .ref m)] [.ref m] rfl ?_
      refine pM_96 (v := .int (S2 18)) rfl (kx_tk_dec rfl dM_term) (mh_o hm) rfl ?_
      rw [p18']
      refine kx_rn dM_term 1 14 [(0, .ref m)] [.ref m, .int (nI b)] rfl ?_
      refine pM_90 (v := .int (S2 10)) rfl (kx_tk_dec rfl dM_term) (mh_o hm) rfl ?_
      rw [q10]
      refine kx_ic (tgt := 75) (kx_tk_dec rfl dM_term) rfl (fun e17 => ?_) (fun e17 => ?_)
      · skip
        replace e17 : nI ln ≤ nI b := e17
        replace e17 : ln ≤ b := (nI_leI (a := ln) (b := b) (by omega) (by omega)).mp e17
        refine kx_rn dM_term 1 76 [(0, .ref m)] [.int 1] rfl ?_
        refine kx_ret (ty := .boolean) (kx_tk_dec rfl dM_term) rfl rfl ?_
        have hr : rTerm (A 7) ln at0 = (true, b, es) := by rw [← hres]; rfl
        rw [hr]
        exact ⟨S2, A2, rfl, rfl, hp⟩
      · skip
        replace e17 : ¬ nI ln ≤ nI b := e17
        replace e17 : ¬ ln ≤ b := fun z => e17 ((nI_leI (a := ln) (b := b) (by omega) (by omega)).mpr z)
        exfalso; omega
    | succ n1 ih =>
      intro b es S2 A2 hf hb he hp hres
      obtain ⟨p18, pS, pA, p8, p19⟩ := id hp
      obtain ⟨p19, p8l⟩ := p19 rfl
      have q10 : S2 10 = nI ln := by rw [pS 10 (by decide) (by decide)]; exact hl
      have q7 : A2 7 = A 7 := pA 7 (by decide)
      have p18' : S2 18 = nI b := p18
      have p19' : S2 19 = nI (n + es.length) := p19
      refine kx_rn dM_term 1 10 [(0, .ref m)] [.ref m] rfl ?_
      refine pM_96 (v := .int (S2 18)) rfl (kx_tk_dec rfl dM_term) (mh_o hm) rfl ?_
      rw [p18']
      refine kx_rn dM_term 1 14 [(0, .ref m)] [.ref m, .int (nI b)] rfl ?_
      refine pM_90 (v := .int (S2 10)) rfl (kx_tk_dec rfl dM_term) (mh_o hm) rfl ?_
      rw [q10]
      refine kx_ic (tgt := 75) (kx_tk_dec rfl dM_term) rfl (fun e17 => ?_) (fun e17 => ?_)
      · skip
        replace e17 : nI ln ≤ nI b := e17
        replace e17 : ln ≤ b := (nI_leI (a := ln) (b := b) (by omega) (by omega)).mp e17
        refine kx_rn dM_term 1 76 [(0, .ref m)] [.int 1] rfl ?_
        refine kx_ret (ty := .boolean) (kx_tk_dec rfl dM_term) rfl rfl ?_
        have hr : rTerm (A 7) ln at0 = (true, b, es) := by rw [← hres]; simp only [lpO]; rw [kCur_out (by omega)]; rfl
        rw [hr]
        exact ⟨S2, A2, rfl, rfl, hp⟩
      · skip
        replace e17 : ¬ nI ln ≤ nI b := e17
        replace e17 : ¬ ln ≤ b := fun z => e17 ((nI_leI (a := ln) (b := b) (by omega) (by omega)).mpr z)
        refine kx_rn dM_term 1 21 [(0, .ref m)] [.ref m] rfl ?_
        refine pM_28 (v := .ref (m + 7)) rfl (kx_tk_dec rfl dM_term) (mh_o hm) rfl ?_
        refine kx_rn dM_term 1 25 [(0, .ref m)] [.ref m, .ref (m + 7)] rfl ?_
        refine pM_96 (v := .int (S2 18)) rfl (kx_tk_dec rfl dM_term) (mh_o hm) rfl ?_
        rw [p18']
        refine mh_ld (k := 7) (x := A2 7 b) (i := b) rfl rfl (kx_tk_dec rfl dM_term) hm (by show b < 40; omega) ?_
        rw [q7]
        refine cM_107 (as := [.int (A 7 b)]) (st := []) (mc := 0) (ms := 0) (kc := 0) (ks := 0) rfl (kx_tk_dec rfl dM_term) rfl rfl (Nat.le_of_ble_eq_true rfl) (cM_arithmetic hst) (fun o h' hq => ?_)
        obtain ⟨ba, rfl, rfl, hba⟩ := hq
        show kx_w _ _ _ _ _ _ _ _ _ _ _
        refine kx_if (tgt := 75) (kx_tk_dec rfl dM_term) rfl (fun e32 => ?_) (fun e32 => ?_)
        · skip
          replace e32 : b01 ba = 0 := e32
          replace e32 : ba = false := b01_f e32
          refine kx_rn dM_term 1 76 [(0, .ref m)] [.int 1] rfl ?_
          refine kx_ret (ty := .boolean) (kx_tk_dec rfl dM_term) rfl rfl ?_
          have hr : rTerm (A 7) ln at0 = (true, b, es) := by rw [← hres]; simp only [lpO]; rw [kCur_in (by omega), ← hba, if_neg (by rw [e32]; decide)]
          rw [hr]
          exact ⟨S2, A2, rfl, rfl, hp⟩
        · skip
          replace e32 : ¬ b01 ba = 0 := e32
          replace e32 : ba = true := b01_t e32
          refine kx_rn dM_term 1 36 [(0, .ref m)] [.ref m] rfl ?_
          refine pM_28 (v := .ref (m + 7)) rfl (kx_tk_dec rfl dM_term) (mh_o hm) rfl ?_
          refine kx_rn dM_term 1 40 [(0, .ref m)] [.ref m, .ref (m + 7)] rfl ?_
          refine pM_96 (v := .int (S2 18)) rfl (kx_tk_dec rfl dM_term) (mh_o hm) rfl ?_
          rw [p18']
          refine mh_ld (k := 7) (x := A2 7 b) (i := b) rfl rfl (kx_tk_dec rfl dM_term) hm (by show b < 40; omega) ?_
          rw [q7]
          refine kx_rn dM_term 3 47 [(0, .ref m), (1, .int (A 7 b))] [.ref m, .ref m] rfl ?_
          refine pM_96 (v := .int (S2 18)) rfl (kx_tk_dec rfl dM_term) (mh_o hm) rfl ?_
          rw [p18']
          refine kx_rn dM_term 2 52 [(0, .ref m), (1, .int (A 7 b))] [.int ((nI b) + 1), .ref m] rfl ?_
          rw [show (nI b) + 1 = nI (b + 1) from kn_ad rfl rfl]
          refine qM_96 rfl (kx_tk_dec rfl dM_term) (mh_o hm) rfl rfl (Nat.le_of_ble_eq_true rfl) ?_
          rw [mh_p18]
          refine kx_rn dM_term 1 56 [(0, .ref m), (1, .int (A 7 b))] [.ref m] rfl ?_
          have hit := cM_item (d := d) (S := va_up S2 18 (nI (b + 1))) (A := A2) (ln := ln) (at0 := b + 1) (n := n + es.length) hst hm q10 hln rfl (by omega) p19' (by omega)
          rw [q7] at hit
          refine cM_103 (as := []) (st := []) (mc := 0) (ms := 0) (kc := 0) (ks := 0) rfl (kx_tk_dec rfl dM_term) (mh_o hm) rfl rfl (Nat.le_of_ble_eq_true rfl) (hit) (fun o h' hq => ?_)
          obtain ⟨S3, A3, rfl, rfl, hp3⟩ := hq
          show kx_w _ _ _ _ _ _ _ _ _ _ _
          refine kx_if (tgt := 64) (kx_tk_dec rfl dM_term) rfl (fun e59 => ?_) (fun e59 => ?_)
          · skip
            replace e59 : ¬ b01 ((rItem (A 7) ln (b + 1)).1) = 0 := e59
            replace e59 : (rItem (A 7) ln (b + 1)).1 = true := b01_t e59
            refine kx_rn dM_term 4 69 [(0, .ref m), (1, .int (A 7 b))] [.int (((-100)) - (A 7 b)), .ref m] rfl ?_
            obtain ⟨y18, yS, yA, y8, y19⟩ := id hp3
            obtain ⟨y19, y8l⟩ := y19 e59
            obtain ⟨g1, g2, g3⟩ := rItem_gd (A 7) ln (b + 1) (by omega)
            obtain ⟨g4, g5⟩ := g3 e59
            refine cM_99 (as := [.int (((-100)) - (A 7 b))]) (st := []) (mc := 0) (ms := 0) (kc := 0) (ks := 0) rfl (kx_tk_dec rfl dM_term) (mh_o hm) rfl rfl (Nat.le_of_ble_eq_true rfl) (cM_add (S := S3) (A := A3) (n := n + es.length + (rItem (A 7) ln (b + 1)).2.2.length) (x := -100 - A 7 b) hst hm y19 (by omega)) (fun o h' hq => ?_)
            obtain ⟨rfl, rfl⟩ := hq
            show kx_w _ _ _ _ _ _ _ _ _ _ _
            refine kx_rn dM_term 1 9 [(0, .ref m), (1, .int (A 7 b))] [] rfl ?_
            refine kx_lsub (lv' := [(0, .ref m)]) (.cons₂ _ (.cons _ .slnil)) ?_
            refine ih _ (es ++ (rItem (A 7) ln (b + 1)).2.2 ++ [-100 - A 7 b]) _ _ (by omega) g2 (by simp only [List.length_append, List.length_cons, List.length_nil]; omega) ⟨y18, fun k z18 z19 => by rw [va_up_ne _ _ z19, yS k z18 z19, va_up_ne _ _ z18, pS k z18 z19], fun k z8 => by rw [va_up_ne _ _ z8, yA k z8, pA k z8], fun i hi => ?_, fun _ => ⟨?_, ?_⟩⟩ ?_
            · show va_up (A3 8) _ _ i = _
              rw [va_up_ne _ _ (by omega), y8 i (by omega), p8 i hi]
            · show nI _ = nI _
              congr 1
              simp only [List.length_append, List.length_cons, List.length_nil]
              omega
            · show atL (va_up (A3 8) _ _) _ _
              refine atL_app (atL_app (atL_keep p8l (fun i hi => ?_)) (atL_keep (F := A3 8) ?_ (fun i hi => ?_))) (atL_one ?_)
              · rw [va_up_ne _ _ (by omega), y8 i (by omega)]
              · rw [show 220 + n + es.length = 220 + (n + es.length) by omega]; exact y8l
              · rw [va_up_ne _ _ (by omega)]
              · rw [show 220 + n + (es ++ (rItem (A 7) ln (b + 1)).2.2).length = 220 + (n + es.length + (rItem (A 7) ln (b + 1)).2.2.length) by simp only [List.length_append]; omega, va_up_self]
            · rw [← hres]
              simp only [lpO]
              rw [kCur_in (by omega), ← hba, if_pos e32, if_pos e59]
          · skip
            replace e59 : b01 ((rItem (A 7) ln (b + 1)).1) = 0 := e59
            replace e59 : (rItem (A 7) ln (b + 1)).1 = false := b01_f e59
            refine kx_rn dM_term 1 63 [(0, .ref m), (1, .int (A 7 b))] [.int 0] rfl ?_
            refine kx_ret (ty := .boolean) (kx_tk_dec rfl dM_term) rfl rfl ?_
            have hr : rTerm (A 7) ln at0 = (false, (rItem (A 7) ln (b + 1)).2.1, []) := by
              rw [← hres]
              simp only [lpO]
              rw [kCur_in (by omega), ← hba, if_pos e32, if_neg (by rw [e59]; decide)]
            rw [hr]
            obtain ⟨z1, z2, z3, z4⟩ := mPR_le (n := n) hp3 (by omega)
            exact ⟨S3, A3, rfl, rfl, z1, fun k z18 z19 => by rw [z2 k z18 z19, va_up_ne _ _ z18, pS k z18 z19], fun k z8 => by rw [z3 k z8, pA k z8], fun i hi => by rw [z4 i hi, p8 i hi], fun z => by cases z⟩
  refine kx_rn dM_term 1 1 [(0, .ref m)] [.ref m] rfl ?_
  refine cM_103 (as := []) (st := []) (mc := 0) (ms := 0) (kc := 0) (ks := 0) rfl (kx_tk_dec rfl dM_term) (mh_o hm) rfl rfl (Nat.le_of_ble_eq_true rfl) (cM_item hst hm hl hln hat hat2 hn hn2) (fun o h' hq => ?_)
  obtain ⟨S1, A1, rfl, rfl, hp1⟩ := hq
  show kx_w _ _ _ _ _ _ _ _ _ _ _
  refine kx_if (tgt := 9) (kx_tk_dec rfl dM_term) rfl (fun e4 => ?_) (fun e4 => ?_)
  · skip
    replace e4 : ¬ b01 ((rItem (A 7) ln at0).1) = 0 := e4
    replace e4 : (rItem (A 7) ln at0).1 = true := b01_t e4
    obtain ⟨g1, g2, g3⟩ := rItem_gd (A 7) ln at0 hat2
    obtain ⟨g4, g5⟩ := g3 e4
    refine loop 40 _ (rItem (A 7) ln at0).2.2 S1 A1 (by omega) g2 (by omega) ?_ (by unfold rTerm sqO; rw [if_pos e4])
    have z : (true, (rItem (A 7) ln at0).2.1, (rItem (A 7) ln at0).2.2) = rItem (A 7) ln at0 := by rw [← e4]
    rw [z]
    exact hp1
  · skip
    replace e4 : b01 ((rItem (A 7) ln at0).1) = 0 := e4
    replace e4 : (rItem (A 7) ln at0).1 = false := b01_f e4
    refine kx_rn dM_term 1 8 [(0, .ref m)] [.int 0] rfl ?_
    refine kx_ret (ty := .boolean) (kx_tk_dec rfl dM_term) rfl rfl ?_
    have hr : rTerm (A 7) ln at0 = (false, (rItem (A 7) ln at0).2.1, []) := by unfold rTerm sqO; rw [if_neg (by rw [e4]; decide)]
    rw [hr]
    exact ⟨S1, A1, rfl, rfl, mPR_f (b := (rItem (A 7) ln at0).1) (es := (rItem (A 7) ln at0).2.2) hp1⟩
set_option maxRecDepth 100000 in
theorem cM_comparison {ln at0 n : Nat} (hst : l.stackTraces = false) (hm : mOk G h0 m) (hl : S 10 = nI ln) (hln : ln ≤ 40) (hat : S 18 = nI at0) (hat2 : at0 ≤ ln) (hn : S 19 = nI n) (hn2 : n ≤ at0) :
    kx_c G l mM_comparison (d + 3) 0 0 [.ref m] (mH h0 m S A) (fun o h' => ∃ (S1 : Nat → Int32) (A1 : Nat → Nat → Int32), o = .returned (some (.int (b01 (rComp (A 7) ln at0).1))) ∧ h' = mH h0 m S1 A1 ∧ mPR S A n (rComp (A 7) ln at0) S1 A1) := by
  refine kx_in (by decide +kernel) (Nat.le_of_ble_eq_true rfl) hst ?_
  refine kx_rn dM_comparison 1 1 [(0, .ref m)] [.ref m] rfl ?_
  refine cM_116 (as := []) (st := []) (mc := 0) (ms := 0) (kc := 0) (ks := 0) rfl (kx_tk_dec rfl dM_comparison) (mh_o hm) rfl rfl (Nat.le_of_ble_eq_true rfl) (cM_term hst hm hl hln hat hat2 hn hn2) (fun o h' hq => ?_)
  obtain ⟨S1, A1, rfl, rfl, hp1⟩ := hq
  show kx_w _ _ _ _ _ _ _ _ _ _ _
  obtain ⟨p18, pS, pA, p8, p19⟩ := id hp1
  have q10 : S1 10 = nI ln := by rw [pS 10 (by decide) (by decide)]; exact hl
  have q7 : A1 7 = A 7 := pA 7 (by decide)
  obtain ⟨g1, g2, g3⟩ := rTerm_gd (A 7) ln at0 hat2
  refine kx_if (tgt := 18) (kx_tk_dec rfl dM_comparison) rfl (fun e4 => ?_) (fun e4 => ?_)
  · skip
    replace e4 : b01 ((rTerm (A 7) ln at0).1) = 0 := e4
    replace e4 : (rTerm (A 7) ln at0).1 = false := b01_f e4
    refine kx_rn dM_comparison 1 19 [(0, .ref m)] [.int 0] rfl ?_
    refine kx_ret (ty := .boolean) (kx_tk_dec rfl dM_comparison) rfl rfl ?_
    have hr : rComp (A 7) ln at0 = (false, (rTerm (A 7) ln at0).2.1, []) := by unfold rComp; rw [if_neg (by rw [e4]; decide)]
    rw [hr]
    exact ⟨S1, A1, rfl, rfl, mPR_f (b := (rTerm (A 7) ln at0).1) (es := (rTerm (A 7) ln at0).2.2) hp1⟩
  · skip
    replace e4 : ¬ b01 ((rTerm (A 7) ln at0).1) = 0 := e4
    replace e4 : (rTerm (A 7) ln at0).1 = true := b01_t e4
    refine kx_rn dM_comparison 1 8 [(0, .ref m)] [.ref m] rfl ?_
    refine pM_96 (v := .int (S1 18)) rfl (kx_tk_dec rfl dM_comparison) (mh_o hm) rfl ?_
    rw [p18]
    refine kx_rn dM_comparison 1 12 [(0, .ref m)] [.ref m, .int (nI ((rTerm (A 7) ln at0).2.1))] rfl ?_
    refine pM_90 (v := .int (S1 10)) rfl (kx_tk_dec rfl dM_comparison) (mh_o hm) rfl ?_
    rw [q10]
    refine kx_ic (tgt := 20) (kx_tk_dec rfl dM_comparison) rfl (fun e15 => ?_) (fun e15 => ?_)
    · skip
      replace e15 : ¬ nI ((rTerm (A 7) ln at0).2.1) = nI ln := e15
      replace e15 : ¬ (rTerm (A 7) ln at0).2.1 = ln := fun z => e15 ((nI_eq (a := (rTerm (A 7) ln at0).2.1) (b := ln) (by omega) (by omega)).mpr z)
      refine kx_rn dM_comparison 1 21 [(0, .ref m)] [.ref m] rfl ?_
      refine pM_28 (v := .ref (m + 7)) rfl (kx_tk_dec rfl dM_comparison) (mh_o hm) rfl ?_
      refine kx_rn dM_comparison 1 25 [(0, .ref m)] [.ref m, .ref (m + 7)] rfl ?_
      refine pM_96 (v := .int (S1 18)) rfl (kx_tk_dec rfl dM_comparison) (mh_o hm) rfl ?_
      rw [p18]
      refine mh_ld (k := 7) (x := A1 7 ((rTerm (A 7) ln at0).2.1)) (i := (rTerm (A 7) ln at0).2.1) rfl rfl (kx_tk_dec rfl dM_comparison) hm (by show (rTerm (A 7) ln at0).2.1 < 40; omega) ?_
      rw [q7]
      refine kx_rn dM_comparison 3 33 [(0, .ref m), (1, .int (A 7 (rTerm (A 7) ln at0).2.1))] [.int 61, .int (A 7 (rTerm (A 7) ln at0).2.1)] rfl ?_
      refine kx_ic (tgt := 56) (kx_tk_dec rfl dM_comparison) rfl (fun e33 => ?_) (fun e33 => ?_)
      · skip
        replace e33 : A 7 (rTerm (A 7) ln at0).2.1 = 61 := e33
        have hcm : isCmp (kCur (A 7) ln (rTerm (A 7) ln at0).2.1) = true := by rw [kCur_in (by omega)]; unfold isCmp; rw [decide_eq_true_eq]; exact Or.inl e33
        refine kx_rn dM_comparison 2 58 [(0, .ref m), (1, .int (A 7 (rTerm (A 7) ln at0).2.1))] [.ref m, .ref m] rfl ?_
        refine pM_96 (v := .int (S1 18)) rfl (kx_tk_dec rfl dM_comparison) (mh_o hm) rfl ?_
        rw [p18]
        refine kx_rn dM_comparison 2 63 [(0, .ref m), (1, .int (A 7 (rTerm (A 7) ln at0).2.1))] [.int ((nI ((rTerm (A 7) ln at0).2.1)) + 1), .ref m] rfl ?_
        rw [show (nI ((rTerm (A 7) ln at0).2.1)) + 1 = nI (((rTerm (A 7) ln at0).2.1) + 1) from kn_ad rfl rfl]
        refine qM_96 rfl (kx_tk_dec rfl dM_comparison) (mh_o hm) rfl rfl (Nat.le_of_ble_eq_true rfl) ?_
        rw [mh_p18]
        refine kx_rn dM_comparison 1 67 [(0, .ref m), (1, .int (A 7 (rTerm (A 7) ln at0).2.1))] [.ref m] rfl ?_
        obtain ⟨p19, p8l⟩ := p19 e4
        obtain ⟨g4, g5⟩ := g3 e4
        have hit := cM_term (d := d) (S := va_up S1 18 (nI ((rTerm (A 7) ln at0).2.1 + 1))) (A := A1) (ln := ln) (at0 := (rTerm (A 7) ln at0).2.1 + 1) (n := n + (rTerm (A 7) ln at0).2.2.length) hst hm q10 hln rfl (by omega) p19 (by omega)
        rw [q7] at hit
        refine cM_116 (as := []) (st := []) (mc := 0) (ms := 0) (kc := 0) (ks := 0) rfl (kx_tk_dec rfl dM_comparison) (mh_o hm) rfl rfl (Nat.le_of_ble_eq_true rfl) (hit) (fun o h' hq => ?_)
        obtain ⟨S3, A3, rfl, rfl, hp3⟩ := hq
        show kx_w _ _ _ _ _ _ _ _ _ _ _
        obtain ⟨y18, yS, yA, y8, y19⟩ := id hp3
        obtain ⟨f1, f2, f3⟩ := rTerm_gd (A 7) ln ((rTerm (A 7) ln at0).2.1 + 1) (by omega)
        refine kx_if (tgt := 75) (kx_tk_dec rfl dM_comparison) rfl (fun e70 => ?_) (fun e70 => ?_)
        · skip
          replace e70 : ¬ b01 ((rTerm (A 7) ln ((rTerm (A 7) ln at0).2.1 + 1)).1) = 0 := e70
          replace e70 : (rTerm (A 7) ln ((rTerm (A 7) ln at0).2.1 + 1)).1 = true := b01_t e70
          refine kx_rn dM_comparison 4 80 [(0, .ref m), (1, .int (A 7 (rTerm (A 7) ln at0).2.1))] [.int (((-100)) - (A 7 (rTerm (A 7) ln at0).2.1)), .ref m] rfl ?_
          obtain ⟨y19, y8l⟩ := y19 e70
          obtain ⟨f4, f5⟩ := f3 e70
          refine cM_99 (as := [.int (((-100)) - (A 7 (rTerm (A 7) ln at0).2.1))]) (st := []) (mc := 0) (ms := 0) (kc := 0) (ks := 0) rfl (kx_tk_dec rfl dM_comparison) (mh_o hm) rfl rfl (Nat.le_of_ble_eq_true rfl) (cM_add (S := S3) (A := A3) (n := n + (rTerm (A 7) ln at0).2.2.length + (rTerm (A 7) ln ((rTerm (A 7) ln at0).2.1 + 1)).2.2.length) (x := -100 - A 7 (rTerm (A 7) ln at0).2.1) hst hm y19 (by omega)) (fun o h' hq => ?_)
          obtain ⟨rfl, rfl⟩ := hq
          show kx_w _ _ _ _ _ _ _ _ _ _ _
          refine kx_rn dM_comparison 1 84 [(0, .ref m), (1, .int (A 7 (rTerm (A 7) ln at0).2.1))] [.int 1] rfl ?_
          refine kx_ret (ty := .boolean) (kx_tk_dec rfl dM_comparison) rfl rfl ?_
          have hr : rComp (A 7) ln at0 = (true, (rTerm (A 7) ln ((rTerm (A 7) ln at0).2.1 + 1)).2.1, (rTerm (A 7) ln at0).2.2 ++ (rTerm (A 7) ln ((rTerm (A 7) ln at0).2.1 + 1)).2.2 ++ [-100 - A 7 (rTerm (A 7) ln at0).2.1]) := by unfold rComp; rw [if_pos e4, if_pos hcm, if_pos e70, kCur_in (by omega)]
          rw [hr]
          refine ⟨_, _, rfl, rfl, y18, fun k z18 z19 => by rw [va_up_ne _ _ z19, yS k z18 z19, va_up_ne _ _ z18, pS k z18 z19], fun k z8 => by rw [va_up_ne _ _ z8, yA k z8, pA k z8], fun i hi => ?_, fun _ => ⟨?_, ?_⟩⟩
          · show va_up (A3 8) _ _ i = _
            rw [va_up_ne _ _ (by omega), y8 i (by omega), p8 i hi]
          · show nI _ = nI _
            congr 1
            simp only [List.length_append, List.length_cons, List.length_nil]
            omega
          · show atL (va_up (A3 8) _ _) _ _
            refine atL_app (atL_app (atL_keep p8l (fun i hi => ?_)) (atL_keep (F := A3 8) ?_ (fun i hi => ?_))) (atL_one ?_)
            · rw [va_up_ne _ _ (by omega), y8 i (by omega)]
            · rw [show 220 + n + (rTerm (A 7) ln at0).2.2.length = 220 + (n + (rTerm (A 7) ln at0).2.2.length) by omega]; exact y8l
            · rw [va_up_ne _ _ (by omega)]
            · rw [show 220 + n + ((rTerm (A 7) ln at0).2.2 ++ (rTerm (A 7) ln ((rTerm (A 7) ln at0).2.1 + 1)).2.2).length = 220 + (n + (rTerm (A 7) ln at0).2.2.length + (rTerm (A 7) ln ((rTerm (A 7) ln at0).2.1 + 1)).2.2.length) by simp only [List.length_append]; omega, va_up_self]
        · skip
          replace e70 : b01 ((rTerm (A 7) ln ((rTerm (A 7) ln at0).2.1 + 1)).1) = 0 := e70
          replace e70 : (rTerm (A 7) ln ((rTerm (A 7) ln at0).2.1 + 1)).1 = false := b01_f e70
          refine kx_rn dM_comparison 1 74 [(0, .ref m), (1, .int (A 7 (rTerm (A 7) ln at0).2.1))] [.int 0] rfl ?_
          refine kx_ret (ty := .boolean) (kx_tk_dec rfl dM_comparison) rfl rfl ?_
          have hr : rComp (A 7) ln at0 = (false, (rTerm (A 7) ln ((rTerm (A 7) ln at0).2.1 + 1)).2.1, []) := by unfold rComp; rw [if_pos e4, if_pos hcm, if_neg (by rw [e70]; decide)]
          rw [hr]
          obtain ⟨z1, z2, z3, z4⟩ := mPR_le (n := n) hp3 (by omega)
          exact ⟨S3, A3, rfl, rfl, z1, fun k z18 z19 => by rw [z2 k z18 z19, va_up_ne _ _ z18, pS k z18 z19], fun k z8 => by rw [z3 k z8, pA k z8], fun i hi => by rw [z4 i hi, p8 i hi], fun z => by cases z⟩
      · skip
        replace e33 : ¬ A 7 (rTerm (A 7) ln at0).2.1 = 61 := e33
        refine kx_rn dM_comparison 2 39 [(0, .ref m), (1, .int (A 7 (rTerm (A 7) ln at0).2.1))] [.int 35, .int (A 7 (rTerm (A 7) ln at0).2.1)] rfl ?_
        refine kx_ic (tgt := 56) (kx_tk_dec rfl dM_comparison) rfl (fun e39 => ?_) (fun e39 => ?_)
        · skip
          replace e39 : A 7 (rTerm (A 7) ln at0).2.1 = 35 := e39
          have hcm : isCmp (kCur (A 7) ln (rTerm (A 7) ln at0).2.1) = true := by rw [kCur_in (by omega)]; unfold isCmp; rw [decide_eq_true_eq]; exact Or.inr (Or.inl e39)
          refine kx_rn dM_comparison 2 58 [(0, .ref m), (1, .int (A 7 (rTerm (A 7) ln at0).2.1))] [.ref m, .ref m] rfl ?_
          refine pM_96 (v := .int (S1 18)) rfl (kx_tk_dec rfl dM_comparison) (mh_o hm) rfl ?_
          rw [p18]
          refine kx_rn dM_comparison 2 63 [(0, .ref m), (1, .int (A 7 (rTerm (A 7) ln at0).2.1))] [.int ((nI ((rTerm (A 7) ln at0).2.1)) + 1), .ref m] rfl ?_
          rw [show (nI ((rTerm (A 7) ln at0).2.1)) + 1 = nI (((rTerm (A 7) ln at0).2.1) + 1) from kn_ad rfl rfl]
          refine qM_96 rfl (kx_tk_dec rfl dM_comparison) (mh_o hm) rfl rfl (Nat.le_of_ble_eq_true rfl) ?_
          rw [mh_p18]
          refine kx_rn dM_comparison 1 67 [(0, .ref m), (1, .int (A 7 (rTerm (A 7) ln at0).2.1))] [.ref m] rfl ?_
          obtain ⟨p19, p8l⟩ := p19 e4
          obtain ⟨g4, g5⟩ := g3 e4
          have hit := cM_term (d := d) (S := va_up S1 18 (nI ((rTerm (A 7) ln at0).2.1 + 1))) (A := A1) (ln := ln) (at0 := (rTerm (A 7) ln at0).2.1 + 1) (n := n + (rTerm (A 7) ln at0).2.2.length) hst hm q10 hln rfl (by omega) p19 (by omega)
          rw [q7] at hit
          refine cM_116 (as := []) (st := []) (mc := 0) (ms := 0) (kc := 0) (ks := 0) rfl (kx_tk_dec rfl dM_comparison) (mh_o hm) rfl rfl (Nat.le_of_ble_eq_true rfl) (hit) (fun o h' hq => ?_)
          obtain ⟨S3, A3, rfl, rfl, hp3⟩ := hq
          show kx_w _ _ _ _ _ _ _ _ _ _ _
          obtain ⟨y18, yS, yA, y8, y19⟩ := id hp3
          obtain ⟨f1, f2, f3⟩ := rTerm_gd (A 7) ln ((rTerm (A 7) ln at0).2.1 + 1) (by omega)
          refine kx_if (tgt := 75) (kx_tk_dec rfl dM_comparison) rfl (fun e70 => ?_) (fun e70 => ?_)
          · skip
            replace e70 : ¬ b01 ((rTerm (A 7) ln ((rTerm (A 7) ln at0).2.1 + 1)).1) = 0 := e70
            replace e70 : (rTerm (A 7) ln ((rTerm (A 7) ln at0).2.1 + 1)).1 = true := b01_t e70
            refine kx_rn dM_comparison 4 80 [(0, .ref m), (1, .int (A 7 (rTerm (A 7) ln at0).2.1))] [.int (((-100)) - (A 7 (rTerm (A 7) ln at0).2.1)), .ref m] rfl ?_
            obtain ⟨y19, y8l⟩ := y19 e70
            obtain ⟨f4, f5⟩ := f3 e70
            refine cM_99 (as := [.int (((-100)) - (A 7 (rTerm (A 7) ln at0).2.1))]) (st := []) (mc := 0) (ms := 0) (kc := 0) (ks := 0) rfl (kx_tk_dec rfl dM_comparison) (mh_o hm) rfl rfl (Nat.le_of_ble_eq_true rfl) (cM_add (S := S3) (A := A3) (n := n + (rTerm (A 7) ln at0).2.2.length + (rTerm (A 7) ln ((rTerm (A 7) ln at0).2.1 + 1)).2.2.length) (x := -100 - A 7 (rTerm (A 7) ln at0).2.1) hst hm y19 (by omega)) (fun o h' hq => ?_)
            obtain ⟨rfl, rfl⟩ := hq
            show kx_w _ _ _ _ _ _ _ _ _ _ _
            refine kx_rn dM_comparison 1 84 [(0, .ref m), (1, .int (A 7 (rTerm (A 7) ln at0).2.1))] [.int 1] rfl ?_
            refine kx_ret (ty := .boolean) (kx_tk_dec rfl dM_comparison) rfl rfl ?_
            have hr : rComp (A 7) ln at0 = (true, (rTerm (A 7) ln ((rTerm (A 7) ln at0).2.1 + 1)).2.1, (rTerm (A 7) ln at0).2.2 ++ (rTerm (A 7) ln ((rTerm (A 7) ln at0).2.1 + 1)).2.2 ++ [-100 - A 7 (rTerm (A 7) ln at0).2.1]) := by unfold rComp; rw [if_pos e4, if_pos hcm, if_pos e70, kCur_in (by omega)]
            rw [hr]
            refine ⟨_, _, rfl, rfl, y18, fun k z18 z19 => by rw [va_up_ne _ _ z19, yS k z18 z19, va_up_ne _ _ z18, pS k z18 z19], fun k z8 => by rw [va_up_ne _ _ z8, yA k z8, pA k z8], fun i hi => ?_, fun _ => ⟨?_, ?_⟩⟩
            · show va_up (A3 8) _ _ i = _
              rw [va_up_ne _ _ (by omega), y8 i (by omega), p8 i hi]
            · show nI _ = nI _
              congr 1
              simp only [List.length_append, List.length_cons, List.length_nil]
              omega
            · show atL (va_up (A3 8) _ _) _ _
              refine atL_app (atL_app (atL_keep p8l (fun i hi => ?_)) (atL_keep (F := A3 8) ?_ (fun i hi => ?_))) (atL_one ?_)
              · rw [va_up_ne _ _ (by omega), y8 i (by omega)]
              · rw [show 220 + n + (rTerm (A 7) ln at0).2.2.length = 220 + (n + (rTerm (A 7) ln at0).2.2.length) by omega]; exact y8l
              · rw [va_up_ne _ _ (by omega)]
              · rw [show 220 + n + ((rTerm (A 7) ln at0).2.2 ++ (rTerm (A 7) ln ((rTerm (A 7) ln at0).2.1 + 1)).2.2).length = 220 + (n + (rTerm (A 7) ln at0).2.2.length + (rTerm (A 7) ln ((rTerm (A 7) ln at0).2.1 + 1)).2.2.length) by simp only [List.length_append]; omega, va_up_self]
          · skip
            replace e70 : b01 ((rTerm (A 7) ln ((rTerm (A 7) ln at0).2.1 + 1)).1) = 0 := e70
            replace e70 : (rTerm (A 7) ln ((rTerm (A 7) ln at0).2.1 + 1)).1 = false := b01_f e70
            refine kx_rn dM_comparison 1 74 [(0, .ref m), (1, .int (A 7 (rTerm (A 7) ln at0).2.1))] [.int 0] rfl ?_
            refine kx_ret (ty := .boolean) (kx_tk_dec rfl dM_comparison) rfl rfl ?_
            have hr : rComp (A 7) ln at0 = (false, (rTerm (A 7) ln ((rTerm (A 7) ln at0).2.1 + 1)).2.1, []) := by unfold rComp; rw [if_pos e4, if_pos hcm, if_neg (by rw [e70]; decide)]
            rw [hr]
            obtain ⟨z1, z2, z3, z4⟩ := mPR_le (n := n) hp3 (by omega)
            exact ⟨S3, A3, rfl, rfl, z1, fun k z18 z19 => by rw [z2 k z18 z19, va_up_ne _ _ z18, pS k z18 z19], fun k z8 => by rw [z3 k z8, pA k z8], fun i hi => by rw [z4 i hi, p8 i hi], fun z => by cases z⟩
        · skip
          replace e39 : ¬ A 7 (rTerm (A 7) ln at0).2.1 = 35 := e39
          refine kx_rn dM_comparison 2 45 [(0, .ref m), (1, .int (A 7 (rTerm (A 7) ln at0).2.1))] [.int 60, .int (A 7 (rTerm (A 7) ln at0).2.1)] rfl ?_
          refine kx_ic (tgt := 56) (kx_tk_dec rfl dM_comparison) rfl (fun e45 => ?_) (fun e45 => ?_)
          · skip
            replace e45 : A 7 (rTerm (A 7) ln at0).2.1 = 60 := e45
            have hcm : isCmp (kCur (A 7) ln (rTerm (A 7) ln at0).2.1) = true := by rw [kCur_in (by omega)]; unfold isCmp; rw [decide_eq_true_eq]; exact Or.inr (Or.inr (Or.inl e45))
            refine kx_rn dM_comparison 2 58 [(0, .ref m), (1, .int (A 7 (rTerm (A 7) ln at0).2.1))] [.ref m, .ref m] rfl ?_
            refine pM_96 (v := .int (S1 18)) rfl (kx_tk_dec rfl dM_comparison) (mh_o hm) rfl ?_
            rw [p18]
            refine kx_rn dM_comparison 2 63 [(0, .ref m), (1, .int (A 7 (rTerm (A 7) ln at0).2.1))] [.int ((nI ((rTerm (A 7) ln at0).2.1)) + 1), .ref m] rfl ?_
            rw [show (nI ((rTerm (A 7) ln at0).2.1)) + 1 = nI (((rTerm (A 7) ln at0).2.1) + 1) from kn_ad rfl rfl]
            refine qM_96 rfl (kx_tk_dec rfl dM_comparison) (mh_o hm) rfl rfl (Nat.le_of_ble_eq_true rfl) ?_
            rw [mh_p18]
            refine kx_rn dM_comparison 1 67 [(0, .ref m), (1, .int (A 7 (rTerm (A 7) ln at0).2.1))] [.ref m] rfl ?_
            obtain ⟨p19, p8l⟩ := p19 e4
            obtain ⟨g4, g5⟩ := g3 e4
            have hit := cM_term (d := d) (S := va_up S1 18 (nI ((rTerm (A 7) ln at0).2.1 + 1))) (A := A1) (ln := ln) (at0 := (rTerm (A 7) ln at0).2.1 + 1) (n := n + (rTerm (A 7) ln at0).2.2.length) hst hm q10 hln rfl (by omega) p19 (by omega)
            rw [q7] at hit
            refine cM_116 (as := []) (st := []) (mc := 0) (ms := 0) (kc := 0) (ks := 0) rfl (kx_tk_dec rfl dM_comparison) (mh_o hm) rfl rfl (Nat.le_of_ble_eq_true rfl) (hit) (fun o h' hq => ?_)
            obtain ⟨S3, A3, rfl, rfl, hp3⟩ := hq
            show kx_w _ _ _ _ _ _ _ _ _ _ _
            obtain ⟨y18, yS, yA, y8, y19⟩ := id hp3
            obtain ⟨f1, f2, f3⟩ := rTerm_gd (A 7) ln ((rTerm (A 7) ln at0).2.1 + 1) (by omega)
            refine kx_if (tgt := 75) (kx_tk_dec rfl dM_comparison) rfl (fun e70 => ?_) (fun e70 => ?_)
            · skip
              replace e70 : ¬ b01 ((rTerm (A 7) ln ((rTerm (A 7) ln at0).2.1 + 1)).1) = 0 := e70
              replace e70 : (rTerm (A 7) ln ((rTerm (A 7) ln at0).2.1 + 1)).1 = true := b01_t e70
              refine kx_rn dM_comparison 4 80 [(0, .ref m), (1, .int (A 7 (rTerm (A 7) ln at0).2.1))] [.int (((-100)) - (A 7 (rTerm (A 7) ln at0).2.1)), .ref m] rfl ?_
              obtain ⟨y19, y8l⟩ := y19 e70
              obtain ⟨f4, f5⟩ := f3 e70
              refine cM_99 (as := [.int (((-100)) - (A 7 (rTerm (A 7) ln at0).2.1))]) (st := []) (mc := 0) (ms := 0) (kc := 0) (ks := 0) rfl (kx_tk_dec rfl dM_comparison) (mh_o hm) rfl rfl (Nat.le_of_ble_eq_true rfl) (cM_add (S := S3) (A := A3) (n := n + (rTerm (A 7) ln at0).2.2.length + (rTerm (A 7) ln ((rTerm (A 7) ln at0).2.1 + 1)).2.2.length) (x := -100 - A 7 (rTerm (A 7) ln at0).2.1) hst hm y19 (by omega)) (fun o h' hq => ?_)
              obtain ⟨rfl, rfl⟩ := hq
              show kx_w _ _ _ _ _ _ _ _ _ _ _
              refine kx_rn dM_comparison 1 84 [(0, .ref m), (1, .int (A 7 (rTerm (A 7) ln at0).2.1))] [.int 1] rfl ?_
              refine kx_ret (ty := .boolean) (kx_tk_dec rfl dM_comparison) rfl rfl ?_
              have hr : rComp (A 7) ln at0 = (true, (rTerm (A 7) ln ((rTerm (A 7) ln at0).2.1 + 1)).2.1, (rTerm (A 7) ln at0).2.2 ++ (rTerm (A 7) ln ((rTerm (A 7) ln at0).2.1 + 1)).2.2 ++ [-100 - A 7 (rTerm (A 7) ln at0).2.1]) := by unfold rComp; rw [if_pos e4, if_pos hcm, if_pos e70, kCur_in (by omega)]
              rw [hr]
              refine ⟨_, _, rfl, rfl, y18, fun k z18 z19 => by rw [va_up_ne _ _ z19, yS k z18 z19, va_up_ne _ _ z18, pS k z18 z19], fun k z8 => by rw [va_up_ne _ _ z8, yA k z8, pA k z8], fun i hi => ?_, fun _ => ⟨?_, ?_⟩⟩
              · show va_up (A3 8) _ _ i = _
                rw [va_up_ne _ _ (by omega), y8 i (by omega), p8 i hi]
              · show nI _ = nI _
                congr 1
                simp only [List.length_append, List.length_cons, List.length_nil]
                omega
              · show atL (va_up (A3 8) _ _) _ _
                refine atL_app (atL_app (atL_keep p8l (fun i hi => ?_)) (atL_keep (F := A3 8) ?_ (fun i hi => ?_))) (atL_one ?_)
                · rw [va_up_ne _ _ (by omega), y8 i (by omega)]
                · rw [show 220 + n + (rTerm (A 7) ln at0).2.2.length = 220 + (n + (rTerm (A 7) ln at0).2.2.length) by omega]; exact y8l
                · rw [va_up_ne _ _ (by omega)]
                · rw [show 220 + n + ((rTerm (A 7) ln at0).2.2 ++ (rTerm (A 7) ln ((rTerm (A 7) ln at0).2.1 + 1)).2.2).length = 220 + (n + (rTerm (A 7) ln at0).2.2.length + (rTerm (A 7) ln ((rTerm (A 7) ln at0).2.1 + 1)).2.2.length) by simp only [List.length_append]; omega, va_up_self]
            · skip
              replace e70 : b01 ((rTerm (A 7) ln ((rTerm (A 7) ln at0).2.1 + 1)).1) = 0 := e70
              replace e70 : (rTerm (A 7) ln ((rTerm (A 7) ln at0).2.1 + 1)).1 = false := b01_f e70
              refine kx_rn dM_comparison 1 74 [(0, .ref m), (1, .int (A 7 (rTerm (A 7) ln at0).2.1))] [.int 0] rfl ?_
              refine kx_ret (ty := .boolean) (kx_tk_dec rfl dM_comparison) rfl rfl ?_
              have hr : rComp (A 7) ln at0 = (false, (rTerm (A 7) ln ((rTerm (A 7) ln at0).2.1 + 1)).2.1, []) := by unfold rComp; rw [if_pos e4, if_pos hcm, if_neg (by rw [e70]; decide)]
              rw [hr]
              obtain ⟨z1, z2, z3, z4⟩ := mPR_le (n := n) hp3 (by omega)
              exact ⟨S3, A3, rfl, rfl, z1, fun k z18 z19 => by rw [z2 k z18 z19, va_up_ne _ _ z18, pS k z18 z19], fun k z8 => by rw [z3 k z8, pA k z8], fun i hi => by rw [z4 i hi, p8 i hi], fun z => by cases z⟩
          · skip
            replace e45 : ¬ A 7 (rTerm (A 7) ln at0).2.1 = 60 := e45
            refine kx_rn dM_comparison 2 51 [(0, .ref m), (1, .int (A 7 (rTerm (A 7) ln at0).2.1))] [.int 62, .int (A 7 (rTerm (A 7) ln at0).2.1)] rfl ?_
            refine kx_ic (tgt := 56) (kx_tk_dec rfl dM_comparison) rfl (fun e51 => ?_) (fun e51 => ?_)
            · skip
              replace e51 : A 7 (rTerm (A 7) ln at0).2.1 = 62 := e51
              have hcm : isCmp (kCur (A 7) ln (rTerm (A 7) ln at0).2.1) = true := by rw [kCur_in (by omega)]; unfold isCmp; rw [decide_eq_true_eq]; exact Or.inr (Or.inr (Or.inr e51))
              refine kx_rn dM_comparison 2 58 [(0, .ref m), (1, .int (A 7 (rTerm (A 7) ln at0).2.1))] [.ref m, .ref m] rfl ?_
              refine pM_96 (v := .int (S1 18)) rfl (kx_tk_dec rfl dM_comparison) (mh_o hm) rfl ?_
              rw [p18]
              refine kx_rn dM_comparison 2 63 [(0, .ref m), (1, .int (A 7 (rTerm (A 7) ln at0).2.1))] [.int ((nI ((rTerm (A 7) ln at0).2.1)) + 1), .ref m] rfl ?_
              rw [show (nI ((rTerm (A 7) ln at0).2.1)) + 1 = nI (((rTerm (A 7) ln at0).2.1) + 1) from kn_ad rfl rfl]
              refine qM_96 rfl (kx_tk_dec rfl dM_comparison) (mh_o hm) rfl rfl (Nat.le_of_ble_eq_true rfl) ?_
              rw [mh_p18]
              refine kx_rn dM_comparison 1 67 [(0, .ref m), (1, .int (A 7 (rTerm (A 7) ln at0).2.1))] [.ref m] rfl ?_
              obtain ⟨p19, p8l⟩ := p19 e4
              obtain ⟨g4, g5⟩ := g3 e4
              have hit := cM_term (d := d) (S := va_up S1 18 (nI ((rTerm (A 7) ln at0).2.1 + 1))) (A := A1) (ln := ln) (at0 := (rTerm (A 7) ln at0).2.1 + 1) (n := n + (rTerm (A 7) ln at0).2.2.length) hst hm q10 hln rfl (by omega) p19 (by omega)
              rw [q7] at hit
              refine cM_116 (as := []) (st := []) (mc := 0) (ms := 0) (kc := 0) (ks := 0) rfl (kx_tk_dec rfl dM_comparison) (mh_o hm) rfl rfl (Nat.le_of_ble_eq_true rfl) (hit) (fun o h' hq => ?_)
              obtain ⟨S3, A3, rfl, rfl, hp3⟩ := hq
              show kx_w _ _ _ _ _ _ _ _ _ _ _
              obtain ⟨y18, yS, yA, y8, y19⟩ := id hp3
              obtain ⟨f1, f2, f3⟩ := rTerm_gd (A 7) ln ((rTerm (A 7) ln at0).2.1 + 1) (by omega)
              refine kx_if (tgt := 75) (kx_tk_dec rfl dM_comparison) rfl (fun e70 => ?_) (fun e70 => ?_)
              · skip
                replace e70 : ¬ b01 ((rTerm (A 7) ln ((rTerm (A 7) ln at0).2.1 + 1)).1) = 0 := e70
                replace e70 : (rTerm (A 7) ln ((rTerm (A 7) ln at0).2.1 + 1)).1 = true := b01_t e70
                refine kx_rn dM_comparison 4 80 [(0, .ref m), (1, .int (A 7 (rTerm (A 7) ln at0).2.1))] [.int (((-100)) - (A 7 (rTerm (A 7) ln at0).2.1)), .ref m] rfl ?_
                obtain ⟨y19, y8l⟩ := y19 e70
                obtain ⟨f4, f5⟩ := f3 e70
                refine cM_99 (as := [.int (((-100)) - (A 7 (rTerm (A 7) ln at0).2.1))]) (st := []) (mc := 0) (ms := 0) (kc := 0) (ks := 0) rfl (kx_tk_dec rfl dM_comparison) (mh_o hm) rfl rfl (Nat.le_of_ble_eq_true rfl) (cM_add (S := S3) (A := A3) (n := n + (rTerm (A 7) ln at0).2.2.length + (rTerm (A 7) ln ((rTerm (A 7) ln at0).2.1 + 1)).2.2.length) (x := -100 - A 7 (rTerm (A 7) ln at0).2.1) hst hm y19 (by omega)) (fun o h' hq => ?_)
                obtain ⟨rfl, rfl⟩ := hq
                show kx_w _ _ _ _ _ _ _ _ _ _ _
                refine kx_rn dM_comparison 1 84 [(0, .ref m), (1, .int (A 7 (rTerm (A 7) ln at0).2.1))] [.int 1] rfl ?_
                refine kx_ret (ty := .boolean) (kx_tk_dec rfl dM_comparison) rfl rfl ?_
                have hr : rComp (A 7) ln at0 = (true, (rTerm (A 7) ln ((rTerm (A 7) ln at0).2.1 + 1)).2.1, (rTerm (A 7) ln at0).2.2 ++ (rTerm (A 7) ln ((rTerm (A 7) ln at0).2.1 + 1)).2.2 ++ [-100 - A 7 (rTerm (A 7) ln at0).2.1]) := by unfold rComp; rw [if_pos e4, if_pos hcm, if_pos e70, kCur_in (by omega)]
                rw [hr]
                refine ⟨_, _, rfl, rfl, y18, fun k z18 z19 => by rw [va_up_ne _ _ z19, yS k z18 z19, va_up_ne _ _ z18, pS k z18 z19], fun k z8 => by rw [va_up_ne _ _ z8, yA k z8, pA k z8], fun i hi => ?_, fun _ => ⟨?_, ?_⟩⟩
                · show va_up (A3 8) _ _ i = _
                  rw [va_up_ne _ _ (by omega), y8 i (by omega), p8 i hi]
                · show nI _ = nI _
                  congr 1
                  simp only [List.length_append, List.length_cons, List.length_nil]
                  omega
                · show atL (va_up (A3 8) _ _) _ _
                  refine atL_app (atL_app (atL_keep p8l (fun i hi => ?_)) (atL_keep (F := A3 8) ?_ (fun i hi => ?_))) (atL_one ?_)
                  · rw [va_up_ne _ _ (by omega), y8 i (by omega)]
                  · rw [show 220 + n + (rTerm (A 7) ln at0).2.2.length = 220 + (n + (rTerm (A 7) ln at0).2.2.length) by omega]; exact y8l
                  · rw [va_up_ne _ _ (by omega)]
                  · rw [show 220 + n + ((rTerm (A 7) ln at0).2.2 ++ (rTerm (A 7) ln ((rTerm (A 7) ln at0).2.1 + 1)).2.2).length = 220 + (n + (rTerm (A 7) ln at0).2.2.length + (rTerm (A 7) ln ((rTerm (A 7) ln at0).2.1 + 1)).2.2.length) by simp only [List.length_append]; omega, va_up_self]
              · skip
                replace e70 : b01 ((rTerm (A 7) ln ((rTerm (A 7) ln at0).2.1 + 1)).1) = 0 := e70
                replace e70 : (rTerm (A 7) ln ((rTerm (A 7) ln at0).2.1 + 1)).1 = false := b01_f e70
                refine kx_rn dM_comparison 1 74 [(0, .ref m), (1, .int (A 7 (rTerm (A 7) ln at0).2.1))] [.int 0] rfl ?_
                refine kx_ret (ty := .boolean) (kx_tk_dec rfl dM_comparison) rfl rfl ?_
                have hr : rComp (A 7) ln at0 = (false, (rTerm (A 7) ln ((rTerm (A 7) ln at0).2.1 + 1)).2.1, []) := by unfold rComp; rw [if_pos e4, if_pos hcm, if_neg (by rw [e70]; decide)]
                rw [hr]
                obtain ⟨z1, z2, z3, z4⟩ := mPR_le (n := n) hp3 (by omega)
                exact ⟨S3, A3, rfl, rfl, z1, fun k z18 z19 => by rw [z2 k z18 z19, va_up_ne _ _ z18, pS k z18 z19], fun k z8 => by rw [z3 k z8, pA k z8], fun i hi => by rw [z4 i hi, p8 i hi], fun z => by cases z⟩
            · skip
              replace e51 : ¬ A 7 (rTerm (A 7) ln at0).2.1 = 62 := e51
              refine kx_rn dM_comparison 1 55 [(0, .ref m), (1, .int (A 7 (rTerm (A 7) ln at0).2.1))] [.int 0] rfl ?_
              refine kx_ret (ty := .boolean) (kx_tk_dec rfl dM_comparison) rfl rfl ?_
              have hr : rComp (A 7) ln at0 = (false, (rTerm (A 7) ln at0).2.1, []) := by unfold rComp; rw [if_pos e4, if_neg (by rw [kCur_in (by omega)]; unfold isCmp; rw [decide_eq_true_eq]; rintro (z | z | z | z) <;> contradiction)]
              rw [hr]
              exact ⟨S1, A1, rfl, rfl, mPR_f (b := (rTerm (A 7) ln at0).1) (es := (rTerm (A 7) ln at0).2.2) hp1⟩
    · skip
      replace e15 : nI ((rTerm (A 7) ln at0).2.1) = nI ln := e15
      replace e15 : (rTerm (A 7) ln at0).2.1 = ln := (nI_eq (a := (rTerm (A 7) ln at0).2.1) (b := ln) (by omega) (by omega)).mp e15
      refine kx_rn dM_comparison 1 19 [(0, .ref m)] [.int 0] rfl ?_
      refine kx_ret (ty := .boolean) (kx_tk_dec rfl dM_comparison) rfl rfl ?_
      have hr : rComp (A 7) ln at0 = (false, (rTerm (A 7) ln at0).2.1, []) := by unfold rComp; rw [if_pos e4, if_neg (by rw [kCur_out (by omega)]; decide)]
      rw [hr]
      exact ⟨S1, A1, rfl, rfl, mPR_f (b := (rTerm (A 7) ln at0).1) (es := (rTerm (A 7) ln at0).2.2) hp1⟩
end KM14
