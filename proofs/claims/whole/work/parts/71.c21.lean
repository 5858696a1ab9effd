/-! ===== the other side: texts read ===== -/
section KC22
variable {G : kx_G} {l : Launch} {d : Nat} {h : kx_H} {q p s k tx ln : Nat} {T : Nat → Int32} {col : Int32}
abbrev qO (tx ln p : Nat) (at0 col : Int32) : kx_C := .inr (6, [.ref tx, .int (nI ln), .ref p, .int at0, .int col])
/-- a parser at work -/
def qH (h : kx_H) (q p s k tx ln : Nat) (at0 col : Int32) (F : Nat → Int32) (n : Nat) : kx_H := kx_set (kx_set (kx_set h s (kIa 40 F)) p (pO s k (nI n) 0)) q (qO tx ln p at0 col)
def qFx (G : kx_G) (h : kx_H) (q p s tx : Nat) (T : Nat → Int32) : Prop := (G.1 ≤ q ∧ q < h.1) ∧ (G.1 ≤ p ∧ p < h.1) ∧ (G.1 ≤ s ∧ s < h.1) ∧ kx_is G h tx (kIa 40 T) ∧ q ≠ p ∧ q ≠ s ∧ p ≠ s ∧ tx ≠ q ∧ tx ≠ p ∧ tx ≠ s
theorem qFx.hq (b : qFx G h q p s tx T) : G.1 ≤ q ∧ q < h.1 := b.1
theorem qFx.hp (b : qFx G h q p s tx T) : G.1 ≤ p ∧ p < h.1 := b.2.1
theorem qFx.hs (b : qFx G h q p s tx T) : G.1 ≤ s ∧ s < h.1 := b.2.2.1
theorem qFx.ht (b : qFx G h q p s tx T) : kx_is G h tx (kIa 40 T) := b.2.2.2.1
theorem qFx.n1 (b : qFx G h q p s tx T) : q ≠ p := b.2.2.2.2.1
theorem qFx.n2 (b : qFx G h q p s tx T) : q ≠ s := b.2.2.2.2.2.1
theorem qFx.n3 (b : qFx G h q p s tx T) : p ≠ s := b.2.2.2.2.2.2.1
theorem qFx.n4 (b : qFx G h q p s tx T) : tx ≠ q := b.2.2.2.2.2.2.2.1
theorem qFx.n5 (b : qFx G h q p s tx T) : tx ≠ p := b.2.2.2.2.2.2.2.2.1
theorem qFx.n6 (b : qFx G h q p s tx T) : tx ≠ s := b.2.2.2.2.2.2.2.2.2
theorem qH_q {at0 : Int32} {F : Nat → Int32} {n : Nat} (b : qFx G h q p s tx T) : kx_is G (qH h q p s k tx ln at0 col F n) q (qO tx ln p at0 col) := ⟨b.hq.1, b.hq.2, va_up_self _ _ _⟩
theorem qH_p {at0 : Int32} {F : Nat → Int32} {n : Nat} (b : qFx G h q p s tx T) : kx_is G (qH h q p s k tx ln at0 col F n) p (pO s k (nI n) 0) := kx_is_ne ⟨b.hp.1, b.hp.2, va_up_self _ _ _⟩ b.n1.symm
theorem qH_s {at0 : Int32} {F : Nat → Int32} {n : Nat} (b : qFx G h q p s tx T) : kx_is G (qH h q p s k tx ln at0 col F n) s (kIa 40 F) := kx_is_ne (kx_is_ne ⟨b.hs.1, b.hs.2, va_up_self _ _ _⟩ b.n3.symm) b.n2.symm
theorem qH_t {at0 : Int32} {F : Nat → Int32} {n : Nat} (b : qFx G h q p s tx T) : kx_is G (qH h q p s k tx ln at0 col F n) tx (kIa 40 T) := kx_is_ne (kx_is_ne (kx_is_ne b.ht b.n6) b.n5) b.n4
theorem qH_sq {at0 at1 col' : Int32} {F : Nat → Int32} {n : Nat} : kx_set (qH h q p s k tx ln at0 col F n) q (qO tx ln p at1 col') = qH h q p s k tx ln at1 col' F n := kx_set_set _ _
theorem qH_sp {at0 : Int32} {F : Nat → Int32} {n n' : Nat} (b : qFx G h q p s tx T) : kx_set (qH h q p s k tx ln at0 col F n) p (pO s k (nI n') 0) = qH h q p s k tx ln at0 col F n' := by
  unfold qH
  rw [kx_set_comm b.n1, kx_set_set]
theorem qH_ss {at0 : Int32} {F F' : Nat → Int32} {n : Nat} (b : qFx G h q p s tx T) : kx_set (qH h q p s k tx ln at0 col F n) s (kIa 40 F') = qH h q p s k tx ln at0 col F' n := by
  unfold qH
  rw [kx_set_comm b.n2, kx_set_comm b.n3, kx_set_set]
/-- steps that say a list of items -/
def prg (F : Nat → Int32) (es : List Int32) : Prop := ∀ j y, es[j]? = some y → F j = cv y
theorem prg_add {F : Nat → Int32} {es : List Int32} {x y : Int32} {n : Nat} (h : prg F es) (hn : n = es.length) (hx : x = cv y) : prg (va_up F n x) (es ++ [y]) := fun j z hz => by
  by_cases e : j < es.length
  · rw [List.getElem?_append_left e] at hz
    rw [va_up_ne _ _ (by omega)]; exact h j z hz
  · rw [List.getElem?_append_right (by omega)] at hz
    have hj : j - es.length = 0 := by
      have := (List.getElem?_eq_some_iff.mp hz).1
      simp only [List.length_cons, List.length_nil] at this
      omega
    rw [hj] at hz
    injection hz with hz
    rw [show j = n by omega, va_up_self, hx, hz]
theorem cv_ch {c : Int32} (h : isAri c = true ∨ isCmp c = true ∨ isJn c = true) : c = cv (-100 - c) := by
  obtain ⟨sg, hsg, rfl⟩ := sg_of h
  exact (cv_sg hsg).symm
theorem cv_cl {c : Int32} (h : isCol c = true) : c = cv (96 - c) := by
  rcases isCol_nat h with z | z | z | z <;> (rw [z]; rfl)
theorem dig_not {c : Int32} (h : isDig c = true) : isAri c = false ∧ isCmp c = false ∧ isJn c = false ∧ ¬ c = 41 := by
  obtain ⟨x, hx, h1, h2⟩ := isDig_nat h
  have : x = 48 ∨ x = 49 ∨ x = 50 ∨ x = 51 ∨ x = 52 ∨ x = 53 ∨ x = 54 ∨ x = 55 ∨ x = 56 ∨ x = 57 := by omega
  rcases this with z | z | z | z | z | z | z | z | z | z <;> (rw [hx, z]; decide)
theorem dig_in {T : Nat → Int32} {ln a : Nat} (h : isDig (kCur T ln a) = true) : a < ln := Nat.lt_of_not_le fun z => by rw [kCur_out (by omega)] at h; exact absurd h (by decide)
/-- what a reading leaves -/
def qRd (h : kx_H) (q p s k tx ln : Nat) (col : Int32) (T : Nat → Int32) (es : List Int32) (r : kRes) : Outcome → kx_H → Prop := fun o h' => ∃ (b : Bool) (F' : Nat → Int32) (n' : Nat), o = .returned (some (.int (b01 b))) ∧ h' = qH h q p s k tx ln (nI r.2.1) col F' n' ∧ n' ≤ 40 ∧ ((b = r.1 ∧ (b = true → n' = (es ++ r.2.2).length ∧ prg F' (es ++ r.2.2))) ∨ (b = true ∧ r.1 = false ∧ isDig (kCur T ln r.2.1) = true))
set_option maxRecDepth 100000 in
theorem cQ_isJoin {c : Int32} (hst : l.stackTraces = false) :
    kx_c G l mQ_isJoin d 0 0 [.int c] h (fun o h' => o = .returned (some (.int (b01 (isJn c)))) ∧ h' = h) := by
  refine kx_in (by decide +kernel) (Nat.le_of_ble_eq_true rfl) hst ?_
  refine kx_rn dQ_isJoin 2 3 [(0, .int c)] [.int 38, .int c] rfl ?_
  refine kx_ic (tgt := 12) (kx_tk_dec rfl dQ_isJoin) rfl (fun e3 => ?_) (fun e3 => ?_)
  · skip
    replace e3 : c = 38 := e3
    refine kx_rn dQ_isJoin 2 17 [(0, .int c)] [.int 1] rfl ?_
    refine kx_ret (ty := .boolean) (kx_tk_dec rfl dQ_isJoin) rfl rfl ?_
    rw [show isJn c = true by unfold isJn; rw [decide_eq_true_eq]; exact Or.inl e3]; exact ⟨rfl, rfl⟩
  · skip
    replace e3 : ¬ c = 38 := e3
    refine kx_rn dQ_isJoin 2 9 [(0, .int c)] [.int 124, .int c] rfl ?_
    refine kx_ic (tgt := 16) (kx_tk_dec rfl dQ_isJoin) rfl (fun e9 => ?_) (fun e9 => ?_)
    · skip
      replace e9 : ¬ c = 124 := e9
      refine kx_rn dQ_isJoin 1 17 [(0, .int c)] [.int 0] rfl ?_
      refine kx_ret (ty := .boolean) (kx_tk_dec rfl dQ_isJoin) rfl rfl ?_
      rw [show isJn c = false by unfold isJn; rw [decide_eq_false_iff_not]; rintro (z | z) <;> contradiction]; exact ⟨rfl, rfl⟩
    · skip
      replace e9 : c = 124 := e9
      refine kx_rn dQ_isJoin 2 17 [(0, .int c)] [.int 1] rfl ?_
      refine kx_ret (ty := .boolean) (kx_tk_dec rfl dQ_isJoin) rfl rfl ?_
      rw [show isJn c = true by unfold isJn; rw [decide_eq_true_eq]; exact Or.inr e9]; exact ⟨rfl, rfl⟩
set_option maxRecDepth 100000 in
theorem cQ_isComparison {c : Int32} (hst : l.stackTraces = false) :
    kx_c G l mQ_isComparison d 0 0 [.int c] h (fun o h' => o = .returned (some (.int (b01 (isCmp c)))) ∧ h' = h) := by
  refine kx_in (by decide +kernel) (Nat.le_of_ble_eq_true rfl) hst ?_
  refine kx_rn dQ_isComparison 2 3 [(0, .int c)] [.int 61, .int c] rfl ?_
  refine kx_ic (tgt := 24) (kx_tk_dec rfl dQ_isComparison) rfl (fun e3 => ?_) (fun e3 => ?_)
  · skip
    replace e3 : c = 61 := e3
    refine kx_rn dQ_isComparison 2 29 [(0, .int c)] [.int 1] rfl ?_
    refine kx_ret (ty := .boolean) (kx_tk_dec rfl dQ_isComparison) rfl rfl ?_
    rw [show isCmp c = true by unfold isCmp; rw [decide_eq_true_eq]; exact Or.inl e3]; exact ⟨rfl, rfl⟩
  · skip
    replace e3 : ¬ c = 61 := e3
    refine kx_rn dQ_isComparison 2 9 [(0, .int c)] [.int 35, .int c] rfl ?_
    refine kx_ic (tgt := 24) (kx_tk_dec rfl dQ_isComparison) rfl (fun e9 => ?_) (fun e9 => ?_)
    · skip
      replace e9 : c = 35 := e9
      refine kx_rn dQ_isComparison 2 29 [(0, .int c)] [.int 1] rfl ?_
      refine kx_ret (ty := .boolean) (kx_tk_dec rfl dQ_isComparison) rfl rfl ?_
      rw [show isCmp c = true by unfold isCmp; rw [decide_eq_true_eq]; exact Or.inr (Or.inl e9)]; exact ⟨rfl, rfl⟩
    · skip
      replace e9 : ¬ c = 35 := e9
      refine kx_rn dQ_isComparison 2 15 [(0, .int c)] [.int 60, .int c] rfl ?_
      refine kx_ic (tgt := 24) (kx_tk_dec rfl dQ_isComparison) rfl (fun e15 => ?_) (fun e15 => ?_)
      · skip
        replace e15 : c = 60 := e15
        refine kx_rn dQ_isComparison 2 29 [(0, .int c)] [.int 1] rfl ?_
        refine kx_ret (ty := .boolean) (kx_tk_dec rfl dQ_isComparison) rfl rfl ?_
        rw [show isCmp c = true by unfold isCmp; rw [decide_eq_true_eq]; exact Or.inr (Or.inr (Or.inl e15))]; exact ⟨rfl, rfl⟩
      · skip
        replace e15 : ¬ c = 60 := e15
        refine kx_rn dQ_isComparison 2 21 [(0, .int c)] [.int 62, .int c] rfl ?_
        refine kx_ic (tgt := 28) (kx_tk_dec rfl dQ_isComparison) rfl (fun e21 => ?_) (fun e21 => ?_)
        · skip
          replace e21 : ¬ c = 62 := e21
          refine kx_rn dQ_isComparison 1 29 [(0, .int c)] [.int 0] rfl ?_
          refine kx_ret (ty := .boolean) (kx_tk_dec rfl dQ_isComparison) rfl rfl ?_
          rw [show isCmp c = false by unfold isCmp; rw [decide_eq_false_iff_not]; rintro (z | z | z | z) <;> contradiction]; exact ⟨rfl, rfl⟩
        · skip
          replace e21 : c = 62 := e21
          refine kx_rn dQ_isComparison 2 29 [(0, .int c)] [.int 1] rfl ?_
          refine kx_ret (ty := .boolean) (kx_tk_dec rfl dQ_isComparison) rfl rfl ?_
          rw [show isCmp c = true by unfold isCmp; rw [decide_eq_true_eq]; exact Or.inr (Or.inr (Or.inr e21))]; exact ⟨rfl, rfl⟩
set_option maxRecDepth 100000 in
theorem cQ_isCalculation {c : Int32} (hst : l.stackTraces = false) :
    kx_c G l mQ_isCalculation d 0 0 [.int c] h (fun o h' => o = .returned (some (.int (b01 (isAri c)))) ∧ h' = h) := by
  refine kx_in (by decide +kernel) (Nat.le_of_ble_eq_true rfl) hst ?_
  refine kx_rn dQ_isCalculation 2 3 [(0, .int c)] [.int 43, .int c] rfl ?_
  refine kx_ic (tgt := 24) (kx_tk_dec rfl dQ_isCalculation) rfl (fun e3 => ?_) (fun e3 => ?_)
  · skip
    replace e3 : c = 43 := e3
    refine kx_rn dQ_isCalculation 2 29 [(0, .int c)] [.int 1] rfl ?_
    refine kx_ret (ty := .boolean) (kx_tk_dec rfl dQ_isCalculation) rfl rfl ?_
    rw [show isAri c = true by unfold isAri; rw [decide_eq_true_eq]; exact Or.inl e3]; exact ⟨rfl, rfl⟩
  · skip
    replace e3 : ¬ c = 43 := e3
    refine kx_rn dQ_isCalculation 2 9 [(0, .int c)] [.int 45, .int c] rfl ?_
    refine kx_ic (tgt := 24) (kx_tk_dec rfl dQ_isCalculation) rfl (fun e9 => ?_) (fun e9 => ?_)
    · skip
      replace e9 : c = 45 := e9
      refine kx_rn dQ_isCalculation 2 29 [(0, .int c)] [.int 1] rfl ?_
      refine kx_ret (ty := .boolean) (kx_tk_dec rfl dQ_isCalculation) rfl rfl ?_
      rw [show isAri c = true by unfold isAri; rw [decide_eq_true_eq]; exact Or.inr (Or.inl e9)]; exact ⟨rfl, rfl⟩
    · skip
      replace e9 : ¬ c = 45 := e9
      refine kx_rn dQ_isCalculation 2 15 [(0, .int c)] [.int 42, .int c] rfl ?_
      refine kx_ic (tgt := 24) (kx_tk_dec rfl dQ_isCalculation) rfl (fun e15 => ?_) (fun e15 => ?_)
      · skip
        replace e15 : c = 42 := e15
        refine kx_rn dQ_isCalculation 2 29 [(0, .int c)] [.int 1] rfl ?_
        refine kx_ret (ty := .boolean) (kx_tk_dec rfl dQ_isCalculation) rfl rfl ?_
        rw [show isAri c = true by unfold isAri; rw [decide_eq_true_eq]; exact Or.inr (Or.inr (Or.inl e15))]; exact ⟨rfl, rfl⟩
      · skip
        replace e15 : ¬ c = 42 := e15
        refine kx_rn dQ_isCalculation 2 21 [(0, .int c)] [.int 47, .int c] rfl ?_
        refine kx_ic (tgt := 28) (kx_tk_dec rfl dQ_isCalculation) rfl (fun e21 => ?_) (fun e21 => ?_)
        · skip
          replace e21 : ¬ c = 47 := e21
          refine kx_rn dQ_isCalculation 1 29 [(0, .int c)] [.int 0] rfl ?_
          refine kx_ret (ty := .boolean) (kx_tk_dec rfl dQ_isCalculation) rfl rfl ?_
          rw [show isAri c = false by unfold isAri; rw [decide_eq_false_iff_not]; rintro (z | z | z | z) <;> contradiction]; exact ⟨rfl, rfl⟩
        · skip
          replace e21 : c = 47 := e21
          refine kx_rn dQ_isCalculation 2 29 [(0, .int c)] [.int 1] rfl ?_
          refine kx_ret (ty := .boolean) (kx_tk_dec rfl dQ_isCalculation) rfl rfl ?_
          rw [show isAri c = true by unfold isAri; rw [decide_eq_true_eq]; exact Or.inr (Or.inr (Or.inr e21))]; exact ⟨rfl, rfl⟩
set_option maxRecDepth 100000 in
theorem cQ_isDigit {c : Int32} (hst : l.stackTraces = false) :
    kx_c G l mQ_isDigit d 0 0 [.int c] h (fun o h' => o = .returned (some (.int (b01 (isDig c)))) ∧ h' = h) := by
  refine kx_in (by decide +kernel) (Nat.le_of_ble_eq_true rfl) hst ?_
  refine kx_rn dQ_isDigit 2 3 [(0, .int c)] [.int 48, .int c] rfl ?_
  refine kx_ic (tgt := 16) (kx_tk_dec rfl dQ_isDigit) rfl (fun e3 => ?_) (fun e3 => ?_)
  · skip
    replace e3 : c < 48 := e3
    refine kx_rn dQ_isDigit 1 17 [(0, .int c)] [.int 0] rfl ?_
    refine kx_ret (ty := .boolean) (kx_tk_dec rfl dQ_isDigit) rfl rfl ?_
    rw [show isDig c = false by unfold isDig; rw [decide_eq_false_iff_not]; rintro ⟨z, -⟩; rw [kI_le] at z; rw [kI_lt] at e3; omega]; exact ⟨rfl, rfl⟩
  · skip
    replace e3 : ¬ c < 48 := e3
    refine kx_rn dQ_isDigit 2 9 [(0, .int c)] [.int 57, .int c] rfl ?_
    refine kx_ic (tgt := 16) (kx_tk_dec rfl dQ_isDigit) rfl (fun e9 => ?_) (fun e9 => ?_)
    · skip
      replace e9 : 57 < c := e9
      refine kx_rn dQ_isDigit 1 17 [(0, .int c)] [.int 0] rfl ?_
      refine kx_ret (ty := .boolean) (kx_tk_dec rfl dQ_isDigit) rfl rfl ?_
      rw [show isDig c = false by unfold isDig; rw [decide_eq_false_iff_not]; rintro ⟨-, z⟩; rw [kI_le] at z; rw [kI_lt] at e9; omega]; exact ⟨rfl, rfl⟩
    · skip
      replace e9 : ¬ 57 < c := e9
      refine kx_rn dQ_isDigit 2 17 [(0, .int c)] [.int 1] rfl ?_
      refine kx_ret (ty := .boolean) (kx_tk_dec rfl dQ_isDigit) rfl rfl ?_
      rw [show isDig c = true by unfold isDig; rw [decide_eq_true_eq]; exact ⟨by rw [kI_lt] at e3; rw [kI_le]; omega, by rw [kI_lt] at e9; rw [kI_le]; omega⟩]; exact ⟨rfl, rfl⟩
set_option maxRecDepth 100000 in
theorem cQ_next {a n : Nat} {F : Nat → Int32} (hst : l.stackTraces = false) (b : qFx G h q p s tx T) (hln : ln ≤ 40) (ha : a ≤ 40) :
    kx_c G l mQ_next d 0 0 [.ref q] (qH h q p s k tx ln (nI a) col F n) (fun o h' => o = .returned (some (.int (kCur T ln a))) ∧ h' = qH h q p s k tx ln (nI a) col F n) := by
  refine kx_in (by decide +kernel) (Nat.le_of_ble_eq_true rfl) hst ?_
  refine kx_rn dQ_next 1 1 [(0, .ref q)] [.ref q] rfl ?_
  refine pQ_18 (v := .int (nI a)) rfl (kx_tk_dec rfl dQ_next) (qH_q b) rfl ?_
  refine kx_rn dQ_next 1 5 [(0, .ref q)] [.ref q, .int (nI a)] rfl ?_
  refine pQ_29 (v := .int (nI ln)) rfl (kx_tk_dec rfl dQ_next) (qH_q b) rfl ?_
  refine kx_ic (tgt := 23) (kx_tk_dec rfl dQ_next) rfl (fun e8 => ?_) (fun e8 => ?_)
  · skip
    replace e8 : nI ln ≤ nI a := e8
    replace e8 : ln ≤ a := (nI_leI (a := ln) (b := a) (by omega) (by omega)).mp e8
    refine kx_rn dQ_next 1 24 [(0, .ref q)] [.int ((-1))] rfl ?_
    refine kx_ret (ty := .int) (kx_tk_dec rfl dQ_next) rfl rfl ?_
    rw [kCur_out (by omega)]; exact ⟨rfl, rfl⟩
  · skip
    replace e8 : ¬ nI ln ≤ nI a := e8
    replace e8 : ¬ ln ≤ a := fun z => e8 ((nI_leI (a := ln) (b := a) (by omega) (by omega)).mpr z)
    refine kx_rn dQ_next 1 12 [(0, .ref q)] [.ref q] rfl ?_
    refine pQ_25 (v := .ref tx) rfl (kx_tk_dec rfl dQ_next) (qH_q b) rfl ?_
    refine kx_rn dQ_next 1 16 [(0, .ref q)] [.ref q, .ref tx] rfl ?_
    refine pQ_18 (v := .int (nI a)) rfl (kx_tk_dec rfl dQ_next) (qH_q b) rfl ?_
    refine kx_ildN (x := T a) (i := a) (kx_tk_dec rfl dQ_next) (qH_t b) (by show a < 40; omega) (by decide) rfl ?_
    refine kx_rn dQ_next 1 24 [(0, .ref q)] [.int (T a)] rfl ?_
    refine kx_ret (ty := .int) (kx_tk_dec rfl dQ_next) rfl rfl ?_
    rw [kCur_in (by omega)]; exact ⟨rfl, rfl⟩
set_option maxRecDepth 100000 in
theorem cQ_add {n : Nat} {x at0 : Int32} {F : Nat → Int32} (hst : l.stackTraces = false) (b : qFx G h q p s tx T) (hn : n ≤ 40) :
    kx_c G l mP_add d 0 0 [.ref p, .int x] (qH h q p s k tx ln at0 col F n) (fun o h' => o = .returned none ∧ ∃ F' n', h' = qH h q p s k tx ln at0 col F' n' ∧ n' ≤ 40 ∧ (n < 40 → F' = va_up F n x ∧ n' = n + 1)) := by
  refine kx_in (by decide +kernel) (Nat.le_of_ble_eq_true rfl) hst ?_
  refine kx_rn dP_add 1 1 [(0, .ref p), (1, .int x)] [.ref p] rfl ?_
  refine pP_18 (v := .int (nI n)) rfl (kx_tk_dec rfl dP_add) (qH_p b) rfl ?_
  refine kx_rn dP_add 1 6 [(0, .ref p), (1, .int x)] [.int 40, .int (nI n)] rfl ?_
  refine kx_ic (tgt := 29) (kx_tk_dec rfl dP_add) rfl (fun e6 => ?_) (fun e6 => ?_)
  · skip
    replace e6 : 40 ≤ nI n := e6
    replace e6 : 40 ≤ n := (nI_leI (a := 40) (b := n) (by omega) (by omega)).mp e6
    refine kx_retv (kx_tk_dec rfl dP_add) rfl ?_
    exact ⟨rfl, F, n, rfl, hn, fun z => absurd e6 (by omega)⟩
  · skip
    replace e6 : ¬ 40 ≤ nI n := e6
    replace e6 : ¬ 40 ≤ n := fun z => e6 ((nI_leI (a := 40) (b := n) (by omega) (by omega)).mpr z)
    refine kx_rn dP_add 1 10 [(0, .ref p), (1, .int x)] [.ref p] rfl ?_
    refine pP_9 (v := .ref s) rfl (kx_tk_dec rfl dP_add) (qH_p b) rfl ?_
    refine kx_rn dP_add 1 14 [(0, .ref p), (1, .int x)] [.ref p, .ref s] rfl ?_
    refine pP_18 (v := .int (nI n)) rfl (kx_tk_dec rfl dP_add) (qH_p b) rfl ?_
    refine kx_rn dP_add 1 18 [(0, .ref p), (1, .int x)] [.int x, .int (nI n), .ref s] rfl ?_
    refine kx_istN (i := n) (kx_tk_dec rfl dP_add) (qH_s b) (by show n < 40; omega) (by decide) ?_
    refine kx_heq (qH_ss b) ?_
    refine kx_rn dP_add 2 21 [(0, .ref p), (1, .int x)] [.ref p, .ref p] rfl ?_
    refine pP_18 (v := .int (nI n)) rfl (kx_tk_dec rfl dP_add) (qH_p b) rfl ?_
    refine kx_rn dP_add 2 26 [(0, .ref p), (1, .int x)] [.int ((nI n) + 1), .ref p] rfl ?_
    rw [show (nI n) + 1 = nI (n + 1) from kn_ad rfl rfl]
    refine qP_18 rfl (kx_tk_dec rfl dP_add) (qH_p b) rfl rfl (Nat.le_of_ble_eq_true rfl) ?_
    refine kx_heq (qH_sp (n' := n + 1) b) ?_
    refine kx_retv (kx_tk_dec rfl dP_add) rfl ?_
    exact ⟨rfl, va_up F n x, n + 1, rfl, by omega, fun _ => ⟨rfl, rfl⟩⟩
set_option maxRecDepth 100000 in
theorem cQ_skip {a n : Nat} {c : Int32} {F : Nat → Int32} (hst : l.stackTraces = false) (b : qFx G h q p s tx T) (hln : ln ≤ 40) (ha : a ≤ 40) :
    kx_c G l mQ_skip (d + 1) 0 0 [.ref q, .int c] (qH h q p s k tx ln (nI a) col F n) (fun o h' => ∃ z : Bool, o = .returned (some (.int (b01 z))) ∧ ((z = true ∧ kCur T ln a = c ∧ h' = qH h q p s k tx ln (nI (a + 1)) col F n) ∨ (z = false ∧ ¬ kCur T ln a = c ∧ h' = qH h q p s k tx ln (nI a) col F n))) := by
  refine kx_in (by decide +kernel) (Nat.le_of_ble_eq_true rfl) hst ?_
  refine kx_rn dQ_skip 1 1 [(0, .ref q), (1, .int c)] [.ref q] rfl ?_
  refine cQ_36 (as := []) (st := []) (mc := 0) (ms := 0) (kc := 0) (ks := 0) rfl (kx_tk_dec rfl dQ_skip) (qH_q b) rfl rfl (Nat.le_of_ble_eq_true rfl) (cQ_next hst b hln (by omega)) (fun o h' hq => ?_)
  obtain ⟨rfl, rfl⟩ := hq
  show kx_w _ _ _ _ _ _ _ _ _ _ _
  refine kx_rn dQ_skip 1 5 [(0, .ref q), (1, .int c)] [.int c, .int (kCur T ln a)] rfl ?_
  refine kx_ic (tgt := 10) (kx_tk_dec rfl dQ_skip) rfl (fun e5 => ?_) (fun e5 => ?_)
  · skip
    replace e5 : kCur T ln a = c := e5
    refine kx_rn dQ_skip 2 12 [(0, .ref q), (1, .int c)] [.ref q, .ref q] rfl ?_
    refine pQ_18 (v := .int (nI a)) rfl (kx_tk_dec rfl dQ_skip) (qH_q b) rfl ?_
    refine kx_rn dQ_skip 2 17 [(0, .ref q), (1, .int c)] [.int ((nI a) + 1), .ref q] rfl ?_
    rw [show (nI a) + 1 = nI (a + 1) from kn_ad rfl rfl]
    refine qQ_18 rfl (kx_tk_dec rfl dQ_skip) (qH_q b) rfl rfl (Nat.le_of_ble_eq_true rfl) ?_
    refine kx_heq (qH_sq (at1 := nI (a + 1)) (col' := col)) ?_
    refine kx_rn dQ_skip 1 21 [(0, .ref q), (1, .int c)] [.int 1] rfl ?_
    refine kx_ret (ty := .boolean) (kx_tk_dec rfl dQ_skip) rfl rfl ?_
    exact ⟨true, rfl, Or.inl ⟨rfl, e5, rfl⟩⟩
  · skip
    replace e5 : ¬ kCur T ln a = c := e5
    refine kx_rn dQ_skip 1 9 [(0, .ref q), (1, .int c)] [.int 0] rfl ?_
    refine kx_ret (ty := .boolean) (kx_tk_dec rfl dQ_skip) rfl rfl ?_
    exact ⟨false, rfl, Or.inr ⟨rfl, e5, rfl⟩⟩
set_option maxRecDepth 100000 in
theorem cQ_readItem {a : Nat} {F : Nat → Int32} {es : List Int32} (hst : l.stackTraces = false) (b : qFx G h q p s tx T) (hln : ln ≤ 40) (ha : a ≤ ln) (he : es.length ≤ a) (hp : prg F es) :
    kx_c G l mQ_readItem (d + 1) 0 0 [.ref q] (qH h q p s k tx ln (nI a) col F es.length) (qRd h q p s k tx ln col T es (rItem T ln a)) := by
  refine kx_in (by decide +kernel) (Nat.le_of_ble_eq_true rfl) hst ?_
  refine kx_rn dQ_readItem 1 1 [(0, .ref q)] [.ref q] rfl ?_
  refine cQ_36 (as := []) (st := []) (mc := 0) (ms := 0) (kc := 0) (ks := 0) rfl (kx_tk_dec rfl dQ_readItem) (qH_q b) rfl rfl (Nat.le_of_ble_eq_true rfl) (cQ_next hst b hln (by omega)) (fun o h' hq => ?_)
  obtain ⟨rfl, rfl⟩ := hq
  show kx_w _ _ _ _ _ _ _ _ _ _ _
  refine cQ_40 (as := [.int (kCur T ln a)]) (st := []) (mc := 0) (ms := 0) (kc := 0) (ks := 0) rfl (kx_tk_dec rfl dQ_readItem) rfl rfl (Nat.le_of_ble_eq_true rfl) (cP_isColumn hst) (fun o h' hq => ?_)
  obtain ⟨rfl, rfl⟩ := hq
  show kx_w _ _ _ _ _ _ _ _ _ _ _
  refine kx_if (tgt := 33) (kx_tk_dec rfl dQ_readItem) rfl (fun e7 => ?_) (fun e7 => ?_)
  · skip
    replace e7 : b01 (isCol (kCur T ln a)) = 0 := e7
    replace e7 : isCol (kCur T ln a) = false := b01_f e7
    refine kx_rn dQ_readItem 4 37 [(0, .ref q), (1, .int 0), (2, .int 0)] [] rfl ?_
    have hnc : ¬ isCol (kCur T ln a) = true := by rw [e7]; decide
    have digits : ∀ n1 (j v : Nat), j + n1 = 4 → a + j ≤ ln → dgV T a j = v → v < pw10 j → dgN T ln 4 a = j + dgN T ln (4 - j) (a + j) → kx_w G l mQ_readItem (d + 1) (qRd h q p s k tx ln col T es (rItem T ln a)) 0 0 37 [(0, .ref q), (1, .int (nI v)), (2, .int (nI j))] [] (qH h q p s k tx ln (nI (a + j)) col F es.length) := by
      intro n1
      induction n1 with
      | zero =>
        intro j v hj hat3 hv hvb hdg
        refine kx_rn dQ_readItem 2 39 [(0, .ref q), (1, .int (nI v)), (2, .int (nI j))] [.int 4, .int (nI j)] rfl ?_
        refine kx_ic (tgt := 81) (kx_tk_dec rfl dQ_readItem) rfl (fun e39 => ?_) (fun e39 => ?_)
        · skip
          replace e39 : 4 ≤ nI j := e39
          replace e39 : 4 ≤ j := (nI_leI (a := 4) (b := j) (by omega) (by omega)).mp e39
          have hd4 : dgN T ln 4 a = j := by rw [hdg, show dgN T ln (4 - j) (a + j) = 0 from by rw [show 4 - j = 0 by omega]; rfl]; rfl
          have hvb2 := pw10_b (by omega) hvb
          refine kx_rn dQ_readItem 1 82 [(0, .ref q), (1, .int (nI v)), (2, .int (nI j))] [.ref q] rfl ?_
          refine pQ_12 (v := .ref p) rfl (kx_tk_dec rfl dQ_readItem) (qH_q b) rfl ?_
          refine kx_rn dQ_readItem 3 90 [(0, .ref q), (1, .int (nI v)), (2, .int (nI j))] [.int (128 + (nI v)), .ref p] rfl ?_
          rw [show 128 + (nI v) = nI (128 + v) from kn_ad rfl rfl]
          refine cQ_56 (as := [.int (nI (128 + v))]) (st := []) (mc := 0) (ms := 0) (kc := 0) (ks := 0) rfl (kx_tk_dec rfl dQ_readItem) (qH_p b) rfl rfl (Nat.le_of_ble_eq_true rfl) (cQ_add (x := nI (128 + v)) hst b (by omega)) (fun o h' hq => ?_)
          obtain ⟨rfl, F1, n1, rfl, hn1, ha1⟩ := hq
          show kx_w _ _ _ _ _ _ _ _ _ _ _
          refine kx_rn dQ_readItem 1 94 [(0, .ref q), (1, .int (nI v)), (2, .int (nI j))] [.int (nI j)] rfl ?_
          refine kx_if (tgt := 101) (kx_tk_dec rfl dQ_readItem) rfl (fun e94 => ?_) (fun e94 => ?_)
          · skip
            replace e94 : nI j ≤ 0 := e94
            replace e94 : j ≤ 0 := (nI_leI (a := j) (b := 0) (by omega) (by omega)).mp e94
            refine kx_rn dQ_readItem 1 102 [(0, .ref q), (1, .int (nI v)), (2, .int (nI j))] [.int 0] rfl ?_
            refine kx_ret (ty := .boolean) (kx_tk_dec rfl dQ_readItem) rfl rfl ?_
            have hj0 : j = 0 := by omega
            have hr : rItem T ln a = (false, a, []) := by unfold rItem; rw [if_neg hnc, hd4, if_pos hj0]
            rw [hr]
            exact ⟨false, _, _, rfl, by rw [hj0]; rfl, hn1, Or.inl ⟨rfl, fun z => by cases z⟩⟩
          · skip
            replace e94 : ¬ nI j ≤ 0 := e94
            replace e94 : ¬ j ≤ 0 := fun z => e94 ((nI_leI (a := j) (b := 0) (by omega) (by omega)).mpr z)
            refine kx_rn dQ_readItem 2 102 [(0, .ref q), (1, .int (nI v)), (2, .int (nI j))] [.int 1] rfl ?_
            refine kx_ret (ty := .boolean) (kx_tk_dec rfl dQ_readItem) rfl rfl ?_
            have hr : rItem T ln a = (!isDig (kCur T ln (a + j)), a + j, [nI v]) := by unfold rItem; rw [if_neg hnc, hd4, if_neg (by omega), hv]
            rw [hr]
            by_cases hdd : isDig (kCur T ln (a + j)) = true
            · exact ⟨true, _, _, rfl, rfl, hn1, Or.inr ⟨rfl, by simp only [hdd]; rfl, hdd⟩⟩
            · obtain ⟨rfl, rfl⟩ := ha1 (by omega)
              exact ⟨true, _, _, rfl, rfl, hn1, Or.inl ⟨by rw [kB_f hdd]; rfl, fun _ => ⟨by rw [List.length_append]; rfl, prg_add hp rfl (cv_num hvb2).symm⟩⟩⟩
        · skip
          replace e39 : ¬ 4 ≤ nI j := e39
          replace e39 : ¬ 4 ≤ j := fun z => e39 ((nI_leI (a := 4) (b := j) (by omega) (by omega)).mpr z)
          exfalso; omega
      | succ n1 ih =>
        intro j v hj hat3 hv hvb hdg
        refine kx_rn dQ_readItem 2 39 [(0, .ref q), (1, .int (nI v)), (2, .int (nI j))] [.int 4, .int (nI j)] rfl ?_
        refine kx_ic (tgt := 81) (kx_tk_dec rfl dQ_readItem) rfl (fun e39 => ?_) (fun e39 => ?_)
        · skip
          replace e39 : 4 ≤ nI j := e39
          replace e39 : 4 ≤ j := (nI_leI (a := 4) (b := j) (by omega) (by omega)).mp e39
          exfalso; omega
        · skip
          replace e39 : ¬ 4 ≤ nI j := e39
          replace e39 : ¬ 4 ≤ j := fun z => e39 ((nI_leI (a := 4) (b := j) (by omega) (by omega)).mpr z)
          refine kx_rn dQ_readItem 1 43 [(0, .ref q), (1, .int (nI v)), (2, .int (nI j))] [.ref q] rfl ?_
          refine cQ_36 (as := []) (st := []) (mc := 0) (ms := 0) (kc := 0) (ks := 0) rfl (kx_tk_dec rfl dQ_readItem) (qH_q b) rfl rfl (Nat.le_of_ble_eq_true rfl) (cQ_next hst b hln (by omega)) (fun o h' hq => ?_)
          obtain ⟨rfl, rfl⟩ := hq
          show kx_w _ _ _ _ _ _ _ _ _ _ _
          refine cQ_72 (as := [.int (kCur T ln (a + j))]) (st := []) (mc := 0) (ms := 0) (kc := 0) (ks := 0) rfl (kx_tk_dec rfl dQ_readItem) rfl rfl (Nat.le_of_ble_eq_true rfl) (cQ_isDigit hst) (fun o h' hq => ?_)
          obtain ⟨rfl, rfl⟩ := hq
          show kx_w _ _ _ _ _ _ _ _ _ _ _
          refine kx_if (tgt := 81) (kx_tk_dec rfl dQ_readItem) rfl (fun e49 => ?_) (fun e49 => ?_)
          · skip
            replace e49 : b01 (isDig (kCur T ln (a + j))) = 0 := e49
            replace e49 : isDig (kCur T ln (a + j)) = false := b01_f e49
            have hd4 : dgN T ln 4 a = j := by rw [hdg, dgN_out (by rw [e49]; decide)]; rfl
            have hvb2 := pw10_b (by omega) hvb
            refine kx_rn dQ_readItem 1 82 [(0, .ref q), (1, .int (nI v)), (2, .int (nI j))] [.ref q] rfl ?_
            refine pQ_12 (v := .ref p) rfl (kx_tk_dec rfl dQ_readItem) (qH_q b) rfl ?_
            refine kx_rn dQ_readItem 3 90 [(0, .ref q), (1, .int (nI v)), (2, .int (nI j))] [.int (128 + (nI v)), .ref p] rfl ?_
            rw [show 128 + (nI v) = nI (128 + v) from kn_ad rfl rfl]
            refine cQ_56 (as := [.int (nI (128 + v))]) (st := []) (mc := 0) (ms := 0) (kc := 0) (ks := 0) rfl (kx_tk_dec rfl dQ_readItem) (qH_p b) rfl rfl (Nat.le_of_ble_eq_true rfl) (cQ_add (x := nI (128 + v)) hst b (by omega)) (fun o h' hq => ?_)
            obtain ⟨rfl, F2, n2, rfl, hn2, ha2⟩ := hq
            show kx_w _ _ _ _ _ _ _ _ _ _ _
            refine kx_rn dQ_readItem 1 94 [(0, .ref q), (1, .int (nI v)), (2, .int (nI j))] [.int (nI j)] rfl ?_
            refine kx_if (tgt := 101) (kx_tk_dec rfl dQ_readItem) rfl (fun e94 => ?_) (fun e94 => ?_)
            · skip
              replace e94 : nI j ≤ 0 := e94
              replace e94 : j ≤ 0 := (nI_leI (a := j) (b := 0) (by omega) (by omega)).mp e94
              refine kx_rn dQ_readItem 1 102 [(0, .ref q), (1, .int (nI v)), (2, .int (nI j))] [.int 0] rfl ?_
              refine kx_ret (ty := .boolean) (kx_tk_dec rfl dQ_readItem) rfl rfl ?_
              have hj0 : j = 0 := by omega
              have hr : rItem T ln a = (false, a, []) := by unfold rItem; rw [if_neg hnc, hd4, if_pos hj0]
              rw [hr]
              exact ⟨false, _, _, rfl, by rw [hj0]; rfl, hn2, Or.inl ⟨rfl, fun z => by cases z⟩⟩
            · skip
              replace e94 : ¬ nI j ≤ 0 := e94
              replace e94 : ¬ j ≤ 0 := fun z => e94 ((nI_leI (a := j) (b := 0) (by omega) (by omega)).mpr z)
              refine kx_rn dQ_readItem 2 102 [(0, .ref q), (1, .int (nI v)), (2, .int (nI j))] [.int 1] rfl ?_
              refine kx_ret (ty := .boolean) (kx_tk_dec rfl dQ_readItem) rfl rfl ?_
              have hr : rItem T ln a = (!isDig (kCur T ln (a + j)), a + j, [nI v]) := by unfold rItem; rw [if_neg hnc, hd4, if_neg (by omega), hv]
              rw [hr]
              by_cases hdd : isDig (kCur T ln (a + j)) = true
              · exact ⟨true, _, _, rfl, rfl, hn2, Or.inr ⟨rfl, by simp only [hdd]; rfl, hdd⟩⟩
              · obtain ⟨rfl, rfl⟩ := ha2 (by omega)
                exact ⟨true, _, _, rfl, rfl, hn2, Or.inl ⟨by rw [kB_f hdd]; rfl, fun _ => ⟨by rw [List.length_append]; rfl, prg_add hp rfl (cv_num hvb2).symm⟩⟩⟩
          · skip
            replace e49 : ¬ b01 (isDig (kCur T ln (a + j))) = 0 := e49
            replace e49 : isDig (kCur T ln (a + j)) = true := b01_t e49
            have hlt := dig_in e49
            rw [kCur_in hlt] at e49
            obtain ⟨x, hx, hx1, hx2⟩ := isDig_nat e49
            have hvb2 := pw10_b (by omega) hvb
            refine kx_rn dQ_readItem 4 57 [(0, .ref q), (1, .int (nI v)), (2, .int (nI j))] [.ref q, .int ((nI v) * 10)] rfl ?_
            rw [show (nI v) * 10 = nI (v * 10) from kn_mu rfl rfl]
            refine cQ_36 (as := []) (st := [.int (nI (v * 10))]) (mc := 0) (ms := 0) (kc := 0) (ks := 0) rfl (kx_tk_dec rfl dQ_readItem) (qH_q b) rfl rfl (Nat.le_of_ble_eq_true rfl) (cQ_next hst b hln (by omega)) (fun o h' hq => ?_)
            obtain ⟨rfl, rfl⟩ := hq
            show kx_w _ _ _ _ _ _ _ _ _ _ _
            rw [kCur_in hlt, hx]
            refine kx_rn dQ_readItem 6 67 [(0, .ref q), (1, .int (((nI (v * 10)) + (nI x)) - 48)), (2, .int (nI j))] [.ref q, .ref q] rfl ?_
            rw [show ((nI (v * 10)) + (nI x)) - 48 = nI (((v * 10) + x) - 48) from kn_su (kn_ad rfl rfl) rfl (by omega)]
            refine pQ_18 (v := .int (nI (a + j))) rfl (kx_tk_dec rfl dQ_readItem) (qH_q b) rfl ?_
            refine kx_rn dQ_readItem 2 72 [(0, .ref q), (1, .int (nI (((v * 10) + x) - 48))), (2, .int (nI j))] [.int ((nI (a + j)) + 1), .ref q] rfl ?_
            rw [show (nI (a + j)) + 1 = nI ((a + j) + 1) from kn_ad rfl rfl]
            refine qQ_18 rfl (kx_tk_dec rfl dQ_readItem) (qH_q b) rfl rfl (Nat.le_of_ble_eq_true rfl) ?_
            refine kx_heq (qH_sq (at1 := nI ((a + j) + 1)) (col' := col)) ?_
            refine kx_rn dQ_readItem 2 37 [(0, .ref q), (1, .int (nI (((v * 10) + x) - 48))), (2, .int ((nI j) + 1))] [] rfl ?_
            rw [show (nI j) + 1 = nI (j + 1) from kn_ad rfl rfl]
            refine ih (j + 1) _ (by omega) (by omega) ?_ (by have := pw10_s (x := x - 48) (by omega) hvb (by omega); rw [show v * 10 + x - 48 = 10 * v + (x - 48) by omega]; exact this) ?_
            · show 10 * dgV T a j + _ = _
              rw [hv, hx, nI_clamp (by omega)]
              omega
            · rw [hdg, show 4 - j = (4 - (j + 1)) + 1 by omega]
              simp only [dgN]
              rw [kCur_in hlt, if_pos e49, show a + (j + 1) = a + j + 1 by omega]
              omega
    exact digits 4 0 0 rfl ha rfl (by decide) (by simp)
  · skip
    replace e7 : ¬ b01 (isCol (kCur T ln a)) = 0 := e7
    replace e7 : isCol (kCur T ln a) = true := b01_t e7
    refine kx_rn dQ_readItem 1 11 [(0, .ref q)] [.ref q] rfl ?_
    refine pQ_12 (v := .ref p) rfl (kx_tk_dec rfl dQ_readItem) (qH_q b) rfl ?_
    refine kx_rn dQ_readItem 1 15 [(0, .ref q)] [.ref q, .ref p] rfl ?_
    refine cQ_36 (as := []) (st := [.ref p]) (mc := 0) (ms := 0) (kc := 0) (ks := 0) rfl (kx_tk_dec rfl dQ_readItem) (qH_q b) rfl rfl (Nat.le_of_ble_eq_true rfl) (cQ_next hst b hln (by omega)) (fun o h' hq => ?_)
    obtain ⟨rfl, rfl⟩ := hq
    show kx_w _ _ _ _ _ _ _ _ _ _ _
    refine cQ_56 (as := [.int (kCur T ln a)]) (st := []) (mc := 0) (ms := 0) (kc := 0) (ks := 0) rfl (kx_tk_dec rfl dQ_readItem) (qH_p b) rfl rfl (Nat.le_of_ble_eq_true rfl) (cQ_add (x := kCur T ln a) hst b (by omega)) (fun o h' hq => ?_)
    obtain ⟨rfl, F3, n3, rfl, hn3, ha3⟩ := hq
    show kx_w _ _ _ _ _ _ _ _ _ _ _
    refine kx_rn dQ_readItem 2 23 [(0, .ref q)] [.ref q, .ref q] rfl ?_
    refine pQ_18 (v := .int (nI a)) rfl (kx_tk_dec rfl dQ_readItem) (qH_q b) rfl ?_
    refine kx_rn dQ_readItem 2 28 [(0, .ref q)] [.int ((nI a) + 1), .ref q] rfl ?_
    rw [show (nI a) + 1 = nI (a + 1) from kn_ad rfl rfl]
    refine qQ_18 rfl (kx_tk_dec rfl dQ_readItem) (qH_q b) rfl rfl (Nat.le_of_ble_eq_true rfl) ?_
    refine kx_heq (qH_sq (at1 := nI (a + 1)) (col' := col)) ?_
    refine kx_rn dQ_readItem 1 32 [(0, .ref q)] [.int 1] rfl ?_
    refine kx_ret (ty := .boolean) (kx_tk_dec rfl dQ_readItem) rfl rfl ?_
    have hlt : a < ln := Nat.lt_of_not_le fun z => by rw [kCur_out (by omega)] at e7; exact absurd e7 (by decide)
    have hr : rItem T ln a = (true, a + 1, [96 - kCur T ln a]) := by unfold rItem; rw [if_pos e7]
    rw [hr]
    obtain ⟨rfl, rfl⟩ := ha3 (by omega)
    exact ⟨true, _, _, rfl, rfl, hn3, Or.inl ⟨rfl, fun _ => ⟨by rw [List.length_append]; rfl, prg_add hp rfl (cv_cl e7)⟩⟩⟩
set_option maxRecDepth 100000 in
theorem cQ_readTerm {a : Nat} {F : Nat → Int32} {es : List Int32} (hst : l.stackTraces = false) (b : qFx G h q p s tx T) (hln : ln ≤ 40) (ha : a ≤ ln) (he : es.length ≤ a) (hp : prg F es) :
    kx_c G l mQ_readTerm (d + 2) 0 0 [.ref q] (qH h q p s k tx ln (nI a) col F es.length) (qRd h q p s k tx ln col T es (rTerm T ln a)) := by
  refine kx_in (by decide +kernel) (Nat.le_of_ble_eq_true rfl) hst ?_
  have hN : ∀ (i a1 n1 : Nat) (F1 : Nat → Int32), i ≤ 40 → n1 ≤ 40 → (sqO isAri (rItem T ln) T ln 40 a).1 = false → (sqO isAri (rItem T ln) T ln 40 a).2.1 = a1 → kx_w G l mQ_readTerm (d + 2) (qRd h q p s k tx ln col T es (sqO isAri (rItem T ln) T ln 40 a)) 0 0 7 [(0, .ref q), (1, .int (b01 false)), (2, .int (nI i))] [] (qH h q p s k tx ln (nI a1) col F1 n1) := by
    intro i a1 n1 F1 hi hn1 hr1 hr2
    refine kx_rn dQ_readTerm 2 10 [(0, .ref q), (1, .int (b01 false)), (2, .int (nI i))] [.int 40, .int (nI i)] rfl ?_
    refine kx_ic (tgt := 61) (kx_tk_dec rfl dQ_readTerm) rfl (fun e10 => ?_) (fun e10 => ?_)
    · skip
      replace e10 : 40 ≤ nI i := e10
      replace e10 : 40 ≤ i := (nI_leI (a := 40) (b := i) (by omega) (by omega)).mp e10
      refine kx_rn dQ_readTerm 1 62 [(0, .ref q), (1, .int (b01 false)), (2, .int (nI i))] [.int (b01 false)] rfl ?_
      refine kx_ret (ty := .boolean) (kx_tk_dec rfl dQ_readTerm) rfl (b01_nr _) ?_
      exact ⟨false, F1, n1, rfl, by rw [hr2], hn1, Or.inl ⟨hr1.symm, fun z => by cases z⟩⟩
    · skip
      replace e10 : ¬ 40 ≤ nI i := e10
      replace e10 : ¬ 40 ≤ i := fun z => e10 ((nI_leI (a := 40) (b := i) (by omega) (by omega)).mpr z)
      refine kx_rn dQ_readTerm 1 14 [(0, .ref q), (1, .int (b01 false)), (2, .int (nI i))] [.int (b01 false)] rfl ?_
      refine kx_if (tgt := 61) (kx_tk_dec rfl dQ_readTerm) rfl (fun e14 => ?_) (fun e14 => ?_)
      · skip
        replace e14 : b01 false = 0 := e14
        replace e14 : false = false := b01_f e14
        refine kx_rn dQ_readTerm 1 62 [(0, .ref q), (1, .int (b01 false)), (2, .int (nI i))] [.int (b01 false)] rfl ?_
        refine kx_ret (ty := .boolean) (kx_tk_dec rfl dQ_readTerm) rfl (b01_nr _) ?_
        exact ⟨false, F1, n1, rfl, by rw [hr2], hn1, Or.inl ⟨hr1.symm, fun z => by cases z⟩⟩
      · skip
        replace e14 : ¬ b01 false = 0 := e14
        replace e14 : false = true := b01_t e14
        cases e14
  have hP : ∀ (i a1 n1 : Nat) (F1 : Nat → Int32), i ≤ 40 → n1 ≤ 40 → (sqO isAri (rItem T ln) T ln 40 a).1 = false → (sqO isAri (rItem T ln) T ln 40 a).2.1 = a1 → isDig (kCur T ln a1) = true → kx_w G l mQ_readTerm (d + 2) (qRd h q p s k tx ln col T es (sqO isAri (rItem T ln) T ln 40 a)) 0 0 7 [(0, .ref q), (1, .int (b01 true)), (2, .int (nI i))] [] (qH h q p s k tx ln (nI a1) col F1 n1) := by
    intro i a1 n1 F1 hi hn1 hr1 hr2 hdg
    have hlt := dig_in hdg
    refine kx_rn dQ_readTerm 2 10 [(0, .ref q), (1, .int (b01 true)), (2, .int (nI i))] [.int 40, .int (nI i)] rfl ?_
    refine kx_ic (tgt := 61) (kx_tk_dec rfl dQ_readTerm) rfl (fun e10 => ?_) (fun e10 => ?_)
    · skip
      replace e10 : 40 ≤ nI i := e10
      replace e10 : 40 ≤ i := (nI_leI (a := 40) (b := i) (by omega) (by omega)).mp e10
      refine kx_rn dQ_readTerm 1 62 [(0, .ref q), (1, .int (b01 true)), (2, .int (nI i))] [.int (b01 true)] rfl ?_
      refine kx_ret (ty := .boolean) (kx_tk_dec rfl dQ_readTerm) rfl (b01_nr _) ?_
      exact ⟨true, F1, n1, rfl, by rw [hr2], hn1, Or.inr ⟨rfl, hr1, by rw [hr2]; exact hdg⟩⟩
    · skip
      replace e10 : ¬ 40 ≤ nI i := e10
      replace e10 : ¬ 40 ≤ i := fun z => e10 ((nI_leI (a := 40) (b := i) (by omega) (by omega)).mpr z)
      refine kx_rn dQ_readTerm 1 14 [(0, .ref q), (1, .int (b01 true)), (2, .int (nI i))] [.int (b01 true)] rfl ?_
      refine kx_if (tgt := 61) (kx_tk_dec rfl dQ_readTerm) rfl (fun e14 => ?_) (fun e14 => ?_)
      · skip
        replace e14 : b01 true = 0 := e14
        replace e14 : true = false := b01_f e14
        cases e14
      · skip
        replace e14 : ¬ b01 true = 0 := e14
        replace e14 : true = true := b01_t e14
        refine kx_rn dQ_readTerm 1 18 [(0, .ref q), (1, .int (b01 true)), (2, .int (nI i))] [.ref q] rfl ?_
        refine cQ_36 (as := []) (st := []) (mc := 0) (ms := 0) (kc := 0) (ks := 0) rfl (kx_tk_dec rfl dQ_readTerm) (qH_q b) rfl rfl (Nat.le_of_ble_eq_true rfl) (cQ_next hst b hln (by omega)) (fun o h' hq => ?_)
        obtain ⟨rfl, rfl⟩ := hq
        show kx_w _ _ _ _ _ _ _ _ _ _ _
        refine cQ_69 (as := [.int (kCur T ln a1)]) (st := []) (mc := 0) (ms := 0) (kc := 0) (ks := 0) rfl (kx_tk_dec rfl dQ_readTerm) rfl rfl (Nat.le_of_ble_eq_true rfl) (cQ_isCalculation hst) (fun o h' hq => ?_)
        obtain ⟨rfl, rfl⟩ := hq
        show kx_w _ _ _ _ _ _ _ _ _ _ _
        refine kx_if (tgt := 61) (kx_tk_dec rfl dQ_readTerm) rfl (fun e24 => ?_) (fun e24 => ?_)
        · skip
          replace e24 : b01 (isAri (kCur T ln a1)) = 0 := e24
          replace e24 : isAri (kCur T ln a1) = false := b01_f e24
          refine kx_rn dQ_readTerm 1 62 [(0, .ref q), (1, .int (b01 true)), (2, .int (nI i))] [.int (b01 true)] rfl ?_
          refine kx_ret (ty := .boolean) (kx_tk_dec rfl dQ_readTerm) rfl (b01_nr _) ?_
          exact ⟨true, F1, n1, rfl, by rw [hr2], hn1, Or.inr ⟨rfl, hr1, by rw [hr2]; exact hdg⟩⟩
        · skip
          replace e24 : ¬ b01 (isAri (kCur T ln a1)) = 0 := e24
          replace e24 : isAri (kCur T ln a1) = true := b01_t e24
          rw [(dig_not hdg).1] at e24; cases e24
  have loop : ∀ f (i a1 : Nat) (fs : List Int32) (F1 : Nat → Int32), i + f = 40 → a1 ≤ ln → es.length + fs.length ≤ a1 → prg F1 (es ++ fs) → lpO isAri (rItem T ln) T ln f a1 fs = sqO isAri (rItem T ln) T ln 40 a → kx_w G l mQ_readTerm (d + 2) (qRd h q p s k tx ln col T es (sqO isAri (rItem T ln) T ln 40 a)) 0 0 7 [(0, .ref q), (1, .int (b01 true)), (2, .int (nI i))] [] (qH h q p s k tx ln (nI a1) col F1 ((es ++ fs).length)) := by
    intro f
    induction f with
    | zero =>
      intro i a1 fs F1 hi ha1 hfs hpr hres
      have hlen : (es ++ fs).length = es.length + fs.length := List.length_append
      refine kx_rn dQ_readTerm 2 10 [(0, .ref q), (1, .int (b01 true)), (2, .int (nI i))] [.int 40, .int (nI i)] rfl ?_
      refine kx_ic (tgt := 61) (kx_tk_dec rfl dQ_readTerm) rfl (fun e10 => ?_) (fun e10 => ?_)
      · skip
        replace e10 : 40 ≤ nI i := e10
        replace e10 : 40 ≤ i := (nI_leI (a := 40) (b := i) (by omega) (by omega)).mp e10
        refine kx_rn dQ_readTerm 1 62 [(0, .ref q), (1, .int (b01 true)), (2, .int (nI i))] [.int (b01 true)] rfl ?_
        refine kx_ret (ty := .boolean) (kx_tk_dec rfl dQ_readTerm) rfl (b01_nr _) ?_
        have hr : sqO isAri (rItem T ln) T ln 40 a = (true, a1, fs) := by rw [← hres]; rfl
        rw [hr]
        exact ⟨true, F1, _, rfl, rfl, by omega, Or.inl ⟨rfl, fun _ => ⟨rfl, hpr⟩⟩⟩
      · skip
        replace e10 : ¬ 40 ≤ nI i := e10
        replace e10 : ¬ 40 ≤ i := fun z => e10 ((nI_leI (a := 40) (b := i) (by omega) (by omega)).mpr z)
        exfalso; omega
    | succ f ih =>
      intro i a1 fs F1 hi ha1 hfs hpr hres
      have hlen : (es ++ fs).length = es.length + fs.length := List.length_append
      refine kx_rn dQ_readTerm 2 10 [(0, .ref q), (1, .int (b01 true)), (2, .int (nI i))] [.int 40, .int (nI i)] rfl ?_
      refine kx_ic (tgt := 61) (kx_tk_dec rfl dQ_readTerm) rfl (fun e10 => ?_) (fun e10 => ?_)
      · skip
        replace e10 : 40 ≤ nI i := e10
        replace e10 : 40 ≤ i := (nI_leI (a := 40) (b := i) (by omega) (by omega)).mp e10
        exfalso; omega
      · skip
        replace e10 : ¬ 40 ≤ nI i := e10
        replace e10 : ¬ 40 ≤ i := fun z => e10 ((nI_leI (a := 40) (b := i) (by omega) (by omega)).mpr z)
        refine kx_rn dQ_readTerm 1 14 [(0, .ref q), (1, .int (b01 true)), (2, .int (nI i))] [.int (b01 true)] rfl ?_
        refine kx_if (tgt := 61) (kx_tk_dec rfl dQ_readTerm) rfl (fun e14 => ?_) (fun e14 => ?_)
        · skip
          replace e14 : b01 true = 0 := e14
          replace e14 : true = false := b01_f e14
          cases e14
        · skip
          replace e14 : ¬ b01 true = 0 := e14
          replace e14 : true = true := b01_t e14
          refine kx_rn dQ_readTerm 1 18 [(0, .ref q), (1, .int (b01 true)), (2, .int (nI i))] [.ref q] rfl ?_
          refine cQ_36 (as := []) (st := []) (mc := 0) (ms := 0) (kc := 0) (ks := 0) rfl (kx_tk_dec rfl dQ_readTerm) (qH_q b) rfl rfl (Nat.le_of_ble_eq_true rfl) (cQ_next hst b hln (by omega)) (fun o h' hq => ?_)
          obtain ⟨rfl, rfl⟩ := hq
          show kx_w _ _ _ _ _ _ _ _ _ _ _
          refine cQ_69 (as := [.int (kCur T ln a1)]) (st := []) (mc := 0) (ms := 0) (kc := 0) (ks := 0) rfl (kx_tk_dec rfl dQ_readTerm) rfl rfl (Nat.le_of_ble_eq_true rfl) (cQ_isCalculation hst) (fun o h' hq => ?_)
          obtain ⟨rfl, rfl⟩ := hq
          show kx_w _ _ _ _ _ _ _ _ _ _ _
          refine kx_if (tgt := 61) (kx_tk_dec rfl dQ_readTerm) rfl (fun e24 => ?_) (fun e24 => ?_)
          · skip
            replace e24 : b01 (isAri (kCur T ln a1)) = 0 := e24
            replace e24 : isAri (kCur T ln a1) = false := b01_f e24
            refine kx_rn dQ_readTerm 1 62 [(0, .ref q), (1, .int (b01 true)), (2, .int (nI i))] [.int (b01 true)] rfl ?_
            refine kx_ret (ty := .boolean) (kx_tk_dec rfl dQ_readTerm) rfl (b01_nr _) ?_
            have hr : sqO isAri (rItem T ln) T ln 40 a = (true, a1, fs) := by rw [← hres]; simp only [lpO]; rw [if_neg (by rw [e24]; decide)]
            rw [hr]
            exact ⟨true, F1, _, rfl, rfl, by omega, Or.inl ⟨rfl, fun _ => ⟨rfl, hpr⟩⟩⟩
          · skip
            replace e24 : ¬ b01 (isAri (kCur T ln a1)) = 0 := e24
            replace e24 : isAri (kCur T ln a1) = true := b01_t e24
            refine kx_rn dQ_readTerm 1 28 [(0, .ref q), (1, .int (b01 true)), (2, .int (nI i))] [.ref q] rfl ?_
            refine cQ_36 (as := []) (st := []) (mc := 0) (ms := 0) (kc := 0) (ks := 0) rfl (kx_tk_dec rfl dQ_readTerm) (qH_q b) rfl rfl (Nat.le_of_ble_eq_true rfl) (cQ_next hst b hln (by omega)) (fun o h' hq => ?_)
            obtain ⟨rfl, rfl⟩ := hq
            show kx_w _ _ _ _ _ _ _ _ _ _ _
            refine kx_rn dQ_readTerm 3 34 [(0, .ref q), (1, .int (b01 true)), (2, .int (nI i)), (3, .int (kCur T ln a1))] [.ref q, .ref q] rfl ?_
            refine pQ_18 (v := .int (nI a1)) rfl (kx_tk_dec rfl dQ_readTerm) (qH_q b) rfl ?_
            refine kx_rn dQ_readTerm 2 39 [(0, .ref q), (1, .int (b01 true)), (2, .int (nI i)), (3, .int (kCur T ln a1))] [.int ((nI a1) + 1), .ref q] rfl ?_
            rw [show (nI a1) + 1 = nI (a1 + 1) from kn_ad rfl rfl]
            refine qQ_18 rfl (kx_tk_dec rfl dQ_readTerm) (qH_q b) rfl rfl (Nat.le_of_ble_eq_true rfl) ?_
            refine kx_heq (qH_sq (at1 := nI (a1 + 1)) (col' := col)) ?_
            refine kx_rn dQ_readTerm 1 43 [(0, .ref q), (1, .int (b01 true)), (2, .int (nI i)), (3, .int (kCur T ln a1))] [.ref q] rfl ?_
            have hlt : a1 < ln := Nat.lt_of_not_le fun z => by rw [kCur_out (by omega)] at e24; exact absurd e24 (by decide)
            refine cQ_66 (as := []) (st := []) (mc := 0) (ms := 0) (kc := 0) (ks := 0) rfl (kx_tk_dec rfl dQ_readTerm) (qH_q b) rfl rfl (Nat.le_of_ble_eq_true rfl) (cQ_readItem (d := d) (a := a1 + 1) (F := F1) (es := es ++ fs) hst b hln (by omega) (by omega) hpr) (fun o h' hq => ?_)
            obtain ⟨b2, F2, n2, rfl, rfl, hn2, hcs⟩ := hq
            show kx_w _ _ _ _ _ _ _ _ _ _ _
            obtain ⟨g1, g2, g3⟩ := rItem_gd T ln (a1 + 1) (by omega)
            refine kx_rn dQ_readTerm 2 48 [(0, .ref q), (1, .int (b01 b2)), (2, .int (nI i)), (3, .int (kCur T ln a1))] [.ref q] rfl ?_
            refine pQ_12 (v := .ref p) rfl (kx_tk_dec rfl dQ_readTerm) (qH_q b) rfl ?_
            refine kx_rn dQ_readTerm 1 52 [(0, .ref q), (1, .int (b01 b2)), (2, .int (nI i)), (3, .int (kCur T ln a1))] [.int (kCur T ln a1), .ref p] rfl ?_
            refine cQ_56 (as := [.int (kCur T ln a1)]) (st := []) (mc := 0) (ms := 0) (kc := 0) (ks := 0) rfl (kx_tk_dec rfl dQ_readTerm) (qH_p b) rfl rfl (Nat.le_of_ble_eq_true rfl) (cQ_add (x := kCur T ln a1) hst b (by omega)) (fun o h' hq => ?_)
            obtain ⟨rfl, F4, n4, rfl, hn4, ha4⟩ := hq
            show kx_w _ _ _ _ _ _ _ _ _ _ _
            refine kx_rn dQ_readTerm 2 7 [(0, .ref q), (1, .int (b01 b2)), (2, .int ((nI i) + 1)), (3, .int (kCur T ln a1))] [] rfl ?_
            rw [show (nI i) + 1 = nI (i + 1) from kn_ad rfl rfl]
            refine kx_lsub (lv' := [(0, .ref q), (1, .int (b01 b2)), (2, .int (nI (i + 1)))]) (.cons₂ _ (.cons₂ _ (.cons₂ _ (.cons _ .slnil)))) ?_
            have hl2 : lpO isAri (rItem T ln) T ln (f + 1) a1 fs = if (rItem T ln (a1 + 1)).1 = true then lpO isAri (rItem T ln) T ln f (rItem T ln (a1 + 1)).2.1 (fs ++ (rItem T ln (a1 + 1)).2.2 ++ [-100 - kCur T ln a1]) else (false, (rItem T ln (a1 + 1)).2.1, []) := by
              simp only [lpO]; rw [if_pos e24]
            rcases hcs with ⟨hb2, hgood⟩ | ⟨hb2, hr1, hdg⟩
            · by_cases hb3 : b2 = true
              · obtain ⟨hn3, hp3⟩ := hgood hb3
                have hr1 : (rItem T ln (a1 + 1)).1 = true := by rw [← hb2]; exact hb3
                obtain ⟨g4, g5⟩ := g3 hr1
                rw [List.length_append] at hn3
                obtain ⟨rfl, rfl⟩ := ha4 (by omega)
                rw [if_pos hr1] at hl2
                rw [hb3]
                have hlast : es ++ fs ++ (rItem T ln (a1 + 1)).2.2 ++ [-100 - kCur T ln a1] = es ++ (fs ++ (rItem T ln (a1 + 1)).2.2 ++ [-100 - kCur T ln a1]) := by simp only [List.append_assoc]
                have hpx : prg (va_up F2 n2 (kCur T ln a1)) (es ++ (fs ++ (rItem T ln (a1 + 1)).2.2 ++ [-100 - kCur T ln a1])) := by
                  rw [← hlast]; exact prg_add hp3 (by rw [hn3]; simp only [List.length_append]) (cv_ch (Or.inl e24))
                have hln : n2 + 1 = (es ++ (fs ++ (rItem T ln (a1 + 1)).2.2 ++ [-100 - kCur T ln a1])).length := by
                  rw [← hlast]; simp only [List.length_append, List.length_cons, List.length_nil] at hn3 ⊢; omega
                rw [hln]
                exact ih (i + 1) _ (fs ++ (rItem T ln (a1 + 1)).2.2 ++ [-100 - kCur T ln a1]) _ (by omega) g2 (by simp only [List.length_append, List.length_cons, List.length_nil]; omega) hpx (by rw [← hres, hl2])
              · rw [kB_f hb3]
                have hr1 : (rItem T ln (a1 + 1)).1 = false := by rw [← hb2]; exact kB_f hb3
                rw [if_neg (by rw [hr1]; decide)] at hl2
                exact hN (i + 1) _ _ _ (by omega) hn4 (by rw [← hres, hl2]) (by rw [← hres, hl2])
            · rw [hb2]
              rw [if_neg (by rw [hr1]; decide)] at hl2
              exact hP (i + 1) _ _ _ (by omega) hn4 (by rw [← hres, hl2]) (by rw [← hres, hl2]) hdg
  refine kx_rn dQ_readTerm 1 1 [(0, .ref q)] [.ref q] rfl ?_
  refine cQ_66 (as := []) (st := []) (mc := 0) (ms := 0) (kc := 0) (ks := 0) rfl (kx_tk_dec rfl dQ_readTerm) (qH_q b) rfl rfl (Nat.le_of_ble_eq_true rfl) (cQ_readItem (d := d) (a := a) (F := F) (es := es) hst b hln ha he hp) (fun o h' hq => ?_)
  obtain ⟨b2, F2, n2, rfl, rfl, hn2, hcs⟩ := hq
  show kx_w _ _ _ _ _ _ _ _ _ _ _
  obtain ⟨g1, g2, g3⟩ := rItem_gd T ln a ha
  refine kx_rn dQ_readTerm 3 7 [(0, .ref q), (1, .int (b01 b2)), (2, .int 0)] [] rfl ?_
  rcases hcs with ⟨hb2, hgood⟩ | ⟨hb2, hr1, hdg⟩
  · by_cases hb3 : b2 = true
    · obtain ⟨hn3, hp3⟩ := hgood hb3
      have hr1 : (rItem T ln a).1 = true := by rw [← hb2]; exact hb3
      obtain ⟨g4, g5⟩ := g3 hr1
      rw [hb3, hn3]
      exact loop 40 0 _ (rItem T ln a).2.2 F2 rfl g2 (by omega) hp3 (by unfold sqO; rw [if_pos hr1])
    · rw [kB_f hb3]
      have hr1 : (rItem T ln a).1 = false := by rw [← hb2]; exact kB_f hb3
      exact hN 0 _ _ _ (by omega) hn2 (by unfold sqO; rw [if_neg (by rw [hr1]; decide)]) (by unfold sqO; rw [if_neg (by rw [hr1]; decide)])
  · rw [hb2]
    exact hP 0 _ _ _ (by omega) hn2 (by unfold sqO; rw [if_neg (by rw [hr1]; decide)]) (by unfold sqO; rw [if_neg (by rw [hr1]; decide)]) hdg
set_option maxRecDepth 100000 in
theorem cQ_readComparison {a : Nat} {F : Nat → Int32} {es : List Int32} (hst : l.stackTraces = false) (b : qFx G h q p s tx T) (hln : ln ≤ 40) (ha : a ≤ ln) (he : es.length ≤ a) (hp : prg F es) :
    kx_c G l mQ_readComparison (d + 3) 0 0 [.ref q] (qH h q p s k tx ln (nI a) col F es.length) (qRd h q p s k tx ln col T es (rComp T ln a)) := by
  refine kx_in (by decide +kernel) (Nat.le_of_ble_eq_true rfl) hst ?_
  refine kx_rn dQ_readComparison 1 1 [(0, .ref q)] [.ref q] rfl ?_
  refine cQ_46 (as := []) (st := []) (mc := 0) (ms := 0) (kc := 0) (ks := 0) rfl (kx_tk_dec rfl dQ_readComparison) (qH_q b) rfl rfl (Nat.le_of_ble_eq_true rfl) (cQ_readTerm (d := d) hst b hln ha he hp) (fun o h' hq => ?_)
  obtain ⟨b2, F2, n2, rfl, rfl, hn2, hcs⟩ := hq
  show kx_w _ _ _ _ _ _ _ _ _ _ _
  obtain ⟨g1, g2, g3⟩ := rTerm_gd T ln a ha
  refine kx_if (tgt := 9) (kx_tk_dec rfl dQ_readComparison) rfl (fun e4 => ?_) (fun e4 => ?_)
  · skip
    replace e4 : ¬ b01 b2 = 0 := e4
    replace e4 : b2 = true := b01_t e4
    refine kx_rn dQ_readComparison 1 10 [(0, .ref q)] [.ref q] rfl ?_
    refine cQ_36 (as := []) (st := []) (mc := 0) (ms := 0) (kc := 0) (ks := 0) rfl (kx_tk_dec rfl dQ_readComparison) (qH_q b) rfl rfl (Nat.le_of_ble_eq_true rfl) (cQ_next hst b hln (by omega)) (fun o h' hq => ?_)
    obtain ⟨rfl, rfl⟩ := hq
    show kx_w _ _ _ _ _ _ _ _ _ _ _
    refine kx_rn dQ_readComparison 2 15 [(0, .ref q), (1, .int (kCur T ln ((rTerm T ln a).2.1)))] [.int (kCur T ln ((rTerm T ln a).2.1))] rfl ?_
    refine cQ_63 (as := [.int (kCur T ln ((rTerm T ln a).2.1))]) (st := []) (mc := 0) (ms := 0) (kc := 0) (ks := 0) rfl (kx_tk_dec rfl dQ_readComparison) rfl rfl (Nat.le_of_ble_eq_true rfl) (cQ_isComparison hst) (fun o h' hq => ?_)
    obtain ⟨rfl, rfl⟩ := hq
    show kx_w _ _ _ _ _ _ _ _ _ _ _
    refine kx_if (tgt := 23) (kx_tk_dec rfl dQ_readComparison) rfl (fun e18 => ?_) (fun e18 => ?_)
    · skip
      replace e18 : ¬ b01 (isCmp (kCur T ln ((rTerm T ln a).2.1))) = 0 := e18
      replace e18 : isCmp (kCur T ln ((rTerm T ln a).2.1)) = true := b01_t e18
      refine kx_rn dQ_readComparison 2 25 [(0, .ref q), (1, .int (kCur T ln ((rTerm T ln a).2.1)))] [.ref q, .ref q] rfl ?_
      refine pQ_18 (v := .int (nI ((rTerm T ln a).2.1))) rfl (kx_tk_dec rfl dQ_readComparison) (qH_q b) rfl ?_
      refine kx_rn dQ_readComparison 2 30 [(0, .ref q), (1, .int (kCur T ln ((rTerm T ln a).2.1)))] [.int ((nI ((rTerm T ln a).2.1)) + 1), .ref q] rfl ?_
      rw [show (nI ((rTerm T ln a).2.1)) + 1 = nI (((rTerm T ln a).2.1) + 1) from kn_ad rfl rfl]
      refine qQ_18 rfl (kx_tk_dec rfl dQ_readComparison) (qH_q b) rfl rfl (Nat.le_of_ble_eq_true rfl) ?_
      refine kx_heq (qH_sq (at1 := nI (((rTerm T ln a).2.1) + 1)) (col' := col)) ?_
      refine kx_rn dQ_readComparison 1 34 [(0, .ref q), (1, .int (kCur T ln ((rTerm T ln a).2.1)))] [.ref q] rfl ?_
      have hlt : (rTerm T ln a).2.1 < ln := Nat.lt_of_not_le fun z => by rw [kCur_out (by omega)] at e18; exact absurd e18 (by decide)
      have hgood : (rTerm T ln a).1 = true ∧ n2 = (es ++ (rTerm T ln a).2.2).length ∧ prg F2 (es ++ (rTerm T ln a).2.2) := by
        rcases hcs with ⟨hb2, hgood⟩ | ⟨hb2, hr1, hdg⟩
        · exact ⟨by rw [← hb2]; exact e4, hgood e4⟩
        · rw [(dig_not hdg).2.1] at e18; cases e18
      obtain ⟨hr1, rfl, hp2⟩ := hgood
      obtain ⟨g4, g5⟩ := g3 hr1
      have hlen : (es ++ (rTerm T ln a).2.2).length = es.length + (rTerm T ln a).2.2.length := List.length_append
      refine cQ_46 (as := []) (st := []) (mc := 0) (ms := 0) (kc := 0) (ks := 0) rfl (kx_tk_dec rfl dQ_readComparison) (qH_q b) rfl rfl (Nat.le_of_ble_eq_true rfl) (cQ_readTerm (d := d) (a := (rTerm T ln a).2.1 + 1) (F := F2) (es := es ++ (rTerm T ln a).2.2) hst b hln (by omega) (by omega) hp2) (fun o h' hq => ?_)
      obtain ⟨b3, F3, n3, rfl, rfl, hn3, hcs3⟩ := hq
      show kx_w _ _ _ _ _ _ _ _ _ _ _
      obtain ⟨f1, f2, f3⟩ := rTerm_gd T ln ((rTerm T ln a).2.1 + 1) hlt
      refine kx_rn dQ_readComparison 2 39 [(0, .ref q), (1, .int (kCur T ln ((rTerm T ln a).2.1))), (2, .int (b01 b3))] [.ref q] rfl ?_
      refine pQ_12 (v := .ref p) rfl (kx_tk_dec rfl dQ_readComparison) (qH_q b) rfl ?_
      refine kx_rn dQ_readComparison 1 43 [(0, .ref q), (1, .int (kCur T ln ((rTerm T ln a).2.1))), (2, .int (b01 b3))] [.int (kCur T ln ((rTerm T ln a).2.1)), .ref p] rfl ?_
      refine cQ_56 (as := [.int (kCur T ln ((rTerm T ln a).2.1))]) (st := []) (mc := 0) (ms := 0) (kc := 0) (ks := 0) rfl (kx_tk_dec rfl dQ_readComparison) (qH_p b) rfl rfl (Nat.le_of_ble_eq_true rfl) (cQ_add (x := kCur T ln ((rTerm T ln a).2.1)) hst b (by omega)) (fun o h' hq => ?_)
      obtain ⟨rfl, F5, n5, rfl, hn5, ha5⟩ := hq
      show kx_w _ _ _ _ _ _ _ _ _ _ _
      refine kx_rn dQ_readComparison 1 47 [(0, .ref q), (1, .int (kCur T ln ((rTerm T ln a).2.1))), (2, .int (b01 b3))] [.int (b01 b3)] rfl ?_
      refine kx_ret (ty := .boolean) (kx_tk_dec rfl dQ_readComparison) rfl (b01_nr _) ?_
      have hr : rComp T ln a = if (rTerm T ln ((rTerm T ln a).2.1 + 1)).1 = true then (true, (rTerm T ln ((rTerm T ln a).2.1 + 1)).2.1, (rTerm T ln a).2.2 ++ (rTerm T ln ((rTerm T ln a).2.1 + 1)).2.2 ++ [-100 - kCur T ln (rTerm T ln a).2.1]) else (false, (rTerm T ln ((rTerm T ln a).2.1 + 1)).2.1, []) := by unfold rComp; rw [if_pos hr1, if_pos e18]
      rcases hcs3 with ⟨hb3, hgood3⟩ | ⟨hb3, hr3, hdg3⟩
      · by_cases hb4 : b3 = true
        · obtain ⟨hn4, hp4⟩ := hgood3 hb4
          have hr3 : (rTerm T ln ((rTerm T ln a).2.1 + 1)).1 = true := by rw [← hb3]; exact hb4
          obtain ⟨f4, f5⟩ := f3 hr3
          rw [List.length_append] at hn4
          obtain ⟨rfl, rfl⟩ := ha5 (by omega)
          rw [hr, if_pos hr3]
          have hlast : es ++ (rTerm T ln a).2.2 ++ (rTerm T ln ((rTerm T ln a).2.1 + 1)).2.2 ++ [-100 - kCur T ln (rTerm T ln a).2.1] = es ++ ((rTerm T ln a).2.2 ++ (rTerm T ln ((rTerm T ln a).2.1 + 1)).2.2 ++ [-100 - kCur T ln (rTerm T ln a).2.1]) := by simp only [List.append_assoc]
          refine ⟨true, _, _, by rw [hb4], rfl, hn5, Or.inl ⟨rfl, fun _ => ⟨?_, ?_⟩⟩⟩
          · rw [← hlast]; simp only [List.length_append, List.length_cons, List.length_nil] at hn4 ⊢; omega
          · rw [← hlast]; exact prg_add hp4 (by rw [hn4]; simp only [List.length_append]) (cv_ch (Or.inr (Or.inl e18)))
        · have hr3 : (rTerm T ln ((rTerm T ln a).2.1 + 1)).1 = false := by rw [← hb3]; exact kB_f hb4
          rw [hr, if_neg (by rw [hr3]; decide)]
          exact ⟨false, _, _, by rw [kB_f hb4], rfl, hn5, Or.inl ⟨rfl, fun z => by cases z⟩⟩
      · rw [hr, if_neg (by rw [hr3]; decide)]
        exact ⟨true, _, _, by rw [hb3], rfl, hn5, Or.inr ⟨rfl, rfl, hdg3⟩⟩
    · skip
      replace e18 : b01 (isCmp (kCur T ln ((rTerm T ln a).2.1))) = 0 := e18
      replace e18 : isCmp (kCur T ln ((rTerm T ln a).2.1)) = false := b01_f e18
      refine kx_rn dQ_readComparison 1 22 [(0, .ref q), (1, .int (kCur T ln ((rTerm T ln a).2.1)))] [.int 0] rfl ?_
      refine kx_ret (ty := .boolean) (kx_tk_dec rfl dQ_readComparison) rfl rfl ?_
      have hr : rComp T ln a = (false, (rTerm T ln a).2.1, []) := by
        unfold rComp
        by_cases z : (rTerm T ln a).1 = true
        · rw [if_pos z, if_neg (by rw [e18]; decide)]
        · rw [if_neg z]
      rw [hr]
      exact ⟨false, F2, n2, rfl, rfl, hn2, Or.inl ⟨rfl, fun z => by cases z⟩⟩
  · skip
    replace e4 : b01 b2 = 0 := e4
    replace e4 : b2 = false := b01_f e4
    refine kx_rn dQ_readComparison 1 8 [(0, .ref q)] [.int 0] rfl ?_
    refine kx_ret (ty := .boolean) (kx_tk_dec rfl dQ_readComparison) rfl rfl ?_
    have hr1 : (rTerm T ln a).1 = false := by
      rcases hcs with ⟨hb2, hgood⟩ | ⟨hb2, hr1, hdg⟩
      · rw [← hb2]; exact e4
      · exact hr1
    have hr : rComp T ln a = (false, (rTerm T ln a).2.1, []) := by unfold rComp; rw [if_neg (by rw [hr1]; decide)]
    rw [hr]
    exact ⟨false, F2, n2, rfl, rfl, hn2, Or.inl ⟨rfl, fun z => by cases z⟩⟩
end KC22
