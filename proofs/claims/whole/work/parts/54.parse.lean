/-! ===== the text of a condition or a setting, read ===== -/
def kCur (tx : Nat → Int32) (ln a : Nat) : Int32 := if a < ln then tx a else -1
def isCol (c : Int32) : Bool := decide (97 ≤ c ∧ c ≤ 100)
def isDig (c : Int32) : Bool := decide (48 ≤ c ∧ c ≤ 57)
def isAri (c : Int32) : Bool := decide (c = 43 ∨ c = 45 ∨ c = 42 ∨ c = 47)
def isCmp (c : Int32) : Bool := decide (c = 61 ∨ c = 35 ∨ c = 60 ∨ c = 62)
def isJn (c : Int32) : Bool := decide (c = 38 ∨ c = 124)
theorem kCur_in {tx : Nat → Int32} {ln a : Nat} (h : a < ln) : kCur tx ln a = tx a := if_pos h
theorem kCur_out {tx : Nat → Int32} {ln a : Nat} (h : ¬ a < ln) : kCur tx ln a = -1 := if_neg h
/-- how many digits, at the most f -/
def dgN (tx : Nat → Int32) (ln : Nat) : Nat → Nat → Nat
  | 0, _ => 0
  | f + 1, a => if isDig (kCur tx ln a) = true then dgN tx ln f (a + 1) + 1 else 0
/-- the number that they say -/
def dgV (tx : Nat → Int32) (a : Nat) : Nat → Nat
  | 0 => 0
  | d + 1 => 10 * dgV tx a d + ((tx (a + d)).toNatClampNeg - 48)
abbrev kRes : Type := Bool × Nat × List Int32
def rItem (tx : Nat → Int32) (ln a : Nat) : kRes := if isCol (kCur tx ln a) = true then (true, a + 1, [96 - kCur tx ln a]) else if dgN tx ln 4 a = 0 then (false, a, []) else (!isDig (kCur tx ln (a + dgN tx ln 4 a)), a + dgN tx ln 4 a, [nI (dgV tx a (dgN tx ln 4 a))])
/-- signs and parts, from the left -/
def lpO (tst : Int32 → Bool) (pt : Nat → kRes) (tx : Nat → Int32) (ln : Nat) : Nat → Nat → List Int32 → kRes
  | 0, a, es => (true, a, es)
  | f + 1, a, es => if tst (kCur tx ln a) = true then (if (pt (a + 1)).1 = true then lpO tst pt tx ln f (pt (a + 1)).2.1 (es ++ (pt (a + 1)).2.2 ++ [-100 - kCur tx ln a]) else (false, (pt (a + 1)).2.1, [])) else (true, a, es)
def sqO (tst : Int32 → Bool) (pt : Nat → kRes) (tx : Nat → Int32) (ln f a : Nat) : kRes := if (pt a).1 = true then lpO tst pt tx ln f (pt a).2.1 (pt a).2.2 else (false, (pt a).2.1, [])
def rTerm (tx : Nat → Int32) (ln a : Nat) : kRes := sqO isAri (rItem tx ln) tx ln 40 a
def rComp (tx : Nat → Int32) (ln a : Nat) : kRes := if (rTerm tx ln a).1 = true then (if isCmp (kCur tx ln (rTerm tx ln a).2.1) = true then (if (rTerm tx ln ((rTerm tx ln a).2.1 + 1)).1 = true then (true, (rTerm tx ln ((rTerm tx ln a).2.1 + 1)).2.1, (rTerm tx ln a).2.2 ++ (rTerm tx ln ((rTerm tx ln a).2.1 + 1)).2.2 ++ [-100 - kCur tx ln (rTerm tx ln a).2.1]) else (false, (rTerm tx ln ((rTerm tx ln a).2.1 + 1)).2.1, [])) else (false, (rTerm tx ln a).2.1, [])) else (false, (rTerm tx ln a).2.1, [])
/-- a part of a condition, with o brackets and ! left -/
def dPart (tx : Nat → Int32) (ln : Nat) : Nat → Nat → kRes
  | 0, a => if kCur tx ln a = 40 ∨ kCur tx ln a = 33 then (false, a, []) else rComp tx ln a
  | o + 1, a => if kCur tx ln a = 40 then (if (sqO isJn (dPart tx ln o) tx ln 40 (a + 1)).1 = true ∧ kCur tx ln (sqO isJn (dPart tx ln o) tx ln 40 (a + 1)).2.1 = 41 then (true, (sqO isJn (dPart tx ln o) tx ln 40 (a + 1)).2.1 + 1, (sqO isJn (dPart tx ln o) tx ln 40 (a + 1)).2.2) else (false, (sqO isJn (dPart tx ln o) tx ln 40 (a + 1)).2.1, [])) else if kCur tx ln a = 33 then (if (dPart tx ln o (a + 1)).1 = true then (true, (dPart tx ln o (a + 1)).2.1, (dPart tx ln o (a + 1)).2.2 ++ [-133]) else (false, (dPart tx ln o (a + 1)).2.1, [])) else rComp tx ln a
/-- a condition -/
def pCond (tx : Nat → Int32) (ln : Nat) : kRes := if ln = 0 then (true, 0, []) else if (sqO isJn (dPart tx ln 5) tx ln 40 0).1 = true ∧ (sqO isJn (dPart tx ln 5) tx ln 40 0).2.1 = ln then (true, ln, (sqO isJn (dPart tx ln 5) tx ln 40 0).2.2) else (false, (sqO isJn (dPart tx ln 5) tx ln 40 0).2.1, [])
/-- a setting -/
def pSet (tx : Nat → Int32) (ln : Nat) : kRes := if isCol (kCur tx ln 0) = true then (if kCur tx ln 1 = 61 then (if (rTerm tx ln 2).1 = true ∧ (rTerm tx ln 2).2.1 = ln then (true, ln, (rTerm tx ln 2).2.2) else (false, (rTerm tx ln 2).2.1, [])) else (false, 1, [])) else (false, 0, [])
/-- what a reading does: it goes on, and says no more than it has read -/
def kGd (ln : Nat) (pt : Nat → kRes) : Prop := ∀ a, a ≤ ln → a ≤ (pt a).2.1 ∧ (pt a).2.1 ≤ ln ∧ ((pt a).1 = true → a < (pt a).2.1 ∧ (pt a).2.2.length + a ≤ (pt a).2.1)
theorem dgN_le {tx : Nat → Int32} {ln : Nat} : ∀ {f a : Nat}, a ≤ ln → dgN tx ln f a ≤ f ∧ a + dgN tx ln f a ≤ ln
  | 0, a, h => ⟨Nat.le_refl _, h⟩
  | f + 1, a, h => by
    simp only [dgN]
    by_cases e : isDig (kCur tx ln a) = true
    · rw [if_pos e]
      have hlt : a < ln := Nat.lt_of_not_le fun z => by rw [kCur_out (by omega)] at e; exact absurd e (by decide)
      have := dgN_le (tx := tx) (ln := ln) (f := f) (a := a + 1) hlt
      omega
    · rw [if_neg e]; omega
theorem rItem_gd (tx : Nat → Int32) (ln : Nat) : kGd ln (rItem tx ln) := by
  intro a ha
  unfold rItem
  by_cases e : isCol (kCur tx ln a) = true
  · rw [if_pos e]
    have hlt : a < ln := Nat.lt_of_not_le fun z => by rw [kCur_out (by omega)] at e; exact absurd e (by decide)
    exact ⟨by simp, hlt, fun _ => ⟨by simp, by simp; omega⟩⟩
  · rw [if_neg e]
    have h := dgN_le (tx := tx) (ln := ln) (f := 4) (a := a) ha
    by_cases e2 : dgN tx ln 4 a = 0
    · rw [if_pos e2]; exact ⟨Nat.le_refl _, ha, fun z => by cases z⟩
    · rw [if_neg e2]; exact ⟨by simp, h.2, fun _ => ⟨by simp; omega, by simp; omega⟩⟩
theorem lpO_gd {tst : Int32 → Bool} {pt : Nat → kRes} {tx : Nat → Int32} {ln : Nat} (ht : tst (-1) = false) (hp : kGd ln pt) : ∀ f a es, a ≤ ln → a ≤ (lpO tst pt tx ln f a es).2.1 ∧ (lpO tst pt tx ln f a es).2.1 ≤ ln ∧ ((lpO tst pt tx ln f a es).1 = true → (lpO tst pt tx ln f a es).2.2.length + a ≤ (lpO tst pt tx ln f a es).2.1 + es.length)
  | 0, a, es, ha => ⟨Nat.le_refl _, ha, fun _ => by simp only [lpO]; omega⟩
  | f + 1, a, es, ha => by
    simp only [lpO]
    by_cases e : tst (kCur tx ln a) = true
    · rw [if_pos e]
      have hlt : a < ln := Nat.lt_of_not_le fun z => by rw [kCur_out (by omega), ht] at e; cases e
      obtain ⟨h1, h2, h3⟩ := hp (a + 1) hlt
      by_cases e2 : (pt (a + 1)).1 = true
      · rw [if_pos e2]
        obtain ⟨h4, h5⟩ := h3 e2
        obtain ⟨g1, g2, g3⟩ := lpO_gd (tx := tx) ht hp f (pt (a + 1)).2.1 (es ++ (pt (a + 1)).2.2 ++ [-100 - kCur tx ln a]) h2
        refine ⟨by omega, g2, fun z => ?_⟩
        have g4 := g3 z
        simp only [List.length_append, List.length_cons, List.length_nil] at g4
        omega
      · rw [if_neg e2]
        exact ⟨by show a ≤ (pt (a + 1)).2.1; omega, h2, fun z => by cases z⟩
    · rw [if_neg e]
      exact ⟨Nat.le_refl _, ha, fun _ => by show es.length + a ≤ a + es.length; omega⟩
theorem sqO_gd {tst : Int32 → Bool} {pt : Nat → kRes} {tx : Nat → Int32} {ln : Nat} (ht : tst (-1) = false) (hp : kGd ln pt) (f : Nat) : kGd ln (sqO tst pt tx ln f) := by
  intro a ha
  obtain ⟨h1, h2, h3⟩ := hp a ha
  unfold sqO
  by_cases e : (pt a).1 = true
  · rw [if_pos e]
    obtain ⟨h4, h5⟩ := h3 e
    obtain ⟨g1, g2, g3⟩ := lpO_gd (tx := tx) ht hp f (pt a).2.1 (pt a).2.2 h2
    exact ⟨by omega, g2, fun z => ⟨by omega, by have := g3 z; omega⟩⟩
  · rw [if_neg e]
    exact ⟨h1, h2, fun z => by cases z⟩
theorem rTerm_gd (tx : Nat → Int32) (ln : Nat) : kGd ln (rTerm tx ln) := sqO_gd (by decide) (rItem_gd tx ln) 40
theorem rComp_gd (tx : Nat → Int32) (ln : Nat) : kGd ln (rComp tx ln) := by
  intro a ha
  obtain ⟨h1, h2, h3⟩ := rTerm_gd tx ln a ha
  unfold rComp
  by_cases e : (rTerm tx ln a).1 = true
  · rw [if_pos e]
    obtain ⟨h4, h5⟩ := h3 e
    by_cases e2 : isCmp (kCur tx ln (rTerm tx ln a).2.1) = true
    · rw [if_pos e2]
      have hlt : (rTerm tx ln a).2.1 < ln := Nat.lt_of_not_le fun z => by rw [kCur_out (by omega)] at e2; exact absurd e2 (by decide)
      obtain ⟨g1, g2, g3⟩ := rTerm_gd tx ln ((rTerm tx ln a).2.1 + 1) hlt
      by_cases e3 : (rTerm tx ln ((rTerm tx ln a).2.1 + 1)).1 = true
      · rw [if_pos e3]
        obtain ⟨g4, g5⟩ := g3 e3
        refine ⟨by show a ≤ (rTerm tx ln ((rTerm tx ln a).2.1 + 1)).2.1; omega, g2, fun _ => ⟨by show a < (rTerm tx ln ((rTerm tx ln a).2.1 + 1)).2.1; omega, ?_⟩⟩
        simp only [List.length_append, List.length_cons, List.length_nil]
        omega
      · rw [if_neg e3]
        exact ⟨by show a ≤ (rTerm tx ln ((rTerm tx ln a).2.1 + 1)).2.1; omega, g2, fun z => by cases z⟩
    · rw [if_neg e2]; exact ⟨h1, h2, fun z => by cases z⟩
  · rw [if_neg e]; exact ⟨h1, h2, fun z => by cases z⟩
theorem dPart_gd (tx : Nat → Int32) (ln : Nat) : ∀ o, kGd ln (dPart tx ln o)
  | 0 => by
    intro a ha
    simp only [dPart]
    by_cases e : kCur tx ln a = 40 ∨ kCur tx ln a = 33
    · rw [if_pos e]; exact ⟨Nat.le_refl _, ha, fun z => by cases z⟩
    · rw [if_neg e]; exact rComp_gd tx ln a ha
  | o + 1 => by
    intro a ha
    simp only [dPart]
    by_cases e : kCur tx ln a = 40
    · rw [if_pos e]
      have hlt : a < ln := Nat.lt_of_not_le fun z => by rw [kCur_out (by omega)] at e; exact absurd e (by decide)
      obtain ⟨h1, h2, h3⟩ := sqO_gd (tx := tx) (show isJn (-1) = false by decide) (dPart_gd tx ln o) 40 (a + 1) hlt
      by_cases e2 : (sqO isJn (dPart tx ln o) tx ln 40 (a + 1)).1 = true ∧ kCur tx ln (sqO isJn (dPart tx ln o) tx ln 40 (a + 1)).2.1 = 41
      · rw [if_pos e2]
        obtain ⟨h4, h5⟩ := h3 e2.1
        have hl2 : (sqO isJn (dPart tx ln o) tx ln 40 (a + 1)).2.1 < ln := Nat.lt_of_not_le fun z => by have := e2.2; rw [kCur_out (by omega)] at this; exact absurd this (by decide)
        exact ⟨by simp only; omega, by simp only; omega, fun _ => ⟨by simp only; omega, by simp only; omega⟩⟩
      · rw [if_neg e2]; exact ⟨by simp only; omega, h2, fun z => by cases z⟩
    · rw [if_neg e]
      by_cases e2 : kCur tx ln a = 33
      · rw [if_pos e2]
        have hlt : a < ln := Nat.lt_of_not_le fun z => by rw [kCur_out (by omega)] at e2; exact absurd e2 (by decide)
        obtain ⟨h1, h2, h3⟩ := dPart_gd tx ln o (a + 1) hlt
        by_cases e3 : (dPart tx ln o (a + 1)).1 = true
        · rw [if_pos e3]
          obtain ⟨h4, h5⟩ := h3 e3
          exact ⟨by simp only; omega, h2, fun _ => ⟨by simp only; omega, by simp only [List.length_append, List.length_cons, List.length_nil]; omega⟩⟩
        · rw [if_neg e3]; exact ⟨by simp only; omega, h2, fun z => by cases z⟩
      · rw [if_neg e2]; exact rComp_gd tx ln a ha
/-- a list lies in an array -/
def atL (F : Nat → Int32) (b : Nat) (es : List Int32) : Prop := ∀ i x, es[i]? = some x → F (b + i) = x
theorem atL_nil (F : Nat → Int32) (b : Nat) : atL F b [] := fun i x h => by simp at h
theorem atL_one {F : Nat → Int32} {b : Nat} {x : Int32} (h : F b = x) : atL F b [x] := fun i y hy => by
  cases i with
  | zero => simp at hy; rw [← hy]; exact h
  | succ i => simp at hy
theorem atL_app {F : Nat → Int32} {b : Nat} {es fs : List Int32} (h1 : atL F b es) (h2 : atL F (b + es.length) fs) : atL F b (es ++ fs) := fun i x hx => by
  by_cases h : i < es.length
  · rw [List.getElem?_append_left h] at hx; exact h1 i x hx
  · rw [List.getElem?_append_right (by omega)] at hx
    have := h2 _ x hx
    rw [show b + es.length + (i - es.length) = b + i by omega] at this
    exact this
theorem atL_keep {F F1 : Nat → Int32} {b : Nat} {es : List Int32} (h : atL F b es) (hk : ∀ i, i < b + es.length → F1 i = F i) : atL F1 b es := fun i x hx => by
  have hi : i < es.length := (List.getElem?_eq_some_iff.mp hx).1
  rw [hk _ (by omega)]; exact h i x hx
def pw10 (n : Nat) : Nat := [1, 10, 100, 1000, 10000].getD n 10000
theorem pw10_s {n v x : Nat} (hn : n < 4) (hv : v < pw10 n) (hx : x ≤ 9) : 10 * v + x < pw10 (n + 1) := by
  rcases n with _ | _ | _ | _ | n
  · simp [pw10] at hv ⊢; omega
  · simp [pw10] at hv ⊢; omega
  · simp [pw10] at hv ⊢; omega
  · simp [pw10] at hv ⊢; omega
  · omega
theorem pw10_b {n v : Nat} (hn : n ≤ 4) (hv : v < pw10 n) : v < 10000 := by
  rcases n with _ | _ | _ | _ | _ | n
  · simp [pw10] at hv; omega
  · simp [pw10] at hv; omega
  · simp [pw10] at hv; omega
  · simp [pw10] at hv; omega
  · simp [pw10] at hv; omega
  · omega
theorem isDig_nat {c : Int32} (h : isDig c = true) : ∃ x, c = nI x ∧ 48 ≤ x ∧ x ≤ 57 := by
  unfold isDig at h
  rw [decide_eq_true_eq, kI_le, kI_le] at h
  have y1 : (48 : Int32).toInt = 48 := rfl
  have y2 : (57 : Int32).toInt = 57 := rfl
  obtain ⟨x, hx, h1, h2⟩ := kI_nat (x := c) (by omega)
  exact ⟨x, hx, by omega, by omega⟩
