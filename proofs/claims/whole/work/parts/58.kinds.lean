/-! ===== the kinds of a program's values ===== -/
/-- a stack in an array, its top first -/
def stk (F : Nat → Int32) : List Int32 → Prop
  | [] => True
  | x :: s => F s.length = x ∧ stk F s
theorem stk_up {F : Nat → Int32} {k : Nat} {v : Int32} : ∀ {s : List Int32}, stk F s → s.length ≤ k → stk (va_up F k v) s
  | [], _, _ => trivial
  | x :: s, h, hk => ⟨by simp only [List.length_cons] at hk; rw [va_up_ne _ _ (by omega)]; exact h.1, stk_up h.2 (by simp only [List.length_cons] at hk; omega)⟩
theorem stk_push {F : Nat → Int32} {v : Int32} {s : List Int32} (h : stk F s) : stk (va_up F s.length v) (v :: s) := ⟨va_up_self _ _ _, stk_up h (Nat.le_refl _)⟩
theorem stk_eq {F F1 : Nat → Int32} : ∀ {s : List Int32}, stk F s → (∀ k, k < s.length → F1 k = F k) → stk F1 s
  | [], _, _ => trivial
  | x :: s, h, hk => ⟨by rw [hk _ (by simp)]; exact h.1, stk_eq h.2 (fun k hk2 => hk k (by simp only [List.length_cons]; omega))⟩
/-- an item's kind: true is a truth value -/
def tyS (i : Int32) (t : List Bool) : Option (List Bool) :=
  if i < -4 then
    (if i = -133 then (match t with | true :: t => some (true :: t) | _ => none)
    else (match t with
      | y :: x :: t => if isAri (-100 - i) = true ∧ x = false ∧ y = false then some (false :: t) else if isCmp (-100 - i) = true ∧ x = false ∧ y = false then some (true :: t) else if isJn (-100 - i) = true ∧ x = true ∧ y = true then some (true :: t) else none
      | _ => none))
  else if i.toInt < 10000 ∨ (i = -1 ∨ i = -2 ∨ i = -3 ∨ i = -4) then some (false :: t) else none
def tyL : List Int32 → List Bool → Option (List Bool)
  | [], t => some t
  | i :: es, t => (tyS i t).bind (tyL es)
theorem tyL_app : ∀ (es fs : List Int32) (t : List Bool), tyL (es ++ fs) t = (tyL es t).bind (tyL fs)
  | [], fs, t => rfl
  | i :: es, fs, t => by
    simp only [List.cons_append, tyL]
    cases h : tyS i t with
    | none => rfl
    | some u => exact tyL_app es fs u
theorem tyL_one (i : Int32) (t : List Bool) : tyL [i] t = tyS i t := by
  simp only [tyL]
  cases tyS i t <;> rfl
theorem dgV_b {tx : Nat → Int32} {ln a : Nat} : ∀ f d, d ≤ f → (∀ j, j < d → isDig (tx (a + j)) = true) → d ≤ 4 → dgV tx a d < pw10 d
  | _, 0, _, _, _ => Nat.zero_lt_one
  | 0, d + 1, h, _, _ => by omega
  | f + 1, d + 1, h, hd, h4 => by
    have h1 := dgV_b (tx := tx) (ln := ln) (a := a) f d (by omega) (fun j hj => hd j (by omega)) (by omega)
    obtain ⟨x, hx, hx1, hx2⟩ := isDig_nat (hd d (by omega))
    simp only [dgV]
    rw [hx, nI_clamp (by omega)]
    exact pw10_s (by omega) h1 (by omega)
theorem dgN_dig {tx : Nat → Int32} {ln : Nat} : ∀ f a j, j < dgN tx ln f a → a + j < ln ∧ isDig (tx (a + j)) = true
  | 0, a, j, h => by simp only [dgN] at h; omega
  | f + 1, a, j, h => by
    simp only [dgN] at h
    by_cases e : isDig (kCur tx ln a) = true
    · rw [if_pos e] at h
      have hlt : a < ln := Nat.lt_of_not_le fun z => by rw [kCur_out (by omega)] at e; exact absurd e (by decide)
      cases j with
      | zero => rw [kCur_in hlt] at e; exact ⟨hlt, e⟩
      | succ j =>
        have := dgN_dig (tx := tx) (ln := ln) f (a + 1) j (by omega)
        rw [show a + 1 + j = a + (j + 1) by omega] at this
        exact this
    · rw [if_neg e] at h; omega
theorem dgV_lt {tx : Nat → Int32} {ln a : Nat} (ha : a ≤ ln) : dgV tx a (dgN tx ln 4 a) < 10000 := by
  have h := dgN_le (tx := tx) (ln := ln) (f := 4) (a := a) ha
  exact pw10_b h.1 (dgV_b (ln := ln) 4 _ h.1 (fun j hj => (dgN_dig 4 a j hj).2) h.1)
theorem tyS_num {v : Nat} (h : v < 10000) (t : List Bool) : tyS (nI v) t = some (false :: t) := by
  unfold tyS
  rw [if_neg (nI_n4 h), if_pos]
  rw [nI_toInt (by omega)]; omega
theorem isCol_nat {c : Int32} (h : isCol c = true) : c = 97 ∨ c = 98 ∨ c = 99 ∨ c = 100 := by
  unfold isCol at h
  rw [decide_eq_true_eq, kI_le, kI_le] at h
  have y1 : (97 : Int32).toInt = 97 := rfl
  have y2 : (100 : Int32).toInt = 100 := rfl
  obtain ⟨x, hx, h1, h2⟩ := kI_nat (x := c) (by omega)
  have : x = 97 ∨ x = 98 ∨ x = 99 ∨ x = 100 := by omega
  rcases this with z | z | z | z
  · exact Or.inl (by rw [hx, z]; rfl)
  · exact Or.inr (Or.inl (by rw [hx, z]; rfl))
  · exact Or.inr (Or.inr (Or.inl (by rw [hx, z]; rfl)))
  · exact Or.inr (Or.inr (Or.inr (by rw [hx, z]; rfl)))
theorem rItem_ty {tx : Nat → Int32} {ln a : Nat} (ha : a ≤ ln) (h : (rItem tx ln a).1 = true) (t : List Bool) : tyL (rItem tx ln a).2.2 t = some (false :: t) := by
  unfold rItem at h ⊢
  by_cases e : isCol (kCur tx ln a) = true
  · rw [if_pos e, tyL_one]
    show tyS (96 - kCur tx ln a) t = _
    rcases isCol_nat e with z | z | z | z <;> (rw [z]; rfl)
  · rw [if_neg e] at h ⊢
    by_cases e2 : dgN tx ln 4 a = 0
    · rw [if_pos e2] at h; cases h
    · rw [if_neg e2, tyL_one]
      exact tyS_num (dgV_lt ha) t
theorem isAri_cs {c : Int32} (h : isAri c = true) : c = 43 ∨ c = 45 ∨ c = 42 ∨ c = 47 := of_decide_eq_true h
theorem isCmp_cs {c : Int32} (h : isCmp c = true) : c = 61 ∨ c = 35 ∨ c = 60 ∨ c = 62 := of_decide_eq_true h
theorem isJn_cs {c : Int32} (h : isJn c = true) : c = 38 ∨ c = 124 := of_decide_eq_true h
theorem tyS_ari {c : Int32} (h : isAri c = true) (t : List Bool) : tyS (-100 - c) (false :: false :: t) = some (false :: t) := by
  rcases isAri_cs h with z | z | z | z <;> (rw [z]; rfl)
theorem tyS_cmp {c : Int32} (h : isCmp c = true) (t : List Bool) : tyS (-100 - c) (false :: false :: t) = some (true :: t) := by
  rcases isCmp_cs h with z | z | z | z <;> (rw [z]; rfl)
theorem tyS_jn {c : Int32} (h : isJn c = true) (t : List Bool) : tyS (-100 - c) (true :: true :: t) = some (true :: t) := by
  rcases isJn_cs h with z | z <;> (rw [z]; rfl)
theorem lpO_ty {tst : Int32 → Bool} {pt : Nat → kRes} {tx : Nat → Int32} {ln : Nat} {b : Bool} (ht : tst (-1) = false) (hs : ∀ c, tst c = true → ∀ t, tyS (-100 - c) (b :: b :: t) = some (b :: t)) (hg : kGd ln pt) (hp : ∀ a, a ≤ ln → (pt a).1 = true → ∀ t, tyL (pt a).2.2 t = some (b :: t)) : ∀ f a es t, a ≤ ln → tyL es t = some (b :: t) → (lpO tst pt tx ln f a es).1 = true → tyL (lpO tst pt tx ln f a es).2.2 t = some (b :: t)
  | 0, a, es, t, ha, he, h => he
  | f + 1, a, es, t, ha, he, h => by
    simp only [lpO] at h ⊢
    by_cases e : tst (kCur tx ln a) = true
    · rw [if_pos e] at h ⊢
      have hlt : a < ln := Nat.lt_of_not_le fun z => by rw [kCur_out (by omega), ht] at e; cases e
      obtain ⟨h1, h2, h3⟩ := hg (a + 1) hlt
      by_cases e2 : (pt (a + 1)).1 = true
      · rw [if_pos e2] at h ⊢
        refine lpO_ty ht hs hg hp f _ _ t h2 ?_ h
        rw [tyL_app, tyL_app, he, Option.bind_some, hp (a + 1) hlt e2, Option.bind_some, tyL_one]
        exact hs _ e t
      · rw [if_neg e2] at h; cases h
    · rw [if_neg e]; exact he
theorem sqO_ty {tst : Int32 → Bool} {pt : Nat → kRes} {tx : Nat → Int32} {ln : Nat} {b : Bool} (ht : tst (-1) = false) (hs : ∀ c, tst c = true → ∀ t, tyS (-100 - c) (b :: b :: t) = some (b :: t)) (hg : kGd ln pt) (hp : ∀ a, a ≤ ln → (pt a).1 = true → ∀ t, tyL (pt a).2.2 t = some (b :: t)) {f a : Nat} (ha : a ≤ ln) (h : (sqO tst pt tx ln f a).1 = true) (t : List Bool) : tyL (sqO tst pt tx ln f a).2.2 t = some (b :: t) := by
  unfold sqO at h ⊢
  by_cases e : (pt a).1 = true
  · rw [if_pos e] at h ⊢
    exact lpO_ty ht hs hg hp f _ _ t (hg a ha).2.1 (hp a ha e t) h
  · rw [if_neg e] at h; cases h
theorem rTerm_ty {tx : Nat → Int32} {ln a : Nat} (ha : a ≤ ln) (h : (rTerm tx ln a).1 = true) (t : List Bool) : tyL (rTerm tx ln a).2.2 t = some (false :: t) := sqO_ty (by decide) (fun _ hc => tyS_ari hc) (rItem_gd tx ln) (fun a ha h t => rItem_ty ha h t) ha h t
theorem rComp_ty {tx : Nat → Int32} {ln a : Nat} (ha : a ≤ ln) (h : (rComp tx ln a).1 = true) (t : List Bool) : tyL (rComp tx ln a).2.2 t = some (true :: t) := by
  obtain ⟨h1, h2, h3⟩ := rTerm_gd tx ln a ha
  unfold rComp at h ⊢
  by_cases e : (rTerm tx ln a).1 = true
  · rw [if_pos e] at h ⊢
    by_cases e2 : isCmp (kCur tx ln (rTerm tx ln a).2.1) = true
    · rw [if_pos e2] at h ⊢
      have hlt : (rTerm tx ln a).2.1 < ln := Nat.lt_of_not_le fun z => by rw [kCur_out (by omega)] at e2; exact absurd e2 (by decide)
      by_cases e3 : (rTerm tx ln ((rTerm tx ln a).2.1 + 1)).1 = true
      · rw [if_pos e3] at h ⊢
        show tyL (_ ++ _ ++ [_]) t = _
        rw [tyL_app, tyL_app, rTerm_ty ha e, Option.bind_some, rTerm_ty hlt e3, Option.bind_some, tyL_one]
        exact tyS_cmp e2 t
      · rw [if_neg e3] at h; cases h
    · rw [if_neg e2] at h; cases h
  · rw [if_neg e] at h; cases h
theorem dPart_ty {tx : Nat → Int32} {ln : Nat} : ∀ o a, a ≤ ln → (dPart tx ln o a).1 = true → ∀ t, tyL (dPart tx ln o a).2.2 t = some (true :: t)
  | 0, a, ha, h, t => by
    simp only [dPart] at h ⊢
    by_cases e : kCur tx ln a = 40 ∨ kCur tx ln a = 33
    · rw [if_pos e] at h; cases h
    · rw [if_neg e] at h ⊢; exact rComp_ty ha h t
  | o + 1, a, ha, h, t => by
    simp only [dPart] at h ⊢
    by_cases e : kCur tx ln a = 40
    · rw [if_pos e] at h ⊢
      have hlt : a < ln := Nat.lt_of_not_le fun z => by rw [kCur_out (by omega)] at e; exact absurd e (by decide)
      by_cases e2 : (sqO isJn (dPart tx ln o) tx ln 40 (a + 1)).1 = true ∧ kCur tx ln (sqO isJn (dPart tx ln o) tx ln 40 (a + 1)).2.1 = 41
      · rw [if_pos e2]
        exact sqO_ty (by decide) (fun _ hc => tyS_jn hc) (dPart_gd tx ln o) (fun a ha h t => dPart_ty o a ha h t) hlt e2.1 t
      · rw [if_neg e2] at h; cases h
    · rw [if_neg e] at h ⊢
      by_cases e2 : kCur tx ln a = 33
      · rw [if_pos e2] at h ⊢
        have hlt : a < ln := Nat.lt_of_not_le fun z => by rw [kCur_out (by omega)] at e2; exact absurd e2 (by decide)
        by_cases e3 : (dPart tx ln o (a + 1)).1 = true
        · rw [if_pos e3]
          show tyL (_ ++ [_]) t = _
          rw [tyL_app, dPart_ty o (a + 1) hlt e3]
          rfl
        · rw [if_neg e3] at h; cases h
      · rw [if_neg e2] at h ⊢; exact rComp_ty ha h t
/-- programs that a text may leave -/
def okC (es : List Int32) : Prop := es.length ≤ 40 ∧ (es = [] ∨ tyL es [] = some [true])
def okS (es : List Int32) : Prop := es.length ≤ 40 ∧ tyL es [] = some [false]
theorem pCond_ok {tx : Nat → Int32} {ln : Nat} (hln : ln ≤ 40) (h : (pCond tx ln).1 = true) : okC (pCond tx ln).2.2 := by
  unfold pCond at h ⊢
  by_cases e : ln = 0
  · rw [if_pos e]; exact ⟨by simp, Or.inl rfl⟩
  · rw [if_neg e] at h ⊢
    by_cases e2 : (sqO isJn (dPart tx ln 5) tx ln 40 0).1 = true ∧ (sqO isJn (dPart tx ln 5) tx ln 40 0).2.1 = ln
    · rw [if_pos e2]
      obtain ⟨g1, g2, g3⟩ := sqO_gd (tx := tx) (show isJn (-1) = false by decide) (dPart_gd tx ln 5) 40 0 (by omega)
      have := g3 e2.1
      exact ⟨by show (sqO isJn (dPart tx ln 5) tx ln 40 0).2.2.length ≤ 40; omega, Or.inr (sqO_ty (by decide) (fun _ hc => tyS_jn hc) (dPart_gd tx ln 5) (fun a ha h t => dPart_ty 5 a ha h t) (by omega) e2.1 [])⟩
    · rw [if_neg e2] at h; cases h
theorem pSet_ok {tx : Nat → Int32} {ln : Nat} (hln : ln ≤ 40) (h : (pSet tx ln).1 = true) : okS (pSet tx ln).2.2 := by
  unfold pSet at h ⊢
  by_cases e : isCol (kCur tx ln 0) = true
  · rw [if_pos e] at h ⊢
    by_cases e2 : kCur tx ln 1 = 61
    · rw [if_pos e2] at h ⊢
      have hlt : 1 < ln := Nat.lt_of_not_le fun z => by rw [kCur_out (by omega)] at e2; exact absurd e2 (by decide)
      by_cases e3 : (rTerm tx ln 2).1 = true ∧ (rTerm tx ln 2).2.1 = ln
      · rw [if_pos e3]
        obtain ⟨g1, g2, g3⟩ := rTerm_gd tx ln 2 (by omega)
        have := g3 e3.1
        exact ⟨by show (rTerm tx ln 2).2.2.length ≤ 40; omega, rTerm_ty (by omega) e3.1 []⟩
      · rw [if_neg e3] at h; cases h
    · rw [if_neg e2] at h; cases h
  · rw [if_neg e] at h; cases h
