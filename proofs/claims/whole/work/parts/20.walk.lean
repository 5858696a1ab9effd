/-! ===== THE WALK'S OWN HEAP: what the law and all that it calls have made, cell by cell, and one judgement for a method's walk over it ===== -/
abbrev kx_C : Type := (Nat × vp_A) ⊕ (Nat × List Value)
abbrev kx_H : Type := Nat × (Nat → kx_C)
def kx_cv (G : kx_G) (c : kx_C) : va_E := match c with
  | .inl q => .inl (G.2.2.1 q.1, q.2)
  | .inr o => .inr o
def kx_hp (G : kx_G) (h : kx_H) (H : Heap) : Prop := H.size = h.1 ∧ G.1 ≤ h.1 ∧ ∀ a : Nat, G.1 ≤ a → a < h.1 → va_at G.2.1 kx_cl (a, kx_cv G (h.2 a)) H
def kx_set (h : kx_H) (a : Nat) (c : kx_C) : kx_H := (h.1, va_up h.2 a c)
def kx_new (h : kx_H) (c : kx_C) : kx_H := (h.1 + 1, va_up h.2 h.1 c)
/-- a cell that is there -/
def kx_is (G : kx_G) (h : kx_H) (a : Nat) (c : kx_C) : Prop := G.1 ≤ a ∧ a < h.1 ∧ h.2 a = c
theorem kx_is.ne {G : kx_G} {h : kx_H} {a b : Nat} {c c' : kx_C} (k : kx_is G h b c') (n : b ≠ a) : kx_is G (kx_set h a c) b c' :=
  ⟨k.1, k.2.1, by simp only [kx_set, va_up, if_neg n]; exact k.2.2⟩
theorem kx_is.eq {G : kx_G} {h : kx_H} {a : Nat} {c c' : kx_C} (k : kx_is G h a c') : kx_is G (kx_set h a c) a c :=
  ⟨k.1, k.2.1, by simp [kx_set, va_up]⟩
theorem kx_is.old {G : kx_G} {h : kx_H} {b : Nat} {c c' : kx_C} (k : kx_is G h b c') : kx_is G (kx_new h c) b c' :=
  ⟨k.1, Nat.lt_succ_of_lt k.2.1, by simp only [kx_new, va_up, if_neg (Nat.ne_of_lt k.2.1)]; exact k.2.2⟩
theorem kx_is.fresh {G : kx_G} {h : kx_H} {c : kx_C} (k : G.1 ≤ h.1) : kx_is G (kx_new h c) h.1 c :=
  ⟨k, Nat.lt_succ_self _, by simp [kx_new, va_up]⟩
theorem kx_is.apart {G : kx_G} {h : kx_H} {a b : Nat} {c c' : kx_C} (k : kx_is G h a c) (k' : kx_is G h b c') (n : c ≠ c') : a ≠ b := fun e => n (by rw [← k.2.2, ← k'.2.2, e])
theorem kx_hp.at {G : kx_G} {h : kx_H} {H : Heap} {a : Nat} {c : kx_C} (hh : kx_hp G h H) (k : kx_is G h a c) : va_at G.2.1 kx_cl (a, kx_cv G c) H := by
  have := hh.2.2 a k.1 k.2.1
  rw [k.2.2] at this
  exact this
theorem kx_hp.P {G : kx_G} {h : kx_H} {H : Heap} {a : Nat} {c : kx_C} (hh : kx_hp G h H) (k : kx_is G h a c) : va_P G.2.1 kx_cl [(a, kx_cv G c)] H := by
  intro i q hq
  have hi : i < 1 := (List.getElem?_eq_some_iff.mp hq).1
  have h0 : i = 0 := by omega
  subst h0
  cases hq
  exact hh.at k
theorem kx_hp.set {G : kx_G} {h : kx_H} {H H1 : Heap} {a : Nat} {c : kx_C} (hh : kx_hp G h H) (he : va_at G.2.1 kx_cl (a, kx_cv G c) H1) (z : H1.size = H.size) (oq : ∀ q : Nat, q ≠ a → H1[q]? = H[q]?) : kx_hp G (kx_set h a c) H1 := by
  refine ⟨z.trans hh.1, hh.2.1, fun b hb hl => ?_⟩
  by_cases e : b = a
  · subst e
    simp only [kx_set, va_up, if_true]
    exact he
  · simp only [kx_set, va_up, if_neg e]
    exact (hh.2.2 b hb hl).kept (oq b e)
theorem kx_hp.push {G : kx_G} {h : kx_H} {H H1 : Heap} {c : kx_C} (hh : kx_hp G h H) (he : va_at G.2.1 kx_cl (h.1, kx_cv G c) H1) (z : H1.size = H.size + 1) (oq : ∀ q : Nat, q < H.size → H1[q]? = H[q]?) : kx_hp G (kx_new h c) H1 := by
  have h1 := hh.1
  refine ⟨by simp only [kx_new]; omega, Nat.le_succ_of_le hh.2.1, fun b hb hl => ?_⟩
  simp only [kx_new] at hl
  by_cases e : b = h.1
  · subst e
    simp only [kx_new, va_up, if_true]
    exact he
  · simp only [kx_new, va_up, if_neg e]
    exact (hh.2.2 b hb (by omega)).kept (oq b (by omega))
theorem kx_S.set {G : kx_G} {H0 H H1 : Heap} {locs : List Loc} {a i : Nat} (h : va_S (fun q => G.1 ≤ q) H0 H locs) (z : H1.size = H.size) (oq : ∀ q : Nat, q ≠ a → H1[q]? = H[q]?) (ha : G.1 ≤ a) : va_S (fun q => G.1 ≤ q) H0 H1 (locs ++ [⟨a, i⟩]) := h.put z oq ha
theorem kx_S.push {G : kx_G} {H0 H H1 : Heap} {locs : List Loc} (h : va_S (fun q => G.1 ≤ q) H0 H locs) (z : H1.size = H.size + 1) (oq : ∀ q : Nat, q < H.size → H1[q]? = H[q]?) : va_S (fun q => G.1 ≤ q) H0 H1 locs :=
  ⟨Nat.le_trans h.1 (by omega), fun x h1 h2 => (oq x (Nat.lt_of_lt_of_le h1 h.1)).trans (h.2.1 x h1 h2), h.2.2⟩
