/-! ===== the reference's cells: the object at m, its arrays at m+1 .. m+18; scalars S by the field's number, arrays A by their place ===== -/
def mLn (k : Nat) : Nat := [0, 3, 3, 3, 2880, 11520, 41, 40, 264, 6, 4, 8, 44, 44, 24, 96, 24, 96, 24].getD k 0
def mTy (k : Nat) : Nat := if k = 10 then 7 else if k = 18 then 7 else 0
def mF (m : Nat) (S : Nat → Int32) : List Value := [.int (S 0), .ref (m + 1), .ref (m + 2), .ref (m + 3), .ref (m + 4), .ref (m + 5), .ref (m + 6), .int (S 7), .int (S 8), .ref (m + 7), .int (S 10), .int (S 11), .ref (m + 8), .ref (m + 9), .ref (m + 10), .ref (m + 11), .ref (m + 12), .int (S 17), .int (S 18), .int (S 19), .int (S 20), .ref (m + 13), .int (S 22), .ref (m + 14), .ref (m + 15), .int (S 25), .ref (m + 16), .ref (m + 17), .ref (m + 18)]
def mC (m : Nat) (S : Nat → Int32) (A : Nat → Nat → Int32) (k : Nat) : kx_C := if k = 0 then .inr (8, mF m S) else .inl (mTy k, mLn k, .inl (A k))
def mH (h0 : kx_H) (m : Nat) (S : Nat → Int32) (A : Nat → Nat → Int32) : kx_H := (h0.1, fun a => if m ≤ a ∧ a ≤ m + 18 then mC m S A (a - m) else h0.2 a)
def mOk (G : kx_G) (h0 : kx_H) (m : Nat) : Prop := G.1 ≤ m ∧ m + 18 < h0.1
section KMH
variable {G : kx_G} {l : Launch} {M : kx_M} {d : Nat} {Q : Outcome → kx_H → Prop} {kc ks pc : Nat} {lv : kx_L} {st : List Value} {h0 : kx_H} {m : Nat} {S : Nat → Int32} {A : Nat → Nat → Int32}
theorem mh_o (hm : mOk G h0 m) : kx_is G (mH h0 m S A) m (.inr (8, mF m S)) := by
  refine ⟨hm.1, by have := hm.2; show m < h0.1; omega, ?_⟩
  simp [mH, mC]
theorem mh_a (hm : mOk G h0 m) {k : Nat} (h1 : 1 ≤ k) (h2 : k ≤ 18) : kx_is G (mH h0 m S A) (m + k) (.inl (mTy k, mLn k, .inl (A k))) := by
  refine ⟨by have := hm.1; omega, by have := hm.2; show m + k < h0.1; omega, ?_⟩
  have e1 : m ≤ m + k ∧ m + k ≤ m + 18 := by omega
  have e2 : m + k - m = k := by omega
  have e3 : ¬ k = 0 := by omega
  simp only [mH, if_pos e1, e2, mC, if_neg e3]
theorem mh_seta {k : Nat} (h1 : 1 ≤ k) (h2 : k ≤ 18) (g : Nat → Int32) : kx_set (mH h0 m S A) (m + k) (.inl (mTy k, mLn k, .inl g)) = mH h0 m S (va_up A k g) := by
  simp only [kx_set, mH, Prod.mk.injEq, true_and]
  funext a
  by_cases e : a = m + k
  · subst e
    have e1 : m ≤ m + k ∧ m + k ≤ m + 18 := by omega
    have e2 : m + k - m = k := by omega
    have e3 : ¬ k = 0 := by omega
    rw [va_up_self, if_pos e1, e2]
    simp only [mC, if_neg e3, va_up_self]
  · rw [va_up_ne _ _ e]
    by_cases e1 : m ≤ a ∧ a ≤ m + 18
    · rw [if_pos e1, if_pos e1]
      simp only [mC]
      by_cases e3 : a - m = 0
      · rw [if_pos e3, if_pos e3]
      · rw [if_neg e3, if_neg e3, va_up_ne _ _ (by omega : a - m ≠ k)]
    · rw [if_neg e1, if_neg e1]
theorem mh_seto (S' : Nat → Int32) : kx_set (mH h0 m S A) m (.inr (8, mF m S')) = mH h0 m S' A := by
  simp only [kx_set, mH, Prod.mk.injEq, true_and]
  funext a
  by_cases e : a = m
  · subst e
    rw [va_up_self, if_pos (by omega), Nat.sub_self]
    simp [mC]
  · rw [va_up_ne _ _ e]
    by_cases e1 : m ≤ a ∧ a ≤ m + 18
    · rw [if_pos e1, if_pos e1]
      simp only [mC, if_neg (by omega : ¬ a - m = 0)]
    · rw [if_neg e1, if_neg e1]
theorem mh_p0 {v : Int32} : kx_set (mH h0 m S A) m (.inr (8, (mF m S).set 0 (.int v))) = mH h0 m (va_up S 0 v) A := mh_seto (va_up S 0 v)
theorem mh_p7 {v : Int32} : kx_set (mH h0 m S A) m (.inr (8, (mF m S).set 7 (.int v))) = mH h0 m (va_up S 7 v) A := mh_seto (va_up S 7 v)
theorem mh_p8 {v : Int32} : kx_set (mH h0 m S A) m (.inr (8, (mF m S).set 8 (.int v))) = mH h0 m (va_up S 8 v) A := mh_seto (va_up S 8 v)
theorem mh_p10 {v : Int32} : kx_set (mH h0 m S A) m (.inr (8, (mF m S).set 10 (.int v))) = mH h0 m (va_up S 10 v) A := mh_seto (va_up S 10 v)
theorem mh_p11 {v : Int32} : kx_set (mH h0 m S A) m (.inr (8, (mF m S).set 11 (.int v))) = mH h0 m (va_up S 11 v) A := mh_seto (va_up S 11 v)
theorem mh_p17 {v : Int32} : kx_set (mH h0 m S A) m (.inr (8, (mF m S).set 17 (.int v))) = mH h0 m (va_up S 17 v) A := mh_seto (va_up S 17 v)
theorem mh_p18 {v : Int32} : kx_set (mH h0 m S A) m (.inr (8, (mF m S).set 18 (.int v))) = mH h0 m (va_up S 18 v) A := mh_seto (va_up S 18 v)
theorem mh_p19 {v : Int32} : kx_set (mH h0 m S A) m (.inr (8, (mF m S).set 19 (.int v))) = mH h0 m (va_up S 19 v) A := mh_seto (va_up S 19 v)
theorem mh_p20 {v : Int32} : kx_set (mH h0 m S A) m (.inr (8, (mF m S).set 20 (.int v))) = mH h0 m (va_up S 20 v) A := mh_seto (va_up S 20 v)
theorem mh_p22 {v : Int32} : kx_set (mH h0 m S A) m (.inr (8, (mF m S).set 22 (.int v))) = mH h0 m (va_up S 22 v) A := mh_seto (va_up S 22 v)
theorem mh_p25 {v : Int32} : kx_set (mH h0 m S A) m (.inr (8, (mF m S).set 25 (.int v))) = mH h0 m (va_up S 25 v) A := mh_seto (va_up S 25 v)
def mIs (k t : Nat) : Bool := decide (1 ≤ k) && decide (k ≤ 18) && (mTy k == t) && decide (mLn k < 20000)
theorem mIs_of {k t : Nat} (h : mIs k t = true) : 1 ≤ k ∧ k ≤ 18 ∧ mTy k = t ∧ mLn k < 20000 := by
  simp only [mIs, Bool.and_eq_true, decide_eq_true_eq, beq_iff_eq] at h
  exact ⟨h.1.1.1, h.1.1.2, h.1.2, h.2⟩
theorem kx_heq {h h' : kx_H} (e : h = h') (kk : kx_w G l M d Q kc ks pc lv st h') : kx_w G l M d Q kc ks pc lv st h := by rw [e]; exact kk
theorem mh_ld {k i : Nat} {x : Int32} (hk : mIs k 0 = true) (hx : A k i = x) (hd : decode M.2.1 pc = .ok (.iaload, 1)) (hm : mOk G h0 m) (hi : i < mLn k) (kk : kx_w G l M d Q kc ks (pc + 1) lv (.int x :: st) (mH h0 m S A)) : kx_w G l M d Q kc ks pc lv (.int (nI i) :: .ref (m + k) :: st) (mH h0 m S A) := by
  obtain ⟨k1, k2, k3, k4⟩ := mIs_of hk
  have hc := mh_a (S := S) (A := A) hm k1 k2
  rw [k3] at hc
  refine kx_ild rfl hd hc (vp_in_nI hi (by omega)) ?_
  rw [nI_clamp (by omega), hx]
  exact kk
theorem mh_st {k i : Nat} {x : Int32} {A' : Nat → Nat → Int32} (hk : mIs k 0 = true) (hd : decode M.2.1 pc = .ok (.iastore, 1)) (hm : mOk G h0 m) (hi : i < mLn k) (hA : va_up A k (va_up (A k) i x) = A') (kk : kx_w G l M d Q kc ks (pc + 1) lv st (mH h0 m S A')) : kx_w G l M d Q kc ks pc lv (.int x :: .int (nI i) :: .ref (m + k) :: st) (mH h0 m S A) := by
  obtain ⟨k1, k2, k3, k4⟩ := mIs_of hk
  have hc := mh_a (S := S) (A := A) hm k1 k2
  have hs := mh_seta (h0 := h0) (m := m) (S := S) (A := A) k1 k2 (va_up (A k) i x)
  rw [k3] at hc hs
  refine kx_ist rfl hd hc (vp_in_nI hi (by omega)) ?_
  rw [nI_clamp (by omega), hs, hA]
  exact kk
theorem mh_zl {k i : Nat} {x : Int32} (hk : mIs k 7 = true) (hx : A k i = x) (hd : decode M.2.1 pc = .ok (.baload, 1)) (hm : mOk G h0 m) (hi : i < mLn k) (kk : kx_w G l M d Q kc ks (pc + 1) lv (.int x :: st) (mH h0 m S A)) : kx_w G l M d Q kc ks pc lv (.int (nI i) :: .ref (m + k) :: st) (mH h0 m S A) := by
  obtain ⟨k1, k2, k3, k4⟩ := mIs_of hk
  have hc := mh_a (S := S) (A := A) hm k1 k2
  rw [k3] at hc
  refine kx_zld rfl hd hc (vp_in_nI hi (by omega)) ?_
  rw [nI_clamp (by omega), hx]
  exact kk
theorem mh_zs {k i : Nat} {x : Int32} {A' : Nat → Nat → Int32} (hk : mIs k 7 = true) (hd : decode M.2.1 pc = .ok (.bastore, 1)) (hm : mOk G h0 m) (hi : i < mLn k) (hA : va_up A k (va_up (A k) i x) = A') (hx : vp_nar .boolean x = x) (kk : kx_w G l M d Q kc ks (pc + 1) lv st (mH h0 m S A')) : kx_w G l M d Q kc ks pc lv (.int x :: .int (nI i) :: .ref (m + k) :: st) (mH h0 m S A) := by
  obtain ⟨k1, k2, k3, k4⟩ := mIs_of hk
  have hc := mh_a (S := S) (A := A) hm k1 k2
  have hs := mh_seta (h0 := h0) (m := m) (S := S) (A := A) k1 k2 (va_up (A k) i x)
  rw [k3] at hc hs
  refine kx_zst rfl hd hc (vp_in_nI hi (by omega)) hx ?_
  rw [nI_clamp (by omega), hs, hA]
  exact kk
end KMH
