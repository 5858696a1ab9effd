/-! ===== statements: the same rows, the same values ===== -/
section KS5
variable {G : kx_G} {l : Launch} {m : Nat} {S S1 : Nat → Int32} {A A1 : Nat → Nat → Int32} {h : kx_H} {Z Z' : cZ} {bg ln rs : Nat} {MD SC CL : Nat → Nat} {PI : Nat → List Int32}
theorem lA_cg {W W' : Nat → Int32} {es : List Int32} {b : Bool} (ht : es = [] ∨ tyL es [] = some [b]) (h : ∀ c, c < 4 → W c = W' c) : lA W es = lA W' es := by
  unfold lA
  rcases ht with z | z
  · rw [if_pos z, if_pos z]
  · rw [lE_congr h [] z]
/-- the reference's items of program i -/
def pP (PI : Nat → List Int32) (i k : Nat) : Int32 := (PI i).getD k 0
theorem pP_at (PI : Nat → List Int32) (i : Nat) : atL (pP PI i) 0 (PI i) := fun k x hk => by
  show (PI i).getD (0 + k) 0 = x
  rw [Nat.zero_add, List.getD_eq_getElem?_getD, hk]; rfl
theorem sPr.ty (hP : sPr Z A PI) {c : Nat} (hc : c < 4) : PI (c + 1) = [] ∨ tyL (PI (c + 1)) [] = some [false] := (hP.2.2.2.2.1 c hc).elim Or.inl (fun z => Or.inr z.2)
theorem sPr.prog (hP : sPr Z A PI) : mProg A (pP PI) (fun i => (PI i).length) := fun i hi => by
  refine ⟨(hP.2.2.2.2.2.1 i hi).1, ?_, fun k hk => ?_⟩
  · cases i with
    | zero => exact okC_wf hP.1 (pP_at PI 0)
    | succ c =>
      rcases hP.2.2.2.2.1 c (by omega) with z | z
      · have e : okC (PI (c + 1)) := by rw [z]; exact ⟨Nat.zero_le _, Or.inl rfl⟩
        exact okC_wf e (pP_at PI (c + 1))
      · exact okS_wf z (pP_at PI (c + 1))
  · have e : (PI i)[k]? = some (PI i)[k] := List.getElem?_eq_getElem hk
    rw [(hP.2.2.2.2.2.1 i hi).2 k _ e]
    show _ = (PI i).getD k 0
    rw [List.getD_eq_getElem?_getD, e]; rfl
theorem sVr.vals (hV : sVr Z A bg MD) {tn q : Nat} (h0 : ¬ hwq Z.V tn q = 0) (hg : ¬ Z.V (40 * q + (hwq Z.V tn q - 1)) / 2 % 2 = 1) : ∀ c, c < 4 → A 5 (4 * (40 * q + (hwq Z.V tn q - 1)) + c) = Z.ia (rVal (40 * q + (hwq Z.V tn q - 1))) c :=
  hV.2.2.2 _ (hwq_v h0).1 (by omega)
theorem vd_eq (hT : sTr Z S A bg) (hV : sVr Z A bg MD) (hP : sPr Z A PI) (hw : cWf Z) (tn q : Nat) : vdct Z.V (A 6) (A 5) (pP PI 0) (PI 0).length tn q = vdC Z (PI 0) tn q := by
  unfold vdct vdC
  by_cases e0 : hwq Z.V tn q = 0
  · rw [if_pos e0, if_pos e0]
  · rw [if_neg e0, if_neg e0]
    have e1 : (¬ hwq Z.V tn q = tn ∧ A 6 (hwq Z.V tn q) = 1) ↔ (¬ hwq Z.V tn q = tn ∧ Z.st (hwq Z.V tn q) = 1) := and_congr_right fun _ => st_iff hT hw _ 1 (by decide)
    by_cases e2 : ¬ hwq Z.V tn q = tn ∧ Z.st (hwq Z.V tn q) = 1
    · rw [if_pos (e1.mpr e2), if_pos e2]
    · rw [if_neg (fun z => e2 (e1.mp z)), if_neg e2]
      by_cases e3 : Z.V (40 * q + (hwq Z.V tn q - 1)) / 2 % 2 = 1
      · rw [if_pos e3, if_pos e3]
      · rw [if_neg e3, if_neg e3]
        have ty := hP.1.2
        have ev := evC_lA (vals := fun c => A 5 (4 * (40 * q + (hwq Z.V tn q - 1)) + c)) ty (pP_at PI 0)
        rw [lA_cg ty (hV.vals e0 e3)] at ev
        cases hl : lA (Z.ia (rVal (40 * q + (hwq Z.V tn q - 1)))) (PI 0) with
        | none =>
          rw [if_pos (ev.2 hl)]; rfl
        | some x =>
          rw [ev.1 x hl]
          show (if false = true then 3 else if x = 0 then 0 else 1) = (if x = 0 then 0 else 1)
          rw [if_neg (by decide)]
theorem vdC_le (Z : cZ) (es : List Int32) (tn q : Nat) : vdC Z es tn q ≤ 3 := by
  unfold vdC
  split
  · omega
  · split
    · omega
    · split
      · omega
      · cases lA (Z.ia (rVal (40 * q + (hwq Z.V tn q - 1)))) es with
        | none => exact Nat.le_refl 3
        | some x =>
          show (if x = 0 then 0 else 1) ≤ 3
          split <;> omega
theorem vdC_1 {es : List Int32} {tn q : Nat} (h : vdC Z es tn q = 1) : ¬ hwq Z.V tn q = 0 ∧ ¬ Z.V (40 * q + (hwq Z.V tn q - 1)) / 2 % 2 = 1 := by
  unfold vdC at h
  refine ⟨fun z => ?_, fun z => ?_⟩
  · rw [if_pos z] at h; exact absurd h (by decide)
  · split at h
    · exact absurd h (by decide)
    · split at h
      · exact absurd h (by decide)
      · exact absurd h (by decide)
theorem fst_bad (f : Nat → Nat) : ∀ n, (∀ r, r < n → f r ≤ 1) ∨ ∃ r0, r0 < n ∧ (∀ r, r < r0 → f r ≤ 1) ∧ 1 < f r0
  | 0 => Or.inl fun r hr => absurd hr (by omega)
  | n + 1 => by
    rcases fst_bad f n with z | ⟨r0, a, b, c⟩
    · by_cases e : f n ≤ 1
      · exact Or.inl fun r hr => by
          by_cases q : r = n
          · rw [q]; exact e
          · exact z r (by omega)
      · exact Or.inr ⟨n, by omega, z, by omega⟩
    · exact Or.inr ⟨r0, by omega, b, c⟩
theorem fst_un {f : Nat → Nat} {a b : Nat} (h1 : ∀ r, r < a → f r ≤ 1) (h2 : 1 < f a) (h3 : ∀ r, r < b → f r ≤ 1) (h4 : 1 < f b) : a = b := by
  by_cases e : a < b
  · have := h3 a e; omega
  · by_cases e' : b < a
    · have := h1 b e'; omega
    · omega
theorem selL_cnt {p : Nat → Bool} : ∀ {n i r : Nat}, (selL p n)[i]? = some r → cnt p r = i
  | 0, i, r, h => by simp [selL] at h
  | n + 1, i, r, h => by
    by_cases e : p n = true
    · rw [show selL p (n + 1) = selL p n ++ [n] from if_pos e] at h
      by_cases q : i < (selL p n).length
      · rw [List.getElem?_append_left q] at h
        exact selL_cnt h
      · rw [List.getElem?_append_right (by omega)] at h
        have hi : i - (selL p n).length = 0 := by
          have := (List.getElem?_eq_some_iff.mp h).1
          simp at this; omega
        rw [hi] at h
        have : n = r := by simpa using h
        rw [← this, ← selL_len]; omega
    · rw [show selL p (n + 1) = selL p n from if_neg e] at h
      exact selL_cnt h
/-- what a scan marks -/
def mrk (V : Nat → Nat) (k md tn v : Nat) : Nat := if 24 * k ≤ v / 40 ∧ v / 40 < 24 * k + md ∧ v % 40 + 1 = hwq V tn (v / 40) ∧ V v / 4 < tn then V v % 4 + 4 * tn else V v
theorem dm40 (v : Nat) : 40 * (v / 40) + v % 40 = v := Nat.div_add_mod v 40
theorem mrk_eq (V : Nat → Nat) (k md tn v : Nat) : vMark V (hwq V tn) k tn md (v / 40) (v % 40) = mrk V k md tn v := by
  unfold vMark mrk
  rw [dm40]
theorem mrk_0 {V : Nat → Nat} {k md tn v : Nat} (h : ¬ mrk V k md tn v = 0) : ¬ V v = 0 := by
  unfold mrk at h
  split at h
  · rename_i z
    have := (hwq_v (V := V) (t := tn) (q := v / 40) (by omega)).1
    rw [← z.2.2.1, show v % 40 + 1 - 1 = v % 40 by omega, dm40] at this
    exact this
  · exact h
theorem mrk_g (V : Nat → Nat) (k md tn v : Nat) : mrk V k md tn v / 2 % 2 = V v / 2 % 2 := by
  unfold mrk
  split <;> omega
/-- a table scanned -/
theorem sTb.scan {k tn : Nat} (hB : sTb Z A MD SC CL) (hk : k < 3) (ht : Z.tb k = true) (htn : tn ≤ 40) (a0 : ∀ j, Z'.sc (rTab j) 0 = Z.sc (rTab j) 0) (a2 : ∀ j, Z'.sc (rTab j) 2 = Z.sc (rTab j) 2) (a3 : Z'.sc (rTab k) 3 = nI (max (SC k) tn)) (a3' : ∀ j, ¬ j = k → Z'.sc (rTab j) 3 = Z.sc (rTab j) 3) (b : Z'.tb = Z.tb) (c1 : A1 1 = A 1) (c2 : A1 2 = A 2) (c3 : A1 3 = va_up (A 3) k (nI (max (SC k) tn))) : sTb Z' A1 MD (va_up SC k (max (SC k) tn)) CL := by
  obtain ⟨w0, w1, w2, w3, w4, w5, w6, w7⟩ := hB
  refine ⟨fun j hj hjt => ?_, by rw [c1]; exact w1, w2, by rw [c2]; exact w3, w4, fun j => ?_, fun j => ?_, fun j hj => ?_⟩
  · have o := w0 j hj (by rw [← b]; exact hjt)
    rw [a0, a2]
    by_cases e : j = k
    · subst e
      rw [a3, va_up_self]
      exact ⟨o.1, o.2.1, o.2.2.1, o.2.2.2.1, o.2.2.2.2.1, rfl, by have := w6 j; omega⟩
    · rw [a3' j e, va_up_ne _ _ e]; exact o
  · rw [c3]
    by_cases e : j = k
    · rw [e, va_up_self, va_up_self]
    · rw [va_up_ne _ _ e, va_up_ne _ _ e]; exact w5 j
  · by_cases e : j = k
    · rw [e, va_up_self]; have := w6 k; omega
    · rw [va_up_ne _ _ e]; exact w6 j
  · rw [b]
    refine ⟨(w7 j hj).1, fun z => ?_⟩
    have e : ¬ j = k := fun y => by rw [y, ht] at z; exact absurd z (by decide)
    rw [va_up_ne _ _ e]; exact (w7 j hj).2 z
end KS5
