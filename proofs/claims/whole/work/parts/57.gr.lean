/-! ===== a condition, read with two stacks ===== -/
/-- ! and brackets before a comparison, with o left: fine, where, opens, waiting -/
def gP (tx : Nat → Int32) (ln : Nat) : Nat → Nat → List Int32 → List Int32 → Bool × Nat × List Int32 × List Int32
  | 0, a, O, W => if kCur tx ln a = 40 ∨ kCur tx ln a = 33 then (false, a, O, W) else (true, a, O, W)
  | o + 1, a, O, W => if kCur tx ln a = 40 then gP tx ln o (a + 1) (40 :: O) (40 :: W) else if kCur tx ln a = 33 then gP tx ln o (a + 1) (33 :: O) W else (true, a, O, W)
def gJ (es O : List Int32) : List Int32 → List Int32 × List Int32 × List Int32
  | [] => (es, O, [])
  | w :: W => if w = 40 then (es, O, w :: W) else (es ++ [-100 - w], O, W)
/-- a part's end -/
def gE : List Int32 → List Int32 → List Int32 → List Int32 × List Int32 × List Int32
  | es, [], W => gJ es [] W
  | es, x :: O, W => if x = 33 then gE (es ++ [-133]) O W else gJ es (x :: O) W
/-- what holds of the loop of a condition -/
def gCl (tx : Nat → Int32) (ln : Nat) (R : Nat → List Int32 → List Int32 → List Int32 → kRes → Prop) : Prop := (∀ a es W, ln ≤ a → R a es [] W (true, a, es)) ∧ (∀ a es x O W, ln ≤ a → R a es (x :: O) W (false, a, [])) ∧ (∀ a es W, a < ln → tx a = 41 → R a es [] W (false, a, [])) ∧ (∀ a es O W, a < ln → ¬ tx a = 41 → isJn (tx a) = false → R a es O W (false, a, [])) ∧ (∀ a es x O w W r, a < ln → tx a = 41 → R (a + 1) (gE es O W).1 (gE es O W).2.1 (gE es O W).2.2 r → R a es (x :: O) (w :: W) r) ∧ (∀ a es O W, a < ln → isJn (tx a) = true → (gP tx ln (5 - O.length) (a + 1) O (tx a :: W)).1 = false → R a es O W (false, (gP tx ln (5 - O.length) (a + 1) O (tx a :: W)).2.1, [])) ∧ (∀ a es O W, a < ln → isJn (tx a) = true → (gP tx ln (5 - O.length) (a + 1) O (tx a :: W)).1 = true → (rComp tx ln (gP tx ln (5 - O.length) (a + 1) O (tx a :: W)).2.1).1 = false → R a es O W (false, (rComp tx ln (gP tx ln (5 - O.length) (a + 1) O (tx a :: W)).2.1).2.1, [])) ∧ (∀ a es O W r, a < ln → isJn (tx a) = true → (gP tx ln (5 - O.length) (a + 1) O (tx a :: W)).1 = true → (rComp tx ln (gP tx ln (5 - O.length) (a + 1) O (tx a :: W)).2.1).1 = true → R (rComp tx ln (gP tx ln (5 - O.length) (a + 1) O (tx a :: W)).2.1).2.1 (gE (es ++ (rComp tx ln (gP tx ln (5 - O.length) (a + 1) O (tx a :: W)).2.1).2.2) (gP tx ln (5 - O.length) (a + 1) O (tx a :: W)).2.2.1 (gP tx ln (5 - O.length) (a + 1) O (tx a :: W)).2.2.2).1 (gE (es ++ (rComp tx ln (gP tx ln (5 - O.length) (a + 1) O (tx a :: W)).2.1).2.2) (gP tx ln (5 - O.length) (a + 1) O (tx a :: W)).2.2.1 (gP tx ln (5 - O.length) (a + 1) O (tx a :: W)).2.2.2).2.1 (gE (es ++ (rComp tx ln (gP tx ln (5 - O.length) (a + 1) O (tx a :: W)).2.1).2.2) (gP tx ln (5 - O.length) (a + 1) O (tx a :: W)).2.2.1 (gP tx ln (5 - O.length) (a + 1) O (tx a :: W)).2.2.2).2.2 r → R a es O W r)
/-- the loop of a condition, from its head to its end -/
def gR (tx : Nat → Int32) (ln a : Nat) (es O W : List Int32) (r : kRes) : Prop := ∀ R, gCl tx ln R → R a es O W r
theorem gR.fin {tx : Nat → Int32} {ln a : Nat} {es W : List Int32} (h1 : ln ≤ a) : gR tx ln a es [] W (true, a, es) := fun _ z => z.1 _ _ _ h1
theorem gR.unfin {tx : Nat → Int32} {ln a : Nat} {es O W : List Int32} {x : Int32} (h1 : ln ≤ a) : gR tx ln a es (x :: O) W (false, a, []) := fun _ z => z.2.1 _ _ _ _ _ h1
theorem gR.clsn {tx : Nat → Int32} {ln a : Nat} {es W : List Int32} (h1 : a < ln) (h2 : tx a = 41) : gR tx ln a es [] W (false, a, []) := fun _ z => z.2.2.1 _ _ _ h1 h2
theorem gR.other {tx : Nat → Int32} {ln a : Nat} {es O W : List Int32} (h1 : a < ln) (h2 : ¬ tx a = 41) (h3 : isJn (tx a) = false) : gR tx ln a es O W (false, a, []) := fun _ z => z.2.2.2.1 _ _ _ _ h1 h2 h3
theorem gR.cls {tx : Nat → Int32} {ln a : Nat} {es O W : List Int32} {x w : Int32} {r : kRes} (h1 : a < ln) (h2 : tx a = 41) (h3 : gR tx ln (a + 1) (gE es O W).1 (gE es O W).2.1 (gE es O W).2.2 r) : gR tx ln a es (x :: O) (w :: W) r := fun R z => z.2.2.2.2.1 _ _ _ _ _ _ _ h1 h2 (h3 R z)
theorem gR.jn1 {tx : Nat → Int32} {ln a : Nat} {es O W : List Int32} (h1 : a < ln) (h2 : isJn (tx a) = true) (h3 : (gP tx ln (5 - O.length) (a + 1) O (tx a :: W)).1 = false) : gR tx ln a es O W (false, (gP tx ln (5 - O.length) (a + 1) O (tx a :: W)).2.1, []) := fun _ z => z.2.2.2.2.2.1 _ _ _ _ h1 h2 h3
theorem gR.jn2 {tx : Nat → Int32} {ln a : Nat} {es O W : List Int32} (h1 : a < ln) (h2 : isJn (tx a) = true) (h3 : (gP tx ln (5 - O.length) (a + 1) O (tx a :: W)).1 = true) (h4 : (rComp tx ln (gP tx ln (5 - O.length) (a + 1) O (tx a :: W)).2.1).1 = false) : gR tx ln a es O W (false, (rComp tx ln (gP tx ln (5 - O.length) (a + 1) O (tx a :: W)).2.1).2.1, []) := fun _ z => z.2.2.2.2.2.2.1 _ _ _ _ h1 h2 h3 h4
theorem gR.jn3 {tx : Nat → Int32} {ln a : Nat} {es O W : List Int32} {r : kRes} (h1 : a < ln) (h2 : isJn (tx a) = true) (h3 : (gP tx ln (5 - O.length) (a + 1) O (tx a :: W)).1 = true) (h4 : (rComp tx ln (gP tx ln (5 - O.length) (a + 1) O (tx a :: W)).2.1).1 = true) (h5 : gR tx ln (rComp tx ln (gP tx ln (5 - O.length) (a + 1) O (tx a :: W)).2.1).2.1 (gE (es ++ (rComp tx ln (gP tx ln (5 - O.length) (a + 1) O (tx a :: W)).2.1).2.2) (gP tx ln (5 - O.length) (a + 1) O (tx a :: W)).2.2.1 (gP tx ln (5 - O.length) (a + 1) O (tx a :: W)).2.2.2).1 (gE (es ++ (rComp tx ln (gP tx ln (5 - O.length) (a + 1) O (tx a :: W)).2.1).2.2) (gP tx ln (5 - O.length) (a + 1) O (tx a :: W)).2.2.1 (gP tx ln (5 - O.length) (a + 1) O (tx a :: W)).2.2.2).2.1 (gE (es ++ (rComp tx ln (gP tx ln (5 - O.length) (a + 1) O (tx a :: W)).2.1).2.2) (gP tx ln (5 - O.length) (a + 1) O (tx a :: W)).2.2.1 (gP tx ln (5 - O.length) (a + 1) O (tx a :: W)).2.2.2).2.2 r) : gR tx ln a es O W r := fun R z => z.2.2.2.2.2.2.2 _ _ _ _ _ h1 h2 h3 h4 (h5 R z)
/-- behind a part -/
def gK (tx : Nat → Int32) (ln a : Nat) (es O W : List Int32) (r : kRes) : Prop := gR tx ln a (gE es O W).1 (gE es O W).2.1 (gE es O W).2.2 r
/-- before a part -/
def gT (tx : Nat → Int32) (ln o a : Nat) (es O W : List Int32) (r : kRes) : Prop := ((gP tx ln o a O W).1 = false ∧ r = (false, (gP tx ln o a O W).2.1, [])) ∨ ((gP tx ln o a O W).1 = true ∧ (rComp tx ln (gP tx ln o a O W).2.1).1 = false ∧ r = (false, (rComp tx ln (gP tx ln o a O W).2.1).2.1, [])) ∨ ((gP tx ln o a O W).1 = true ∧ (rComp tx ln (gP tx ln o a O W).2.1).1 = true ∧ gK tx ln (rComp tx ln (gP tx ln o a O W).2.1).2.1 (es ++ (rComp tx ln (gP tx ln o a O W).2.1).2.2) (gP tx ln o a O W).2.2.1 (gP tx ln o a O W).2.2.2 r)
theorem gR_jn {tx : Nat → Int32} {ln a : Nat} {es O W : List Int32} {r : kRes} (h1 : a < ln) (h2 : isJn (tx a) = true) (h : gT tx ln (5 - O.length) (a + 1) es O (tx a :: W) r) : gR tx ln a es O W r := by
  rcases h with ⟨h3, rfl⟩ | ⟨h3, h4, rfl⟩ | ⟨h3, h4, h5⟩
  · exact gR.jn1 h1 h2 h3
  · exact gR.jn2 h1 h2 h3 h4
  · exact gR.jn3 h1 h2 h3 h4 h5
theorem gT_comp {tx : Nat → Int32} {ln o a : Nat} {es O W : List Int32} {r : kRes} (hg : gP tx ln o a O W = (true, a, O, W)) (h1 : (rComp tx ln a).1 = true → gK tx ln (rComp tx ln a).2.1 (es ++ (rComp tx ln a).2.2) O W r) (h2 : (rComp tx ln a).1 = false → r = (false, (rComp tx ln a).2.1, [])) : gT tx ln o a es O W r := by
  unfold gT
  rw [hg]
  by_cases e : (rComp tx ln a).1 = true
  · exact Or.inr (Or.inr ⟨rfl, e, h1 e⟩)
  · have e' : (rComp tx ln a).1 = false := by cases h : (rComp tx ln a).1 with | true => exact absurd h e | false => rfl
    exact Or.inr (Or.inl ⟨rfl, e', h2 e'⟩)
/-- the top of the opens is no !, the top of what waits is no sign -/
def gTop (O W : List Int32) : Prop := (∀ x O', O = x :: O' → ¬ x = 33) ∧ (∀ w W', W = w :: W' → w = 40)
theorem gE_top {O W : List Int32} (h : gTop O W) (es : List Int32) : gE es O W = (es, O, W) := by
  have hj : gJ es O W = (es, O, W) := by
    cases W with
    | nil => rfl
    | cons w W => simp only [gJ]; rw [if_pos (h.2 w W rfl)]
  cases O with
  | nil => exact hj
  | cons x O => simp only [gE]; rw [if_neg (h.1 x O rfl)]; exact hj
theorem isJn_40 {c : Int32} (h : isJn c = true) : ¬ c = 40 := fun z => by rw [z] at h; exact absurd h (by decide)
theorem gE_jn {O W : List Int32} (h : gTop O W) {c : Int32} (hc : isJn c = true) (es : List Int32) : gE es O (c :: W) = (es ++ [-100 - c], O, W) := by
  have hj : gJ es O (c :: W) = (es ++ [-100 - c], O, W) := by simp only [gJ]; rw [if_neg (isJn_40 hc)]
  cases O with
  | nil => exact hj
  | cons x O => simp only [gE]; rw [if_neg (h.1 x O rfl)]; exact hj
/-- what a part's reading comes to -/
def gPC (tx : Nat → Int32) (ln o : Nat) : Prop := ∀ a es O W r, a ≤ ln → O.length + o = 5 → ((dPart tx ln o a).1 = true → gK tx ln (dPart tx ln o a).2.1 (es ++ (dPart tx ln o a).2.2) O W r) → ((dPart tx ln o a).1 = false → r = (false, (dPart tx ln o a).2.1, [])) → gT tx ln o a es O W r
theorem kB_f {b : Bool} (h : ¬ b = true) : b = false := by cases b with | true => exact absurd rfl h | false => rfl
theorem gR_lp {tx : Nat → Int32} {ln o : Nat} (hp : gPC tx ln o) : ∀ f a es es0 O W r, ln ≤ a + f → a ≤ ln → O.length + o = 5 → gTop O W → ((lpO isJn (dPart tx ln o) tx ln f a es0).1 = true → isJn (kCur tx ln (lpO isJn (dPart tx ln o) tx ln f a es0).2.1) = false → gR tx ln (lpO isJn (dPart tx ln o) tx ln f a es0).2.1 (es ++ (lpO isJn (dPart tx ln o) tx ln f a es0).2.2) O W r) → ((lpO isJn (dPart tx ln o) tx ln f a es0).1 = false → r = (false, (lpO isJn (dPart tx ln o) tx ln f a es0).2.1, [])) → gR tx ln a (es ++ es0) O W r
  | 0, a, es, es0, O, W, r, hf, ha, ho, ht, h1, h2 => h1 rfl (by simp only [lpO]; rw [kCur_out (by omega)]; decide)
  | f + 1, a, es, es0, O, W, r, hf, ha, ho, ht, h1, h2 => by
    simp only [lpO] at h1 h2
    by_cases e : isJn (kCur tx ln a) = true
    · rw [if_pos e] at h1 h2
      have hlt : a < ln := Nat.lt_of_not_le fun z => by rw [kCur_out (by omega)] at e; exact absurd e (by decide)
      have hc : kCur tx ln a = tx a := kCur_in hlt
      rw [hc] at e h1 h2
      obtain ⟨g1, g2, g3⟩ := dPart_gd tx ln o (a + 1) hlt
      refine gR_jn hlt e ?_
      rw [show 5 - O.length = o by omega]
      refine hp (a + 1) (es ++ es0) O (tx a :: W) r hlt ho (fun e2 => ?_) (fun e2 => ?_)
      · unfold gK
        rw [gE_jn ht e]
        rw [if_pos e2] at h1 h2
        show gR tx ln (dPart tx ln o (a + 1)).2.1 (es ++ es0 ++ (dPart tx ln o (a + 1)).2.2 ++ [-100 - tx a]) O W r
        have := gR_lp hp f (dPart tx ln o (a + 1)).2.1 es (es0 ++ (dPart tx ln o (a + 1)).2.2 ++ [-100 - tx a]) O W r (by have := (g3 e2).1; omega) g2 ho ht h1 h2
        simp only [List.append_assoc] at this ⊢
        exact this
      · rw [if_neg (by rw [e2]; decide)] at h2
        exact h2 rfl
    · rw [if_neg e] at h1
      exact h1 rfl (kB_f e)
theorem gT_sq {tx : Nat → Int32} {ln o : Nat} (hln : ln ≤ 40) (hp : gPC tx ln o) {a : Nat} {es O W : List Int32} {r : kRes} (ha : a ≤ ln) (ho : O.length + o = 5) (ht : gTop O W) (h1 : (sqO isJn (dPart tx ln o) tx ln 40 a).1 = true → isJn (kCur tx ln (sqO isJn (dPart tx ln o) tx ln 40 a).2.1) = false → gR tx ln (sqO isJn (dPart tx ln o) tx ln 40 a).2.1 (es ++ (sqO isJn (dPart tx ln o) tx ln 40 a).2.2) O W r) (h2 : (sqO isJn (dPart tx ln o) tx ln 40 a).1 = false → r = (false, (sqO isJn (dPart tx ln o) tx ln 40 a).2.1, [])) : gT tx ln o a es O W r := by
  unfold sqO at h1 h2
  obtain ⟨g1, g2, g3⟩ := dPart_gd tx ln o a ha
  refine hp a es O W r ha ho (fun e => ?_) (fun e => ?_)
  · rw [if_pos e] at h1 h2
    unfold gK
    rw [gE_top ht]
    exact gR_lp hp 40 _ es _ O W r (by omega) g2 ho ht h1 h2
  · rw [if_neg (by rw [e]; decide)] at h2
    exact h2 rfl
theorem gR_stop {tx : Nat → Int32} {ln a : Nat} {es O W : List Int32} {x : Int32} (h1 : isJn (kCur tx ln a) = false) (h2 : ¬ kCur tx ln a = 41) : gR tx ln a es (x :: O) W (false, a, []) := by
  by_cases h : a < ln
  · rw [kCur_in h] at h1 h2; exact gR.other h h2 h1
  · exact gR.unfin (by omega)
theorem gPC_all {tx : Nat → Int32} {ln : Nat} (hln : ln ≤ 40) : ∀ o, gPC tx ln o
  | 0 => by
    intro a es O W r ha ho h1 h2
    simp only [dPart] at h1 h2
    by_cases e : kCur tx ln a = 40 ∨ kCur tx ln a = 33
    · rw [if_pos e] at h2
      refine Or.inl ⟨?_, ?_⟩
      · simp only [gP]; rw [if_pos e]
      · simp only [gP]; rw [if_pos e]; exact h2 rfl
    · rw [if_neg e] at h1 h2
      exact gT_comp (by simp only [gP]; rw [if_neg e]) h1 h2
  | o + 1 => by
    intro a es O W r ha ho h1 h2
    simp only [dPart] at h1 h2
    by_cases e : kCur tx ln a = 40
    · rw [if_pos e] at h1 h2
      have hlt : a < ln := Nat.lt_of_not_le fun z => by rw [kCur_out (by omega)] at e; exact absurd e (by decide)
      have hg : gP tx ln (o + 1) a O W = gP tx ln o (a + 1) (40 :: O) (40 :: W) := by simp only [gP]; rw [if_pos e]
      have hT : gT tx ln (o + 1) a es O W r = gT tx ln o (a + 1) es (40 :: O) (40 :: W) r := by unfold gT; rw [hg]
      rw [hT]
      refine gT_sq hln (gPC_all hln o) hlt (by simp only [List.length_cons]; omega) ⟨fun x O' z => by injection z with z; rw [← z]; decide, fun x O' z => by injection z with z; exact z.symm⟩ (fun e2 e3 => ?_) (fun e2 => ?_)
      · by_cases e4 : kCur tx ln (sqO isJn (dPart tx ln o) tx ln 40 (a + 1)).2.1 = 41
        · rw [if_pos ⟨e2, e4⟩] at h1
          have hl2 : (sqO isJn (dPart tx ln o) tx ln 40 (a + 1)).2.1 < ln := Nat.lt_of_not_le fun z => by rw [kCur_out (by omega)] at e4; exact absurd e4 (by decide)
          rw [kCur_in hl2] at e4
          exact gR.cls hl2 e4 (h1 rfl)
        · rw [if_neg (fun z => e4 z.2)] at h2
          rw [h2 rfl]
          exact gR_stop e3 e4
      · rw [if_neg (fun z => by rw [e2] at z; exact absurd z.1 (by decide))] at h2
        exact h2 rfl
    · rw [if_neg e] at h1 h2
      by_cases e2 : kCur tx ln a = 33
      · rw [if_pos e2] at h1 h2
        have hlt : a < ln := Nat.lt_of_not_le fun z => by rw [kCur_out (by omega)] at e2; exact absurd e2 (by decide)
        have hg : gP tx ln (o + 1) a O W = gP tx ln o (a + 1) (33 :: O) W := by simp only [gP]; rw [if_neg e, if_pos e2]
        have hT : gT tx ln (o + 1) a es O W r = gT tx ln o (a + 1) es (33 :: O) W r := by unfold gT; rw [hg]
        rw [hT]
        refine gPC_all hln o (a + 1) es (33 :: O) W r hlt (by simp only [List.length_cons]; omega) (fun e3 => ?_) (fun e3 => ?_)
        · rw [if_pos e3] at h1
          have := h1 rfl
          unfold gK at this ⊢
          have hE : gE (es ++ (dPart tx ln o (a + 1)).2.2) (33 :: O) W = gE (es ++ ((dPart tx ln o (a + 1)).2.2 ++ [-133])) O W := by
            simp only [gE]; rw [if_pos trivial, List.append_assoc]
          rw [hE]
          exact this
        · rw [if_neg (by rw [e3]; decide)] at h2
          exact h2 rfl
      · rw [if_neg e2] at h1 h2
        exact gT_comp (by simp only [gP]; rw [if_neg e, if_neg e2]) h1 h2
theorem gT_cond {tx : Nat → Int32} {ln : Nat} (hln : ln ≤ 40) (h0 : ¬ ln = 0) : gT tx ln 5 0 [] [] [] (pCond tx ln) := by
  obtain ⟨g1, g2, g3⟩ := sqO_gd (tx := tx) (show isJn (-1) = false by decide) (dPart_gd tx ln 5) 40 0 (by omega)
  refine gT_sq hln (gPC_all hln 5) (Nat.zero_le _) rfl ⟨fun x O' z => (by cases z), fun x O' z => (by cases z)⟩ (fun e2 e3 => ?_) (fun e2 => ?_)
  · unfold pCond
    rw [if_neg h0]
    by_cases e4 : (sqO isJn (dPart tx ln 5) tx ln 40 0).2.1 = ln
    · rw [if_pos ⟨e2, e4⟩, e4]
      exact gR.fin (Nat.le_refl _)
    · rw [if_neg (fun z => e4 z.2)]
      have hlt : (sqO isJn (dPart tx ln 5) tx ln 40 0).2.1 < ln := by omega
      rw [kCur_in hlt] at e3
      by_cases e5 : tx (sqO isJn (dPart tx ln 5) tx ln 40 0).2.1 = 41
      · exact gR.clsn hlt e5
      · exact gR.other hlt e5 e3
  · unfold pCond
    rw [if_neg h0, if_neg (fun z => by rw [e2] at z; exact absurd z.1 (by decide))]
