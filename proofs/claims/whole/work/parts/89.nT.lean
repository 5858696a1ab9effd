/-! ===== a table is put into its place ===== -/
section KZ3
variable {G : kx_G} {m : Nat} {S : Nat → Int32} {A : Nat → Nat → Int32} {h : kx_H} {Z : cZ}
def cZ.nT (Z : cZ) (k a : Nat) (cl : Int32) : cZ := (fun σ => if σ.1 = 14 ∧ σ.2 = k then a else if σ.1 = 15 ∧ σ.2 = k then a + 1 else if σ.1 = 16 ∧ σ.2 / 24 = k then a + 2 + 2 * (σ.2 % 24) else if σ.1 = 17 ∧ σ.2 / 24 = k then a + 3 + 2 * (σ.2 % 24) else Z.ad σ, fun σ j => if σ.1 = 14 ∧ σ.2 = k then (if j = 0 then cl else 0) else Z.sc σ j, Z.ia, va_up Z.tb k true, Z.V, Z.pl, Z.st, Z.fi)
theorem ad_nT {k a : Nat} {cl : Int32} {t i : Nat} (h1 : ¬ (t = 14 ∧ i = k)) (h2 : ¬ (t = 15 ∧ i = k)) (h3 : ¬ (t = 16 ∧ i / 24 = k)) (h4 : ¬ (t = 17 ∧ i / 24 = k)) : (Z.nT k a cl).ad (t, i) = Z.ad (t, i) := by
  show (if t = 14 ∧ i = k then _ else if t = 15 ∧ i = k then _ else if t = 16 ∧ i / 24 = k then _ else if t = 17 ∧ i / 24 = k then _ else Z.ad (t, i)) = _
  rw [if_neg h1, if_neg h2, if_neg h3, if_neg h4]
theorem ad_nT14 {k a : Nat} {cl : Int32} : (Z.nT k a cl).ad (rTab k) = a := if_pos ⟨rfl, rfl⟩
theorem ad_nT15 {k a : Nat} {cl : Int32} : (Z.nT k a cl).ad (rRws k) = a + 1 := by
  simp [cZ.nT, cZ.ad]
theorem ad_nT16 {k a q : Nat} {cl : Int32} (h : q / 24 = k) : (Z.nT k a cl).ad (rRow q) = a + 2 + 2 * (q % 24) := by
  simp [cZ.nT, cZ.ad, h]
theorem ad_nT17 {k a q : Nat} {cl : Int32} (h : q / 24 = k) : (Z.nT k a cl).ad (rByw q) = a + 3 + 2 * (q % 24) := by
  simp [cZ.nT, cZ.ad, h]
theorem cz_nT {k a : Nat} {cl : Int32} (hZ : cOk G m S A h Z) (hk : k < 3) (ht : Z.tb k = false) (f1 : ∀ b, a ≤ b → (∀ τ, lvZ Z τ → Z.ad τ ≠ b) ∧ ¬ (m ≤ b ∧ b ≤ m + 20))
    (i1 : kx_is G h a (.inr (4, [.int cl, .ref (a + 1), .int 0, .int 0]))) (i2 : kx_is G h (a + 1) (kQa 4 24 (fun r => if r < 24 then some (a + 2 + 2 * r) else none))) (i3 : ∀ r, r < 24 → kx_is G h (a + 2 + 2 * r) (.inr (5, [.ref (a + 3 + 2 * r)])) ∧ kx_is G h (a + 3 + 2 * r) (kQa 5 41 (fun _ => none)))
    {c : kx_C} (hc : kQa 1 3 (va_up (tbF Z) k (some a)) = c) : cOk G m S A (kx_set h (Z.ad rTbs) c) (Z.nT k a cl) := by
  have hV : ∀ v, v / 960 = k → Z.V v = 0 := fun v hv => Classical.byContradiction fun z => by
    have := (hZ.wf.inn v z).2
    rw [hv, ht] at this
    cases this
  have hadg : ∀ x b, x ≠ 14 → x ≠ 15 → x ≠ 16 → x ≠ 17 → (Z.nT k a cl).ad (x, b) = Z.ad (x, b) := fun x b z1 z2 z3 z4 => ad_nT (fun e => z1 e.1) (fun e => z2 e.1) (fun e => z3 e.1) (fun e => z4 e.1)
  have htb : ∀ j, j ≠ k → (Z.nT k a cl).tb j = Z.tb j := fun j hj => va_up_ne _ _ hj
  refine cz_link (ρ := rTbs) (N := fun σ => (σ.1 = 14 ∧ σ.2 = k) ∨ (σ.1 = 15 ∧ σ.2 = k) ∨ (σ.1 = 16 ∧ σ.2 / 24 = k ∧ σ.2 < 72) ∨ (σ.1 = 17 ∧ σ.2 / 24 = k ∧ σ.2 < 72)) hZ rfl (by show ¬ ((1 = 14 ∧ 0 = k) ∨ (1 = 15 ∧ 0 = k) ∨ (1 = 16 ∧ 0 / 24 = k ∧ 0 < 72) ∨ (1 = 17 ∧ 0 / 24 = k ∧ 0 < 72)); omega) (fun σ hσ hn => ?_) (fun σ hσ hn => ?_) (fun σ hσ hn hne => ?_) (fun σ hn => ?_) (fun σ τ h1 h2 h3 => ?_) ?_ ?_
  · obtain ⟨t, i⟩ := σ
    replace hn : ¬ ((t = 14 ∧ i = k) ∨ (t = 15 ∧ i = k) ∨ (t = 16 ∧ i / 24 = k ∧ i < 72) ∨ (t = 17 ∧ i / 24 = k ∧ i < 72)) := hn
    by_cases y1 : t = 14
    · subst y1; exact ⟨hσ.1, by rw [← htb i (by omega)]; exact hσ.2⟩
    · by_cases y2 : t = 15
      · subst y2; exact ⟨hσ.1, by rw [← htb i (by omega)]; exact hσ.2⟩
      · by_cases y3 : t = 16
        · subst y3; have h0 : i < 72 := hσ.1; exact ⟨hσ.1, by rw [← htb (i / 24) (by omega)]; exact hσ.2⟩
        · by_cases y4 : t = 17
          · subst y4; have h0 : i < 72 := hσ.1; exact ⟨hσ.1, by rw [← htb (i / 24) (by omega)]; exact hσ.2⟩
          · have h2 : lvT (Z.nT k a cl) t i := hσ
            show lvT Z t i
            simp only [lvT, if_neg y1, if_neg y2, if_neg y3, if_neg y4] at h2 ⊢
            exact h2
  · obtain ⟨t, i⟩ := σ
    replace hn : ¬ ((t = 14 ∧ i = k) ∨ (t = 15 ∧ i = k) ∨ (t = 16 ∧ i / 24 = k ∧ i < 72) ∨ (t = 17 ∧ i / 24 = k ∧ i < 72)) := hn
    refine ad_nT (by omega) (by omega) (fun e => ?_) (fun e => ?_)
    · obtain ⟨rfl, e2⟩ := e
      have h0 : i < 72 := hσ.1
      omega
    · obtain ⟨rfl, e2⟩ := e
      have h0 : i < 72 := hσ.1
      omega
  · obtain ⟨t, i⟩ := σ
    replace hn : ¬ ((t = 14 ∧ i = k) ∨ (t = 15 ∧ i = k) ∨ (t = 16 ∧ i / 24 = k ∧ i < 72) ∨ (t = 17 ∧ i / 24 = k ∧ i < 72)) := hn
    have hsc : ¬ (t = 14 ∧ i = k) → (Z.nT k a cl).sc (t, i) = Z.sc (t, i) := fun z => by
      funext j; exact if_neg z
    by_cases y1 : t = 14
    · subst y1
      have e2 : (Z.nT k a cl).ad (rRws i) = Z.ad (rRws i) := ad_nT (by omega) (by omega) (by omega) (by omega)
      show Sum.inr (4, [Value.int ((Z.nT k a cl).sc (rTab i) 0), .ref ((Z.nT k a cl).ad (rRws i)), .int ((Z.nT k a cl).sc (rTab i) 2), .int ((Z.nT k a cl).sc (rTab i) 3)]) = Sum.inr (4, [Value.int (Z.sc (rTab i) 0), .ref (Z.ad (rRws i)), .int (Z.sc (rTab i) 2), .int (Z.sc (rTab i) 3)])
      rw [e2, show (Z.nT k a cl).sc (rTab i) = Z.sc (rTab i) from hsc (by omega)]
    · by_cases y2 : t = 15
      · subst y2
        have e2 : (fun r => if r < 24 then some ((Z.nT k a cl).ad (rRow (24 * i + r))) else none) = (fun r => if r < 24 then some (Z.ad (rRow (24 * i + r))) else none) := by
          funext r
          by_cases y : r < 24
          · rw [if_pos y, if_pos y, ad_nT (by omega) (by omega) (by omega) (by omega)]
          · rw [if_neg y, if_neg y]
        show kQa 4 24 (fun r => if r < 24 then some ((Z.nT k a cl).ad (rRow (24 * i + r))) else none) = kQa 4 24 (fun r => if r < 24 then some (Z.ad (rRow (24 * i + r))) else none)
        rw [e2]
      · by_cases y3 : t = 16
        · subst y3
          have h0 : i < 72 := hσ.1
          show Sum.inr (5, [Value.ref ((Z.nT k a cl).ad (rByw i))]) = Sum.inr (5, [Value.ref (Z.ad (rByw i))])
          rw [show (Z.nT k a cl).ad (rByw i) = Z.ad (rByw i) from ad_nT (by omega) (by omega) (by omega) (by omega)]
        · by_cases y5 : t = 1
          · subst y5
            have : i = 0 := hσ
            subst this
            exact absurd rfl hne
          · show picT G (Z.nT k a cl).ad ((Z.nT k a cl).sc (t, i)) (Z.ia (t, i)) (va_up Z.tb k true) Z.V Z.pl Z.st Z.fi t i = picT G Z.ad (Z.sc (t, i)) (Z.ia (t, i)) Z.tb Z.V Z.pl Z.st Z.fi t i
            rw [hsc (fun z => y1 z.1), picT_adT hadg y5 y1 y2 y3]
            simp only [picT, if_neg y5]
  · obtain ⟨t, i⟩ := σ
    rcases hn with ⟨e1, e2⟩ | ⟨e1, e2⟩ | ⟨e1, e2, e3⟩ | ⟨e1, e2, e3⟩
    · replace e1 : t = 14 := e1
      replace e2 : i = k := e2
      subst e1 e2
      rw [show (Z.nT i a cl).ad (14, i) = a from ad_nT14]
      refine ⟨?_, f1 a (Nat.le_refl _)⟩
      show kx_is G h a (.inr (4, [Value.int ((Z.nT i a cl).sc (rTab i) 0), .ref ((Z.nT i a cl).ad (rRws i)), .int ((Z.nT i a cl).sc (rTab i) 2), .int ((Z.nT i a cl).sc (rTab i) 3)]))
      rw [ad_nT15, show (Z.nT i a cl).sc (rTab i) 0 = cl by simp [cZ.nT, cZ.sc], show (Z.nT i a cl).sc (rTab i) 2 = 0 by simp [cZ.nT, cZ.sc], show (Z.nT i a cl).sc (rTab i) 3 = 0 by simp [cZ.nT, cZ.sc]]
      exact i1
    · replace e1 : t = 15 := e1
      replace e2 : i = k := e2
      subst e1 e2
      rw [show (Z.nT i a cl).ad (15, i) = a + 1 from ad_nT15]
      refine ⟨?_, f1 (a + 1) (by omega)⟩
      have e2 : (fun r => if r < 24 then some ((Z.nT i a cl).ad (rRow (24 * i + r))) else none) = (fun r => if r < 24 then some (a + 2 + 2 * r) else none) := by
        funext r
        by_cases y : r < 24
        · rw [if_pos y, if_pos y, ad_nT16 (by omega), show (24 * i + r) % 24 = r by omega]
        · rw [if_neg y, if_neg y]
      show kx_is G h (a + 1) (kQa 4 24 (fun r => if r < 24 then some ((Z.nT i a cl).ad (rRow (24 * i + r))) else none))
      rw [e2]; exact i2
    · replace e1 : t = 16 := e1
      replace e2 : i / 24 = k := e2
      subst e1
      rw [show (Z.nT k a cl).ad (16, i) = a + 2 + 2 * (i % 24) from ad_nT16 e2]
      refine ⟨?_, f1 _ (by omega)⟩
      show kx_is G h _ (.inr (5, [Value.ref ((Z.nT k a cl).ad (rByw i))]))
      rw [ad_nT17 e2]; exact (i3 (i % 24) (by omega)).1
    · replace e1 : t = 17 := e1
      replace e2 : i / 24 = k := e2
      replace e3 : i < 72 := e3
      subst e1
      rw [show (Z.nT k a cl).ad (17, i) = a + 3 + 2 * (i % 24) from ad_nT17 e2]
      refine ⟨?_, f1 _ (by omega)⟩
      have e4 : vrF (Z.nT k a cl) i = (fun _ => none) := by
        funext w
        unfold vrF
        refine if_neg (fun z => z.2.2 (hV _ ?_))
        omega
      show kx_is G h _ (kQa 5 41 (vrF (Z.nT k a cl) i))
      rw [e4]; exact (i3 (i % 24) (by omega)).2
  · obtain ⟨t, i⟩ := σ
    obtain ⟨t2, i2⟩ := τ
    replace h1 : (t = 14 ∧ i = k) ∨ (t = 15 ∧ i = k) ∨ (t = 16 ∧ i / 24 = k ∧ i < 72) ∨ (t = 17 ∧ i / 24 = k ∧ i < 72) := h1
    replace h2 : (t2 = 14 ∧ i2 = k) ∨ (t2 = 15 ∧ i2 = k) ∨ (t2 = 16 ∧ i2 / 24 = k ∧ i2 < 72) ∨ (t2 = 17 ∧ i2 / 24 = k ∧ i2 < 72) := h2
    have ev : ∀ t i, ((t = 14 ∧ i = k) ∨ (t = 15 ∧ i = k) ∨ (t = 16 ∧ i / 24 = k ∧ i < 72) ∨ (t = 17 ∧ i / 24 = k ∧ i < 72)) → (Z.nT k a cl).ad (t, i) = if t = 14 then a else if t = 15 then a + 1 else if t = 16 then a + 2 + 2 * (i % 24) else a + 3 + 2 * (i % 24) := by
      intro t i hh
      rcases hh with ⟨rfl, rfl⟩ | ⟨rfl, rfl⟩ | ⟨rfl, e2, -⟩ | ⟨rfl, e2, -⟩
      · exact ad_nT14
      · exact ad_nT15
      · exact ad_nT16 e2
      · exact ad_nT17 e2
    rw [ev t i h1, ev t2 i2 h2] at h3
    have : t = t2 ∧ i = i2 := by
      rcases h1 with h1 | h1 | h1 | h1 <;> rcases h2 with h2 | h2 | h2 | h2 <;> (rw [h1.1, h2.1] at h3; simp at h3 <;> omega)
    rw [this.1, this.2]
  · have hz := hZ.wf
    refine ⟨hz.odd, hz.low, fun v hv => ?_, hz.p0, hz.fi, fun j hj => ?_, hz.pl, hz.stc⟩
    · obtain ⟨y1, y2⟩ := hz.inn v hv
      exact ⟨y1, by rw [htb _ (fun z => by rw [z, ht] at y2; cases y2)]; exact y2⟩
    · by_cases e : j = k
      · rw [e]; exact hk
      · rw [htb j e] at hj; exact hz.tb j hj
  · rw [← hc]
    have : tbF (Z.nT k a cl) = va_up (tbF Z) k (some a) := by
      funext j
      unfold tbF
      by_cases e : j = k
      · rw [e, va_up_self, show (Z.nT k a cl).tb k = true from va_up_self _ _ _, if_pos rfl, ad_nT14]
      · rw [va_up_ne _ _ e, htb j e, ad_nT (by omega) (by omega) (by omega) (by omega)]
    show kQa 1 3 (tbF (Z.nT k a cl)) = _
    rw [this]
end KZ3
