/-! ===== the objects of the other side: made, dropped, put in their places ===== -/
section KZ2
variable {G : kx_G} {m : Nat} {S : Nat → Int32} {A : Nat → Nat → Int32} {h h' : kx_H} {Z Z' : cZ} {ρ : cR}
theorem cz_link {N : cR → Prop} (hZ : cOk G m S A h Z) (hl : lvZ Z ρ) (hρ : ¬ N ρ) (hlv : ∀ σ, lvZ Z' σ → ¬ N σ → lvZ Z σ) (hold : ∀ σ, lvZ Z σ → ¬ N σ → Z'.ad σ = Z.ad σ) (hpc : ∀ σ, lvZ Z' σ → ¬ N σ → σ ≠ ρ → pic G Z' σ = pic G Z σ)
    (hN : ∀ σ, N σ → kx_is G h (Z'.ad σ) (pic G Z' σ) ∧ (∀ τ, lvZ Z τ → Z.ad τ ≠ Z'.ad σ) ∧ ¬ (m ≤ Z'.ad σ ∧ Z'.ad σ ≤ m + 20)) (hNi : ∀ σ τ, N σ → N τ → Z'.ad σ = Z'.ad τ → σ = τ) (hw : cWf Z') {c : kx_C} (hc : pic G Z' ρ = c) : cOk G m S A (kx_set h (Z.ad ρ) c) Z' := by
  refine ⟨fun σ hσ => ?_, fun σ τ h1 h2 h3 => ?_, fun σ hσ => ?_, hZ.b1, hZ.b2, bOk_of hZ.blk (fun a h1 h2 => ?_), hw⟩
  · rw [← hc]
    by_cases n : N σ
    · obtain ⟨h1, h2, h3⟩ := hN σ n
      exact kx_is_ne h1 (fun z => h2 ρ hl z.symm)
    · by_cases e : σ = ρ
      · rw [e, hold ρ hl hρ]; exact kx_is_eq (hZ.is ρ hl)
      · have h1 := hlv σ hσ n
        rw [hold σ h1 n, hpc σ hσ n e]
        exact kx_is_ne (hZ.is σ h1) (fun z => e (hZ.inj σ ρ h1 hl z))
  · by_cases n1 : N σ
    · by_cases n2 : N τ
      · exact hNi σ τ n1 n2 h3
      · rw [hold τ (hlv τ h2 n2) n2] at h3
        exact absurd h3.symm ((hN σ n1).2.1 τ (hlv τ h2 n2))
    · by_cases n2 : N τ
      · rw [hold σ (hlv σ h1 n1) n1] at h3
        exact absurd h3 ((hN τ n2).2.1 σ (hlv σ h1 n1))
      · rw [hold σ (hlv σ h1 n1) n1, hold τ (hlv τ h2 n2) n2] at h3
        exact hZ.inj σ τ (hlv σ h1 n1) (hlv τ h2 n2) h3
  · by_cases n : N σ
    · exact (hN σ n).2.2
    · rw [hold σ (hlv σ hσ n) n]; exact hZ.out σ (hlv σ hσ n)
  · show va_up _ _ _ _ = _
    rw [va_up_ne _ _ (fun z => hZ.out ρ hl (by rw [← z]; exact ⟨h1, h2⟩))]
/-! versions -/
def cZ.sV (Z : cZ) (v x : Nat) : cZ := (Z.ad, Z.sc, Z.ia, Z.tb, va_up Z.V v x, Z.pl, Z.st, Z.fi)
theorem picT_V {ad : cR → Nat} {s f : Nat → Int32} {tb : Nat → Bool} {V V' : Nat → Nat} {pl : Nat → Bool} {st : Nat → Nat} {fi t i : Nat} (h1 : ¬ t = 17) (h2 : ¬ t = 18) : picT G ad s f tb V pl st fi t i = picT G ad s f tb V' pl st fi t i := by simp only [picT, if_neg h1, if_neg h2]
theorem lvT_V {v x t i : Nat} (h1 : ¬ t = 18) (h2 : ¬ t = 19) : lvT (Z.sV v x) t i ↔ lvT Z t i := by
  simp only [lvT, if_neg h1, if_neg h2]
  exact Iff.rfl
theorem V_sV {v x w : Nat} (hv : ¬ Z.V v = 0) (hx : x % 2 = 1) : (va_up Z.V v x w = 0) ↔ Z.V w = 0 := by
  by_cases e : w = v
  · rw [e, va_up_self]; constructor
    · intro z; omega
    · intro z; exact absurd z hv
  · rw [va_up_ne _ _ e]
theorem lv_sV {v x : Nat} (hv : ¬ Z.V v = 0) (hx : x % 2 = 1) (σ : cR) : lvZ (Z.sV v x) σ ↔ lvZ Z σ := by
  obtain ⟨t, i⟩ := σ
  show lvT (Z.sV v x) t i ↔ lvT Z t i
  by_cases e1 : t = 18
  · subst e1; exact Iff.intro (fun z y => z ((V_sV hv hx).mpr y)) (fun z y => z ((V_sV hv hx).mp y))
  · by_cases e2 : t = 19
    · subst e2; exact Iff.intro (fun z y => z ((V_sV hv hx).mpr y)) (fun z y => z ((V_sV hv hx).mp y))
    · exact lvT_V e1 e2
theorem vrF_sV {v x : Nat} (hv : ¬ Z.V v = 0) (hx : x % 2 = 1) (q : Nat) : vrF (Z.sV v x) q = vrF Z q := by
  funext w
  unfold vrF
  have := V_sV (w := 40 * q + (w - 1)) hv hx
  show (if 1 ≤ w ∧ w ≤ 40 ∧ ¬ va_up Z.V v x (40 * q + (w - 1)) = 0 then some (Z.ad (rVer (40 * q + (w - 1)))) else none) = _
  simp only [this]
theorem pic_17 (q : Nat) : pic G Z (rByw q) = kQa 5 41 (vrF Z q) := rfl
theorem pic_18 (v : Nat) : pic G Z (rVer v) = vO v (Z.ad (rVal v)) (Z.V v) := rfl
theorem pic_sV {v x : Nat} (hv : ¬ Z.V v = 0) (hx : x % 2 = 1) (σ : cR) (hne : σ ≠ rVer v) : pic G (Z.sV v x) σ = pic G Z σ := by
  obtain ⟨t, i⟩ := σ
  by_cases e1 : t = 17
  · subst e1
    show pic G (Z.sV v x) (rByw i) = pic G Z (rByw i)
    rw [pic_17, pic_17, vrF_sV hv hx]
  · by_cases e2 : t = 18
    · subst e2
      have e : i ≠ v := fun z => hne (by rw [z])
      show vO i (Z.ad (rVal i)) (va_up Z.V v x i) = vO i (Z.ad (rVal i)) (Z.V i)
      rw [va_up_ne _ _ e]
    · exact picT_V e1 e2
theorem wf_sV {v x : Nat} (hv : ¬ Z.V v = 0) (hx : x % 2 = 1) (hx2 : x < 256) (h : cWf Z) : cWf (Z.sV v x) := by
  refine ⟨fun w => ?_, fun w => ?_, fun w hw => h.inn w (fun z => hw ((V_sV hv hx).mpr z)), h.p0, h.fi, h.tb, h.pl, h.stc⟩
  · show va_up Z.V v x w = 0 ∨ va_up Z.V v x w % 2 = 1
    by_cases e : w = v
    · rw [e, va_up_self]; exact Or.inr hx
    · rw [va_up_ne _ _ e]; exact h.odd w
  · show va_up Z.V v x w < 256
    by_cases e : w = v
    · rw [e, va_up_self]; exact hx2
    · rw [va_up_ne _ _ e]; exact h.low w
theorem cz_sV {v x : Nat} (hZ : cOk G m S A h Z) (hv : ¬ Z.V v = 0) (hx : x % 2 = 1) (hx2 : x < 256) {c : kx_C} (hc : vO v (Z.ad (rVal v)) x = c) : cOk G m S A (kx_set h (Z.ad (rVer v)) c) (Z.sV v x) := by
  have hp : pic G (Z.sV v x) (rVer v) = c := by
    rw [← hc]
    show vO v (Z.ad (rVal v)) (va_up Z.V v x v) = _
    rw [va_up_self]
  rw [← hp]
  exact cz_set (ρ := rVer v) hZ hv rfl (fun σ h => (lv_sV hv hx σ).mp h) (fun σ _ hne => pic_sV hv hx σ hne) (wf_sV hv hx hx2 hZ.wf)
theorem vrF_dr {q w : Nat} (hw : 1 ≤ w ∧ w ≤ 40) : vrF (Z.sV (40 * q + (w - 1)) 0) q = va_up (vrF Z q) w none := by
  funext y
  show (if 1 ≤ y ∧ y ≤ 40 ∧ ¬ va_up Z.V (40 * q + (w - 1)) 0 (40 * q + (y - 1)) = 0 then some (Z.ad (rVer (40 * q + (y - 1)))) else none) = _
  by_cases e : y = w
  · rw [e, va_up_self, va_up_self, if_neg (fun z => z.2.2 rfl)]
  · rw [va_up_ne _ _ e]
    unfold vrF
    by_cases e2 : 1 ≤ y
    · rw [va_up_ne _ _ (by omega)]
    · rw [if_neg (fun z => e2 z.1), if_neg (fun z => e2 z.1)]
theorem cz_drop {q w : Nat} (hZ : cOk G m S A h Z) (hq : lvZ Z (rByw q)) (hw : 1 ≤ w ∧ w ≤ 40) {c : kx_C} (hc : kQa 5 41 (va_up (vrF Z q) w none) = c) : cOk G m S A (kx_set h (Z.ad (rByw q)) c) (Z.sV (40 * q + (w - 1)) 0) := by
  have hp : pic G (Z.sV (40 * q + (w - 1)) 0) (rByw q) = c := by
    rw [← hc, pic_17, vrF_dr hw]
  have hV : ∀ y, ¬ va_up Z.V (40 * q + (w - 1)) 0 y = 0 → ¬ Z.V y = 0 ∧ y ≠ 40 * q + (w - 1) := fun y hy => by
    by_cases e : y = 40 * q + (w - 1)
    · rw [e, va_up_self] at hy; exact absurd rfl hy
    · rw [va_up_ne _ _ e] at hy; exact ⟨hy, e⟩
  have hl : ∀ σ, lvZ (Z.sV (40 * q + (w - 1)) 0) σ → lvZ Z σ := fun σ hσ => by
    obtain ⟨t, i⟩ := σ
    by_cases e1 : t = 18
    · subst e1; exact (hV i hσ).1
    · by_cases e2 : t = 19
      · subst e2; exact (hV i hσ).1
      · exact (lvT_V e1 e2).mp hσ
  rw [← hp]
  refine cz_set (ρ := rByw q) hZ hq rfl hl (fun σ hσ hne => ?_) ?_
  · obtain ⟨t, i⟩ := σ
    by_cases e1 : t = 17
    · subst e1
      have hq1 : i ≠ q := fun z => hne (by rw [z])
      show pic G _ (rByw i) = pic G Z (rByw i)
      rw [pic_17, pic_17]
      have : vrF (Z.sV (40 * q + (w - 1)) 0) i = vrF Z i := by
        funext y
        show (if 1 ≤ y ∧ y ≤ 40 ∧ ¬ va_up Z.V (40 * q + (w - 1)) 0 (40 * i + (y - 1)) = 0 then some (Z.ad (rVer (40 * i + (y - 1)))) else none) = _
        unfold vrF
        by_cases e2 : 1 ≤ y ∧ y ≤ 40
        · rw [va_up_ne _ _ (by omega)]
        · rw [if_neg (fun z => e2 ⟨z.1, z.2.1⟩), if_neg (fun z => e2 ⟨z.1, z.2.1⟩)]
      rw [this]
    · by_cases e2 : t = 18
      · subst e2
        show vO i (Z.ad (rVal i)) (va_up Z.V (40 * q + (w - 1)) 0 i) = vO i (Z.ad (rVal i)) (Z.V i)
        rw [va_up_ne _ _ (hV i hσ).2]
      · exact picT_V e1 e2
  · have h := hZ.wf
    exact ⟨fun y => (by
        show va_up Z.V _ 0 y = 0 ∨ va_up Z.V _ 0 y % 2 = 1
        by_cases e : y = 40 * q + (w - 1)
        · rw [e, va_up_self]; exact Or.inl rfl
        · rw [va_up_ne _ _ e]; exact h.odd y), fun y => (by
        show va_up Z.V _ 0 y < 256
        by_cases e : y = 40 * q + (w - 1)
        · rw [e, va_up_self]; omega
        · rw [va_up_ne _ _ e]; exact h.low y), fun y hy => h.inn y (hV y hy).1, h.p0, h.fi, h.tb, h.pl, h.stc⟩
/-- addresses changed at one role -/
def cZ.nV (Z : cZ) (v x a1 a2 : Nat) (f : Nat → Int32) : cZ := (fun σ => if σ = rVer v then a1 else if σ = rVal v then a2 else Z.ad σ, Z.sc, fun σ => if σ = rVal v then f else Z.ia σ, Z.tb, va_up Z.V v x, Z.pl, Z.st, Z.fi)
theorem ad_nV {v x a1 a2 : Nat} {f : Nat → Int32} {σ : cR} (h1 : σ ≠ rVer v) (h2 : σ ≠ rVal v) : (Z.nV v x a1 a2 f).ad σ = Z.ad σ := by
  simp only [cZ.nV, cZ.ad, if_neg h1, if_neg h2]
/-- what a role holds, by what it reads -/
theorem picT_ad {ad ad' : cR → Nat} {s f : Nat → Int32} {tb : Nat → Bool} {V : Nat → Nat} {pl : Nat → Bool} {st : Nat → Nat} {fi t i : Nat} (g : ∀ a b, a ≠ 18 → a ≠ 19 → ad' (a, b) = ad (a, b)) (x17 : ¬ t = 17) (x18 : ¬ t = 18) : picT G ad' s f tb V pl st fi t i = picT G ad s f tb V pl st fi t i := by
  simp only [picT, if_neg x17, if_neg x18, g 1 _ (by decide) (by decide), g 2 _ (by decide) (by decide), g 3 _ (by decide) (by decide), g 4 _ (by decide) (by decide), g 5 _ (by decide) (by decide), g 6 _ (by decide) (by decide), g 7 _ (by decide) (by decide), g 8 _ (by decide) (by decide), g 9 _ (by decide) (by decide), g 10 _ (by decide) (by decide), g 11 _ (by decide) (by decide), g 12 _ (by decide) (by decide), g 13 _ (by decide) (by decide), g 14 _ (by decide) (by decide), g 15 _ (by decide) (by decide), g 16 _ (by decide) (by decide), g 17 _ (by decide) (by decide)]
theorem picT_adP {ad ad' : cR → Nat} {s f : Nat → Int32} {tb : Nat → Bool} {V : Nat → Nat} {pl : Nat → Bool} {st : Nat → Nat} {fi t i : Nat} (g : ∀ a b, a ≠ 7 → a ≠ 8 → a ≠ 9 → ad' (a, b) = ad (a, b)) (x0 : ¬ t = 0) (x5 : ¬ t = 5) (x7 : ¬ t = 7) : picT G ad' s f tb V pl st fi t i = picT G ad s f tb V pl st fi t i := by
  simp only [picT, if_neg x0, if_neg x5, if_neg x7, g 1 _ (by decide) (by decide) (by decide), g 2 _ (by decide) (by decide) (by decide), g 3 _ (by decide) (by decide) (by decide), g 4 _ (by decide) (by decide) (by decide), g 5 _ (by decide) (by decide) (by decide), g 6 _ (by decide) (by decide) (by decide), g 10 _ (by decide) (by decide) (by decide), g 11 _ (by decide) (by decide) (by decide), g 12 _ (by decide) (by decide) (by decide), g 13 _ (by decide) (by decide) (by decide), g 14 _ (by decide) (by decide) (by decide), g 15 _ (by decide) (by decide) (by decide), g 16 _ (by decide) (by decide) (by decide), g 17 _ (by decide) (by decide) (by decide), g 18 _ (by decide) (by decide) (by decide), g 19 _ (by decide) (by decide) (by decide)]
theorem picT_adT {ad ad' : cR → Nat} {s f : Nat → Int32} {tb : Nat → Bool} {V : Nat → Nat} {pl : Nat → Bool} {st : Nat → Nat} {fi t i : Nat} (g : ∀ a b, a ≠ 14 → a ≠ 15 → a ≠ 16 → a ≠ 17 → ad' (a, b) = ad (a, b)) (x1 : ¬ t = 1) (x14 : ¬ t = 14) (x15 : ¬ t = 15) (x16 : ¬ t = 16) : picT G ad' s f tb V pl st fi t i = picT G ad s f tb V pl st fi t i := by
  simp only [picT, if_neg x1, if_neg x14, if_neg x15, if_neg x16, g 1 _ (by decide) (by decide) (by decide) (by decide), g 2 _ (by decide) (by decide) (by decide) (by decide), g 3 _ (by decide) (by decide) (by decide) (by decide), g 4 _ (by decide) (by decide) (by decide) (by decide), g 5 _ (by decide) (by decide) (by decide) (by decide), g 6 _ (by decide) (by decide) (by decide) (by decide), g 7 _ (by decide) (by decide) (by decide) (by decide), g 8 _ (by decide) (by decide) (by decide) (by decide), g 9 _ (by decide) (by decide) (by decide) (by decide), g 10 _ (by decide) (by decide) (by decide) (by decide), g 11 _ (by decide) (by decide) (by decide) (by decide), g 12 _ (by decide) (by decide) (by decide) (by decide), g 13 _ (by decide) (by decide) (by decide) (by decide), g 18 _ (by decide) (by decide) (by decide) (by decide), g 19 _ (by decide) (by decide) (by decide) (by decide)]
theorem cz_nV {q w x a1 a2 : Nat} {f : Nat → Int32} (hZ : cOk G m S A h Z) (hq : lvZ Z (rByw q)) (hw : 1 ≤ w ∧ w ≤ 40) (hv : Z.V (40 * q + (w - 1)) = 0) (hx : x % 2 = 1) (hx2 : x < 256) (i1 : kx_is G h a1 (.inr (7, [.int (nI w), .ref a2, .int (nI (x / 4)), .int (nI (x / 2 % 2))]))) (i2 : kx_is G h a2 (kIa 4 f))
    (f1 : (∀ τ, lvZ Z τ → Z.ad τ ≠ a1) ∧ ¬ (m ≤ a1 ∧ a1 ≤ m + 20)) (f2 : (∀ τ, lvZ Z τ → Z.ad τ ≠ a2) ∧ ¬ (m ≤ a2 ∧ a2 ≤ m + 20)) (hne : a1 ≠ a2) {c : kx_C} (hc : kQa 5 41 (va_up (vrF Z q) w (some a1)) = c) : cOk G m S A (kx_set h (Z.ad (rByw q)) c) (Z.nV (40 * q + (w - 1)) x a1 a2 f) := by
  have hq1 : q < 72 := hq.1
  have hq2 : Z.tb (q / 24) = true := hq.2
  generalize hV : 40 * q + (w - 1) = v at *
  have hv40 : v % 40 + 1 = w ∧ v / 40 = q ∧ v < 2880 ∧ v / 960 = q / 24 := by omega
  have e1 : (Z.nV v x a1 a2 f).ad (rVer v) = a1 := if_pos rfl
  have e2 : (Z.nV v x a1 a2 f).ad (rVal v) = a2 := by simp [cZ.nV, cZ.ad]
  have hVy : ∀ y, y ≠ v → (Z.nV v x a1 a2 f).V y = Z.V y := fun y hy => va_up_ne _ _ hy
  have hadg : ∀ a b, a ≠ 18 → a ≠ 19 → (Z.nV v x a1 a2 f).ad (a, b) = Z.ad (a, b) := fun a b z1 z2 => ad_nV (fun e => z1 (congrArg Prod.fst e)) (fun e => z2 (congrArg Prod.fst e))
  refine cz_link (ρ := rByw q) (N := fun σ => σ = rVer v ∨ σ = rVal v) hZ hq (fun z => z.elim (fun e => absurd (congrArg Prod.fst e) (by show ¬ ((17 : Nat) = 18); decide)) (fun e => absurd (congrArg Prod.fst e) (by show ¬ ((17 : Nat) = 19); decide))) (fun σ hσ hn => ?_) (fun σ hσ hn => ?_) (fun σ hσ hn hne => ?_) (fun σ hn => ?_) (fun σ τ h1 h2 h3 => ?_) ?_ ?_
  · obtain ⟨t, i⟩ := σ
    by_cases y1 : t = 18
    · subst y1; exact fun z => hσ (by show (Z.nV v x a1 a2 f).V i = 0; rw [hVy i (fun e => hn (Or.inl (by rw [e])))]; exact z)
    · by_cases y2 : t = 19
      · subst y2; exact fun z => hσ (by show (Z.nV v x a1 a2 f).V i = 0; rw [hVy i (fun e => hn (Or.inr (by rw [e])))]; exact z)
      · have hh : lvT (Z.sV v x) t i := by
          have : lvT (Z.nV v x a1 a2 f) t i := hσ
          simp only [lvT, if_neg y1, if_neg y2] at this ⊢
          exact this
        exact (lvT_V y1 y2).mp hh
  · exact ad_nV (fun z => hn (Or.inl z)) (fun z => hn (Or.inr z))
  · obtain ⟨t, i⟩ := σ
    by_cases y1 : t = 17
    · subst y1
      have hi : i ≠ q := fun z => hne (by rw [z])
      show pic G (Z.nV v x a1 a2 f) (rByw i) = pic G Z (rByw i)
      rw [pic_17, pic_17]
      have : vrF (Z.nV v x a1 a2 f) i = vrF Z i := by
        funext y
        unfold vrF
        by_cases ey : 1 ≤ y ∧ y ≤ 40
        · have hy : 40 * i + (y - 1) ≠ v := by omega
          rw [hVy _ hy, ad_nV (fun z => hy (congrArg Prod.snd z)) (fun z => absurd (congrArg Prod.fst z) (by show ¬ (18 = 19); decide))]
        · rw [if_neg (fun z => ey ⟨z.1, z.2.1⟩), if_neg (fun z => ey ⟨z.1, z.2.1⟩)]
      rw [this]
    · by_cases y2 : t = 18
      · subst y2
        have hy : i ≠ v := fun z => hn (Or.inl (by rw [z]))
        show vO i ((Z.nV v x a1 a2 f).ad (rVal i)) ((Z.nV v x a1 a2 f).V i) = vO i (Z.ad (rVal i)) (Z.V i)
        rw [hVy i hy, ad_nV (fun z => absurd (congrArg Prod.fst z) (by show ¬ (19 = 18); decide)) (fun z => hy (congrArg Prod.snd z))]
      · have hia : (Z.nV v x a1 a2 f).ia (t, i) = Z.ia (t, i) := if_neg (fun z => hn (Or.inr z))
        show picT G (Z.nV v x a1 a2 f).ad (Z.sc (t, i)) ((Z.nV v x a1 a2 f).ia (t, i)) Z.tb (va_up Z.V v x) Z.pl Z.st Z.fi t i = picT G Z.ad (Z.sc (t, i)) (Z.ia (t, i)) Z.tb Z.V Z.pl Z.st Z.fi t i
        rw [hia, picT_V (V' := Z.V) y1 y2, picT_ad hadg y1 y2]
  · rcases hn with rfl | rfl
    · rw [e1]
      refine ⟨?_, f1⟩
      show kx_is G h a1 (vO v ((Z.nV v x a1 a2 f).ad (rVal v)) (va_up Z.V v x v))
      rw [e2, va_up_self]; unfold vO; rw [hv40.1]; exact i1
    · rw [e2]
      refine ⟨?_, f2⟩
      have : (Z.nV v x a1 a2 f).ia (rVal v) = f := if_pos rfl
      show kx_is G h a2 (kIa 4 ((Z.nV v x a1 a2 f).ia (rVal v)))
      rw [this]; exact i2
  · rcases h1 with rfl | rfl <;> rcases h2 with rfl | rfl
    · rfl
    · rw [e1, e2] at h3; exact absurd h3 hne
    · rw [e1, e2] at h3; exact absurd h3.symm hne
    · rfl
  · have hz := hZ.wf
    refine ⟨fun y => ?_, fun y => ?_, fun y hy => ?_, hz.p0, hz.fi, hz.tb, hz.pl, hz.stc⟩
    · show va_up Z.V v x y = 0 ∨ va_up Z.V v x y % 2 = 1
      by_cases e : y = v
      · rw [e, va_up_self]; exact Or.inr hx
      · rw [va_up_ne _ _ e]; exact hz.odd y
    · show va_up Z.V v x y < 256
      by_cases e : y = v
      · rw [e, va_up_self]; exact hx2
      · rw [va_up_ne _ _ e]; exact hz.low y
    · by_cases e : y = v
      · rw [e]; exact ⟨hv40.2.2.1, by show Z.tb (v / 960) = true; rw [hv40.2.2.2]; exact hq2⟩
      · rw [hVy y e] at hy; exact hz.inn y hy
  · have : vrF (Z.nV v x a1 a2 f) q = va_up (vrF Z q) w (some a1) := by
      funext y
      unfold vrF
      by_cases e : y = w
      · rw [e, va_up_self, hV, show (Z.nV v x a1 a2 f).V v = x from va_up_self _ _ _, if_pos ⟨hw.1, hw.2, by omega⟩, e1]
      · rw [va_up_ne _ _ e]
        by_cases ey : 1 ≤ y ∧ y ≤ 40
        · have hy : 40 * q + (y - 1) ≠ v := by omega
          rw [hVy _ hy, ad_nV (fun z => hy (congrArg Prod.snd z)) (fun z => absurd (congrArg Prod.fst z) (by show ¬ (18 = 19); decide))]
        · rw [if_neg (fun z => ey ⟨z.1, z.2.1⟩), if_neg (fun z => ey ⟨z.1, z.2.1⟩)]
    rw [← hc, pic_17, this]
/-! states of transactions -/
def cZ.sT (Z : cZ) (t x : Nat) : cZ := (Z.ad, Z.sc, Z.ia, Z.tb, Z.V, Z.pl, va_up Z.st t x, Z.fi)
theorem cz_sT {t x : Nat} (hZ : cOk G m S A h Z) (hx : x < 4) {c : kx_C} (hc : kQa 2 41 (va_up (fun t => eSt G (Z.st t)) t (eSt G x)) = c) : cOk G m S A (kx_set h (Z.ad rSts) c) (Z.sT t x) := by
  have hp : pic G (Z.sT t x) rSts = c := by
    rw [← hc]
    have : (fun u => eSt G (va_up Z.st t x u)) = va_up (fun t => eSt G (Z.st t)) t (eSt G x) := by
      funext u
      simp only [va_up]
      split <;> rfl
    show kQa 2 41 (fun u => eSt G (va_up Z.st t x u)) = _
    rw [this]
  rw [← hp]
  refine cz_set (ρ := rSts) hZ rfl rfl (fun σ h => h) (fun σ hσ hne => ?_) ?_
  · obtain ⟨u, i⟩ := σ
    have hu : ¬ u = 3 := fun z => by
      subst z
      exact hne (by rw [show i = 0 from hσ])
    show picT G Z.ad (Z.sc (u, i)) (Z.ia (u, i)) Z.tb Z.V Z.pl (va_up Z.st t x) Z.fi u i = picT G Z.ad (Z.sc (u, i)) (Z.ia (u, i)) Z.tb Z.V Z.pl Z.st Z.fi u i
    simp only [picT, if_neg hu]
  · have h := hZ.wf
    refine ⟨h.odd, h.low, h.inn, h.p0, h.fi, h.tb, h.pl, fun u => ?_⟩
    show va_up Z.st t x u < 4
    by_cases e : u = t
    · rw [e, va_up_self]; exact hx
    · rw [va_up_ne _ _ e]; exact h.stc u
/-! the two sets of rows change their places -/
def cZ.sF (Z : cZ) : cZ := (Z.ad, Z.sc, Z.ia, Z.tb, Z.V, Z.pl, Z.st, 1 - Z.fi)
theorem cz_sF (hZ : cOk G m S A h Z) {c : kx_C} (hc : pic G Z.sF rV = c) : cOk G m S A (kx_set h (Z.ad rV) c) Z.sF := by
  rw [← hc]
  refine cz_set (ρ := rV) hZ rfl rfl (fun σ h => h) (fun σ hσ hne => ?_) ?_
  · obtain ⟨u, i⟩ := σ
    have hu : ¬ u = 0 := fun z => by
      subst z
      exact hne (by rw [show i = 0 from hσ])
    show picT G Z.ad (Z.sc (u, i)) (Z.ia (u, i)) Z.tb Z.V Z.pl Z.st (1 - Z.fi) u i = picT G Z.ad (Z.sc (u, i)) (Z.ia (u, i)) Z.tb Z.V Z.pl Z.st Z.fi u i
    simp only [picT, if_neg hu]
  · have h := hZ.wf
    exact ⟨h.odd, h.low, h.inn, h.p0, by show 1 - Z.fi < 2; omega, h.tb, h.pl, h.stc⟩
/-! settings cleared -/
def cZ.sP (Z : cZ) (i : Nat) : cZ := (Z.ad, Z.sc, Z.ia, Z.tb, Z.V, va_up Z.pl i false, Z.st, Z.fi)
theorem cz_sP {c0 : Nat} (hZ : cOk G m S A h Z) {c : kx_C} (hc : kQa 3 4 (va_up (plF Z) c0 none) = c) : cOk G m S A (kx_set h (Z.ad rSta) c) (Z.sP (c0 + 1)) := by
  have hpl : ∀ i, (Z.sP (c0 + 1)).pl i = true → Z.pl i = true := fun i hi => by
    have : va_up Z.pl (c0 + 1) false i = true := hi
    by_cases e : i = c0 + 1
    · rw [e, va_up_self] at this; cases this
    · rw [va_up_ne _ _ e] at this; exact this
  have hp : pic G (Z.sP (c0 + 1)) rSta = c := by
    rw [← hc]
    have : plF (Z.sP (c0 + 1)) = va_up (plF Z) c0 none := by
      funext y
      show (if va_up Z.pl (c0 + 1) false (y + 1) = true then some (Z.ad (rPrg (y + 1))) else none) = _
      by_cases e : y = c0
      · rw [e, va_up_self, va_up_self]; rfl
      · rw [va_up_ne _ _ (by omega), va_up_ne _ _ e]; rfl
    show kQa 3 4 (plF (Z.sP (c0 + 1))) = _
    rw [this]
  rw [← hp]
  refine cz_set (ρ := rSta) hZ rfl rfl (fun σ h => ?_) (fun σ hσ hne => ?_) ?_
  · obtain ⟨u, i⟩ := σ
    by_cases y1 : u = 7
    · subst y1; exact ⟨h.1, hpl i h.2⟩
    · by_cases y2 : u = 8
      · subst y2; exact ⟨h.1, hpl i h.2⟩
      · by_cases y3 : u = 9
        · subst y3; exact ⟨h.1, hpl i h.2⟩
        · have h2 : lvT (Z.sP (c0 + 1)) u i := h
          show lvT Z u i
          simp only [lvT, if_neg y1, if_neg y2, if_neg y3] at h2 ⊢
          exact h2
  · obtain ⟨u, i⟩ := σ
    have hu : ¬ u = 5 := fun z => by
      subst z
      exact hne (by rw [show i = 0 from hσ])
    show picT G Z.ad (Z.sc (u, i)) (Z.ia (u, i)) Z.tb Z.V (va_up Z.pl (c0 + 1) false) Z.st Z.fi u i = picT G Z.ad (Z.sc (u, i)) (Z.ia (u, i)) Z.tb Z.V Z.pl Z.st Z.fi u i
    simp only [picT, if_neg hu]
  · have h := hZ.wf
    exact ⟨h.odd, h.low, h.inn, by show va_up Z.pl (c0 + 1) false 0 = true; rw [va_up_ne _ _ (by omega)]; exact h.p0, h.fi, h.tb, fun i hi => h.pl i (hpl i hi), h.stc⟩
/-! a program is put into its place -/
def cZ.nP (Z : cZ) (i p s k : Nat) (n : Int32) (F K : Nat → Int32) : cZ := (fun σ => if σ = rPrg i then p else if σ = rStp i then s else if σ = rStk i then k else Z.ad σ, fun σ j => if σ = rPrg i then (if j = 2 then n else 0) else Z.sc σ j, fun σ => if σ = rStp i then F else if σ = rStk i then K else Z.ia σ, Z.tb, Z.V, va_up Z.pl i true, Z.st, Z.fi)
theorem ad_nP {i p s k : Nat} {n : Int32} {F K : Nat → Int32} {σ : cR} (h1 : σ ≠ rPrg i) (h2 : σ ≠ rStp i) (h3 : σ ≠ rStk i) : (Z.nP i p s k n F K).ad σ = Z.ad σ := by
  simp only [cZ.nP, cZ.ad, if_neg h1, if_neg h2, if_neg h3]
theorem cz_nP {i p s k : Nat} {n : Int32} {F K : Nat → Int32} (hZ : cOk G m S A h Z) (hi : i < 5) (i1 : kx_is G h p (pO s k n 0)) (i2 : kx_is G h s (kIa 40 F)) (i3 : kx_is G h k (kIa 40 K)) (f1 : (∀ τ, lvZ Z τ → Z.ad τ ≠ p) ∧ ¬ (m ≤ p ∧ p ≤ m + 20)) (f2 : (∀ τ, lvZ Z τ → Z.ad τ ≠ s) ∧ ¬ (m ≤ s ∧ s ≤ m + 20)) (f3 : (∀ τ, lvZ Z τ → Z.ad τ ≠ k) ∧ ¬ (m ≤ k ∧ k ≤ m + 20)) (n1 : p ≠ s) (n2 : p ≠ k) (n3 : s ≠ k)
    {c : kx_C} (hρ : ρ = if i = 0 then rV else rSta) (hc : pic G (Z.nP i p s k n F K) ρ = c) : cOk G m S A (kx_set h (Z.ad ρ) c) (Z.nP i p s k n F K) := by
  have e1 : (Z.nP i p s k n F K).ad (rPrg i) = p := if_pos rfl
  have e2 : (Z.nP i p s k n F K).ad (rStp i) = s := by simp [cZ.nP, cZ.ad]
  have e3 : (Z.nP i p s k n F K).ad (rStk i) = k := by simp [cZ.nP, cZ.ad]
  have hpl : ∀ j, j ≠ i → (Z.nP i p s k n F K).pl j = Z.pl j := fun j hj => va_up_ne _ _ hj
  have hρ2 : ρ = rV ∨ ρ = rSta := by
    by_cases e : i = 0
    · rw [if_pos e] at hρ; exact Or.inl hρ
    · rw [if_neg e] at hρ; exact Or.inr hρ
  have hadg : ∀ a b, a ≠ 7 → a ≠ 8 → a ≠ 9 → (Z.nP i p s k n F K).ad (a, b) = Z.ad (a, b) := fun a b z1 z2 z3 => ad_nP (fun e => z1 (congrArg Prod.fst e)) (fun e => z2 (congrArg Prod.fst e)) (fun e => z3 (congrArg Prod.fst e))
  refine cz_link (ρ := ρ) (N := fun σ => σ = rPrg i ∨ σ = rStp i ∨ σ = rStk i) hZ (by rcases hρ2 with z | z <;> (rw [z]; exact rfl)) (fun z => ?_) (fun σ hσ hn => ?_) (fun σ hσ hn => ?_) (fun σ hσ hn hne => ?_) (fun σ hn => ?_) (fun σ τ h1 h2 h3 => ?_) ?_ hc
  · have h0 : ρ.1 = 0 ∨ ρ.1 = 5 := by rcases hρ2 with y | y <;> (rw [y]; simp)
    have h7 : ρ.1 = 7 ∨ ρ.1 = 8 ∨ ρ.1 = 9 := by rcases z with y | y | y <;> (rw [y]; simp)
    omega
  · obtain ⟨t, j⟩ := σ
    by_cases y1 : t = 7
    · subst y1; exact ⟨hσ.1, by rw [← hpl j (fun e => hn (Or.inl (by rw [e])))]; exact hσ.2⟩
    · by_cases y2 : t = 8
      · subst y2; exact ⟨hσ.1, by rw [← hpl j (fun e => hn (Or.inr (Or.inl (by rw [e]))))]; exact hσ.2⟩
      · by_cases y3 : t = 9
        · subst y3; exact ⟨hσ.1, by rw [← hpl j (fun e => hn (Or.inr (Or.inr (by rw [e]))))]; exact hσ.2⟩
        · have h2 : lvT (Z.nP i p s k n F K) t j := hσ
          show lvT Z t j
          simp only [lvT, if_neg y1, if_neg y2, if_neg y3] at h2 ⊢
          exact h2
  · exact ad_nP (fun z => hn (Or.inl z)) (fun z => hn (Or.inr (Or.inl z))) (fun z => hn (Or.inr (Or.inr z)))
  · obtain ⟨t, j⟩ := σ
    by_cases y7 : t = 7
    · subst y7
      have hj : j ≠ i := fun z => hn (Or.inl (by rw [z]))
      have q1 : (Z.nP i p s k n F K).ad (rStp j) = Z.ad (rStp j) := ad_nP (fun z => absurd (congrArg Prod.fst z) (by show ¬ ((8 : Nat) = 7); decide)) (fun z => hj (congrArg Prod.snd z)) (fun z => absurd (congrArg Prod.fst z) (by show ¬ ((8 : Nat) = 9); decide))
      have q2 : (Z.nP i p s k n F K).ad (rStk j) = Z.ad (rStk j) := ad_nP (fun z => absurd (congrArg Prod.fst z) (by show ¬ ((9 : Nat) = 7); decide)) (fun z => absurd (congrArg Prod.fst z) (by show ¬ ((9 : Nat) = 8); decide)) (fun z => hj (congrArg Prod.snd z))
      have q3 : (Z.nP i p s k n F K).sc (rPrg j) = Z.sc (rPrg j) := by
        funext y; exact if_neg (fun z => hj (congrArg Prod.snd z))
      show pO ((Z.nP i p s k n F K).ad (rStp j)) ((Z.nP i p s k n F K).ad (rStk j)) ((Z.nP i p s k n F K).sc (rPrg j) 2) ((Z.nP i p s k n F K).sc (rPrg j) 3) = pO (Z.ad (rStp j)) (Z.ad (rStk j)) (Z.sc (rPrg j) 2) (Z.sc (rPrg j) 3)
      rw [q1, q2, q3]
    · have q3 : (Z.nP i p s k n F K).sc (t, j) = Z.sc (t, j) := by
        funext y; exact if_neg (fun z => y7 (congrArg Prod.fst z))
      have q4 : (Z.nP i p s k n F K).ia (t, j) = Z.ia (t, j) := by
        show (if (t, j) = rStp i then F else if (t, j) = rStk i then K else Z.ia (t, j)) = _
        rw [if_neg (fun z => hn (Or.inr (Or.inl z))), if_neg (fun z => hn (Or.inr (Or.inr z)))]
      by_cases y5 : t = 5
      · subst y5
        have hj0 : j = 0 := hσ
        subst hj0
        have hi0 : i = 0 := Classical.byContradiction fun z => by rw [if_neg z] at hρ; exact hne hρ.symm
        have : plF (Z.nP i p s k n F K) = plF Z := by
          funext y
          unfold plF
          rw [hpl (y + 1) (by omega), ad_nP (fun z => absurd (congrArg Prod.snd z) (by show ¬ (y + 1 = i); omega)) (fun z => absurd (congrArg Prod.fst z) (by show ¬ ((7 : Nat) = 8); decide)) (fun z => absurd (congrArg Prod.fst z) (by show ¬ ((7 : Nat) = 9); decide))]
        show kQa 3 4 (plF (Z.nP i p s k n F K)) = kQa 3 4 (plF Z)
        rw [this]
      · by_cases y0 : t = 0
        · subst y0
          have hj0 : j = 0 := hσ
          subst hj0
          have hi0 : i ≠ 0 := fun z => by rw [if_pos z] at hρ; exact hne hρ.symm
          have q5 : (Z.nP i p s k n F K).ad (rPrg 0) = Z.ad (rPrg 0) := ad_nP (fun z => absurd (congrArg Prod.snd z) (by show ¬ (0 = i); omega)) (fun z => absurd (congrArg Prod.fst z) (by show ¬ ((7 : Nat) = 8); decide)) (fun z => absurd (congrArg Prod.fst z) (by show ¬ ((7 : Nat) = 9); decide))
          show Sum.inr (0, [Value.ref ((Z.nP i p s k n F K).ad rTbs), .ref ((Z.nP i p s k n F K).ad rTr), .ref ((Z.nP i p s k n F K).ad rLin), .int ((Z.nP i p s k n F K).sc rV 3), .int ((Z.nP i p s k n F K).sc rV 4), .ref ((Z.nP i p s k n F K).ad (rPrg 0)), .ref ((Z.nP i p s k n F K).ad rSta), .ref ((Z.nP i p s k n F K).ad (rRs Z.fi)), .ref ((Z.nP i p s k n F K).ad (rRs (1 - Z.fi))), .ref ((Z.nP i p s k n F K).ad rOld)]) = pic G Z rV
          rw [q5, q3]
          simp only [hadg 1 _ (by decide) (by decide) (by decide), hadg 2 _ (by decide) (by decide) (by decide), hadg 4 _ (by decide) (by decide) (by decide), hadg 5 _ (by decide) (by decide) (by decide), hadg 6 _ (by decide) (by decide) (by decide), hadg 10 _ (by decide) (by decide) (by decide)]
          rfl
        · have q6 : ∀ y, picT G Z.ad (Z.sc (t, j)) (Z.ia (t, j)) Z.tb Z.V (va_up Z.pl i true) Z.st Z.fi t y = picT G Z.ad (Z.sc (t, j)) (Z.ia (t, j)) Z.tb Z.V Z.pl Z.st Z.fi t y := fun y => by simp only [picT, if_neg y5]
          show picT G (Z.nP i p s k n F K).ad ((Z.nP i p s k n F K).sc (t, j)) ((Z.nP i p s k n F K).ia (t, j)) Z.tb Z.V (va_up Z.pl i true) Z.st Z.fi t j = picT G Z.ad (Z.sc (t, j)) (Z.ia (t, j)) Z.tb Z.V Z.pl Z.st Z.fi t j
          rw [q3, q4, picT_adP hadg y0 y5 y7, q6]
  · rcases hn with rfl | rfl | rfl
    · rw [e1]
      refine ⟨?_, f1⟩
      have : pic G (Z.nP i p s k n F K) (rPrg i) = pO ((Z.nP i p s k n F K).ad (rStp i)) ((Z.nP i p s k n F K).ad (rStk i)) ((Z.nP i p s k n F K).sc (rPrg i) 2) ((Z.nP i p s k n F K).sc (rPrg i) 3) := rfl
      rw [this, e2, e3, show (Z.nP i p s k n F K).sc (rPrg i) 2 = n from by simp [cZ.nP, cZ.sc], show (Z.nP i p s k n F K).sc (rPrg i) 3 = 0 from by simp [cZ.nP, cZ.sc]]; exact i1
    · rw [e2]
      refine ⟨?_, f2⟩
      have : pic G (Z.nP i p s k n F K) (rStp i) = kIa 40 ((Z.nP i p s k n F K).ia (rStp i)) := rfl
      rw [this, show (Z.nP i p s k n F K).ia (rStp i) = F from by simp [cZ.nP, cZ.ia]]; exact i2
    · rw [e3]
      refine ⟨?_, f3⟩
      have : pic G (Z.nP i p s k n F K) (rStk i) = kIa 40 ((Z.nP i p s k n F K).ia (rStk i)) := rfl
      rw [this, show (Z.nP i p s k n F K).ia (rStk i) = K from by simp [cZ.nP, cZ.ia]]; exact i3
  · rcases h1 with rfl | rfl | rfl <;> rcases h2 with rfl | rfl | rfl
    · rfl
    · rw [e1, e2] at h3; exact absurd h3 n1
    · rw [e1, e3] at h3; exact absurd h3 n2
    · rw [e1, e2] at h3; exact absurd h3.symm n1
    · rfl
    · rw [e2, e3] at h3; exact absurd h3 n3
    · rw [e1, e3] at h3; exact absurd h3.symm n2
    · rw [e2, e3] at h3; exact absurd h3.symm n3
    · rfl
  · have hz := hZ.wf
    refine ⟨hz.odd, hz.low, hz.inn, ?_, hz.fi, hz.tb, fun j hj => ?_, hz.stc⟩
    · by_cases e : i = 0
      · rw [e]; show va_up Z.pl 0 true 0 = true; exact va_up_self _ _ _
      · rw [hpl 0 (fun z => e z.symm)]; exact hz.p0
    · by_cases e : j = i
      · rw [e]; exact hi
      · rw [hpl j e] at hj; exact hz.pl j hj
end KZ2
