/-! ===== the class's objects: made, dropped, put in their places ===== -/
section KZ2
variable {G : kx_G} {m : Nat} {S : Nat → Int32} {A : Nat → Nat → Int32} {h h' : kx_H} {Z Z' : cZ} {ρ : cR}
theorem cz_link {N : cR → Prop} (hZ : cOk G m S A h Z) (hl : lvZ Z ρ) (hρ : ¬ N ρ) (hlv : ∀ σ, lvZ Z' σ → ¬ N σ → lvZ Z σ) (hold : ∀ σ, lvZ Z σ → ¬ N σ → Z'.ad σ = Z.ad σ) (hpc : ∀ σ, lvZ Z' σ → ¬ N σ → σ ≠ ρ → pic G Z' σ = pic G Z σ)
    (hN : ∀ σ, N σ → kx_is G h (Z'.ad σ) (pic G Z' σ) ∧ (∀ τ, lvZ Z τ → Z.ad τ ≠ Z'.ad σ) ∧ ¬ (m ≤ Z'.ad σ ∧ Z'.ad σ ≤ m + 18)) (hNi : ∀ σ τ, N σ → N τ → Z'.ad σ = Z'.ad τ → σ = τ) (hw : cWf Z') {c : kx_C} (hc : pic G Z' ρ = c) : cOk G m S A (kx_set h (Z.ad ρ) c) Z' where
  is σ hσ := by
    rw [← hc]
    by_cases n : N σ
    · obtain ⟨h1, h2, h3⟩ := hN σ n
      exact kx_is_ne h1 (fun z => h2 ρ hl z.symm)
    · by_cases e : σ = ρ
      · rw [e, hold ρ hl hρ]; exact kx_is_eq (hZ.is ρ hl)
      · have h1 := hlv σ hσ n
        rw [hold σ h1 n, hpc σ hσ n e]
        exact kx_is_ne (hZ.is σ h1) (fun z => e (hZ.inj σ ρ h1 hl z))
  inj σ τ h1 h2 h3 := by
    by_cases n1 : N σ
    · by_cases n2 : N τ
      · exact hNi σ τ n1 n2 h3
      · rw [hold τ (hlv τ h2 n2) n2] at h3
        exact absurd h3.symm ((hN σ n1).2.1 τ (hlv τ h2 n2))
    · by_cases n2 : N τ
      · rw [hold σ (hlv σ h1 n1) n1] at h3
        exact absurd h3 ((hN τ n2).2.1 σ (hlv σ h1 n1))
      · rw [hold σ (hlv σ h1 n1) n1, hold τ (hlv τ h2 n2) n2] at h3
        exact hZ.inj σ τ (hlv σ h1 n1) (hlv τ h2 n2) h3
  out σ hσ := by
    by_cases n : N σ
    · exact (hN σ n).2.2
    · rw [hold σ (hlv σ hσ n) n]; exact hZ.out σ (hlv σ hσ n)
  b1 := hZ.b1
  b2 := hZ.b2
  blk a h1 h2 := by
    show va_up _ _ _ _ = _
    rw [va_up_ne _ _ (fun z => hZ.out ρ hl (by rw [← z]; exact ⟨h1, h2⟩))]
    exact hZ.blk a h1 h2
  wf := hw
/-! versions -/
def cZ.sV (Z : cZ) (v x : Nat) : cZ := { Z with V := va_up Z.V v x }
theorem V_sV {v x w : Nat} (hv : ¬ Z.V v = 0) (hx : x % 2 = 1) : (va_up Z.V v x w = 0) ↔ Z.V w = 0 := by
  by_cases e : w = v
  · rw [e, va_up_self]; constructor
    · intro z; omega
    · intro z; exact absurd z hv
  · rw [va_up_ne _ _ e]
theorem lv_sV {v x : Nat} (hv : ¬ Z.V v = 0) (hx : x % 2 = 1) (σ : cR) : lvZ (Z.sV v x) σ ↔ lvZ Z σ := by
  cases σ with
  | ver w => exact Iff.intro (fun z y => z ((V_sV hv hx).mpr y)) (fun z y => z ((V_sV hv hx).mp y))
  | val w => exact Iff.intro (fun z y => z ((V_sV hv hx).mpr y)) (fun z y => z ((V_sV hv hx).mp y))
  | _ => exact Iff.rfl
theorem vrF_sV {v x : Nat} (hv : ¬ Z.V v = 0) (hx : x % 2 = 1) (q : Nat) : vrF (Z.sV v x) q = vrF Z q := by
  funext w
  unfold vrF
  have := V_sV (w := 40 * q + (w - 1)) hv hx
  show (if 1 ≤ w ∧ w ≤ 40 ∧ ¬ va_up Z.V v x (40 * q + (w - 1)) = 0 then some (Z.ad (.ver (40 * q + (w - 1)))) else none) = _
  simp only [this]
theorem pic_sV {v x : Nat} (hv : ¬ Z.V v = 0) (hx : x % 2 = 1) (σ : cR) (hne : σ ≠ .ver v) : pic G (Z.sV v x) σ = pic G Z σ := by
  cases σ with
  | byw q => simp only [pic, vrF_sV hv hx]
  | ver w =>
    have e : w ≠ v := fun z => hne (by rw [z])
    show vO w (Z.ad (.val w)) (va_up Z.V v x w) = vO w (Z.ad (.val w)) (Z.V w)
    rw [va_up_ne _ _ e]
  | _ => rfl
theorem wf_sV {v x : Nat} (hv : ¬ Z.V v = 0) (hx : x % 2 = 1) (hx2 : x < 256) (h : cWf Z) : cWf (Z.sV v x) where
  odd w := by
    show va_up Z.V v x w = 0 ∨ va_up Z.V v x w % 2 = 1
    by_cases e : w = v
    · rw [e, va_up_self]; exact Or.inr hx
    · rw [va_up_ne _ _ e]; exact h.odd w
  low w := by
    show va_up Z.V v x w < 256
    by_cases e : w = v
    · rw [e, va_up_self]; exact hx2
    · rw [va_up_ne _ _ e]; exact h.low w
  inn w hw := h.inn w (fun z => hw ((V_sV hv hx).mpr z))
  p0 := h.p0
  fi := h.fi
  tb := h.tb
  pl := h.pl
  stc := h.stc
theorem cz_sV {v x : Nat} (hZ : cOk G m S A h Z) (hv : ¬ Z.V v = 0) (hx : x % 2 = 1) (hx2 : x < 256) {c : kx_C} (hc : vO v (Z.ad (.val v)) x = c) : cOk G m S A (kx_set h (Z.ad (.ver v)) c) (Z.sV v x) := by
  have hp : pic G (Z.sV v x) (.ver v) = c := by
    rw [← hc]
    show vO v (Z.ad (.val v)) (va_up Z.V v x v) = _
    rw [va_up_self]
  rw [← hp]
  exact cz_set (ρ := .ver v) hZ hv rfl (fun σ h => (lv_sV hv hx σ).mp h) (fun σ _ hne => pic_sV hv hx σ hne) (wf_sV hv hx hx2 hZ.wf)
theorem vrF_dr {q w : Nat} (hw : 1 ≤ w ∧ w ≤ 40) : vrF (Z.sV (40 * q + (w - 1)) 0) q = va_up (vrF Z q) w none := by
  funext y
  show (if 1 ≤ y ∧ y ≤ 40 ∧ ¬ va_up Z.V (40 * q + (w - 1)) 0 (40 * q + (y - 1)) = 0 then some (Z.ad (.ver (40 * q + (y - 1)))) else none) = _
  by_cases e : y = w
  · rw [e, va_up_self, va_up_self, if_neg (fun z => z.2.2 rfl)]
  · rw [va_up_ne _ _ e]
    unfold vrF
    by_cases e2 : 1 ≤ y
    · rw [va_up_ne _ _ (by omega)]
    · rw [if_neg (fun z => e2 z.1), if_neg (fun z => e2 z.1)]
theorem cz_drop {q w : Nat} (hZ : cOk G m S A h Z) (hq : lvZ Z (.byw q)) (hw : 1 ≤ w ∧ w ≤ 40) {c : kx_C} (hc : kQa 5 41 (va_up (vrF Z q) w none) = c) : cOk G m S A (kx_set h (Z.ad (.byw q)) c) (Z.sV (40 * q + (w - 1)) 0) := by
  have hp : pic G (Z.sV (40 * q + (w - 1)) 0) (.byw q) = c := by
    rw [← hc]
    show kQa 5 41 (vrF (Z.sV (40 * q + (w - 1)) 0) q) = _
    rw [vrF_dr hw]
  have hV : ∀ y, ¬ va_up Z.V (40 * q + (w - 1)) 0 y = 0 → ¬ Z.V y = 0 ∧ y ≠ 40 * q + (w - 1) := fun y hy => by
    by_cases e : y = 40 * q + (w - 1)
    · rw [e, va_up_self] at hy; exact absurd rfl hy
    · rw [va_up_ne _ _ e] at hy; exact ⟨hy, e⟩
  have hl : ∀ σ, lvZ (Z.sV (40 * q + (w - 1)) 0) σ → lvZ Z σ := fun σ hσ => by
    cases σ with
    | ver y => exact (hV y hσ).1
    | val y => exact (hV y hσ).1
    | _ => exact hσ
  rw [← hp]
  refine cz_set (ρ := .byw q) hZ hq rfl hl (fun σ hσ hne => ?_) ?_
  · cases σ with
    | byw q1 =>
      have hq1 : q1 ≠ q := fun z => hne (by rw [z])
      show kQa 5 41 (vrF (Z.sV (40 * q + (w - 1)) 0) q1) = kQa 5 41 (vrF Z q1)
      have : vrF (Z.sV (40 * q + (w - 1)) 0) q1 = vrF Z q1 := by
        funext y
        show (if 1 ≤ y ∧ y ≤ 40 ∧ ¬ va_up Z.V (40 * q + (w - 1)) 0 (40 * q1 + (y - 1)) = 0 then some (Z.ad (.ver (40 * q1 + (y - 1)))) else none) = _
        unfold vrF
        by_cases e2 : 1 ≤ y ∧ y ≤ 40
        · rw [va_up_ne _ _ (by omega)]
        · rw [if_neg (fun z => e2 ⟨z.1, z.2.1⟩), if_neg (fun z => e2 ⟨z.1, z.2.1⟩)]
      rw [this]
    | ver y =>
      show vO y (Z.ad (.val y)) (va_up Z.V (40 * q + (w - 1)) 0 y) = vO y (Z.ad (.val y)) (Z.V y)
      rw [va_up_ne _ _ (hV y hσ).2]
    | _ => rfl
  · have h := hZ.wf
    exact ⟨fun y => (by
        show va_up Z.V _ 0 y = 0 ∨ va_up Z.V _ 0 y % 2 = 1
        by_cases e : y = 40 * q + (w - 1)
        · rw [e, va_up_self]; exact Or.inl rfl
        · rw [va_up_ne _ _ e]; exact h.odd y), fun y => (by
        show va_up Z.V _ 0 y < 256
        by_cases e : y = 40 * q + (w - 1)
        · rw [e, va_up_self]; omega
        · rw [va_up_ne _ _ e]; exact h.low y), fun y hy => h.inn y (hV y hy).1, h.p0, h.fi, h.tb, h.pl, h.stc⟩
/-- a new version -/
def cZ.nV (Z : cZ) (v x a1 a2 : Nat) (f : Nat → Int32) : cZ := { Z with ad := fun σ => if σ = .ver v then a1 else if σ = .val v then a2 else Z.ad σ, V := va_up Z.V v x, ia := fun σ => if σ = .val v then f else Z.ia σ }
theorem ad_nV {v x a1 a2 : Nat} {f : Nat → Int32} {σ : cR} (h1 : σ ≠ .ver v) (h2 : σ ≠ .val v) : (Z.nV v x a1 a2 f).ad σ = Z.ad σ := by
  simp only [cZ.nV, if_neg h1, if_neg h2]
theorem cz_nV {q w x a1 a2 : Nat} {f : Nat → Int32} (hZ : cOk G m S A h Z) (hq : lvZ Z (.byw q)) (hw : 1 ≤ w ∧ w ≤ 40) (hv : Z.V (40 * q + (w - 1)) = 0) (hx : x % 2 = 1) (hx2 : x < 256) (i1 : kx_is G h a1 (.inr (7, [.int (nI w), .ref a2, .int (nI (x / 4)), .int (nI (x / 2 % 2))]))) (i2 : kx_is G h a2 (kIa 4 f))
    (f1 : (∀ τ, lvZ Z τ → Z.ad τ ≠ a1) ∧ ¬ (m ≤ a1 ∧ a1 ≤ m + 18)) (f2 : (∀ τ, lvZ Z τ → Z.ad τ ≠ a2) ∧ ¬ (m ≤ a2 ∧ a2 ≤ m + 18)) (hne : a1 ≠ a2) {c : kx_C} (hc : kQa 5 41 (va_up (vrF Z q) w (some a1)) = c) : cOk G m S A (kx_set h (Z.ad (.byw q)) c) (Z.nV (40 * q + (w - 1)) x a1 a2 f) := by
  have hq1 := hq.1
  generalize hV : 40 * q + (w - 1) = v at *
  have hv40 : v % 40 + 1 = w ∧ v / 40 = q ∧ v < 2880 ∧ v / 960 = q / 24 := by omega
  have e1 : (Z.nV v x a1 a2 f).ad (.ver v) = a1 := if_pos rfl
  have e2 : (Z.nV v x a1 a2 f).ad (.val v) = a2 := by
    simp [cZ.nV]
  have hVy : ∀ y, y ≠ v → (Z.nV v x a1 a2 f).V y = Z.V y := fun y hy => va_up_ne _ _ hy
  refine cz_link (ρ := .byw q) (N := fun σ => σ = .ver v ∨ σ = .val v) hZ hq (by rintro (z | z) <;> cases z) (fun σ hσ hn => ?_) (fun σ hσ hn => ?_) (fun σ hσ hn hne => ?_) (fun σ hn => ?_) (fun σ τ h1 h2 h3 => ?_) ?_ ?_
  · cases σ with
    | ver y => exact fun z => hσ (by rw [hVy y (fun e => hn (Or.inl (by rw [e])))]; exact z)
    | val y => exact fun z => hσ (by rw [hVy y (fun e => hn (Or.inr (by rw [e])))]; exact z)
    | _ => exact hσ
  · exact ad_nV (fun z => hn (Or.inl z)) (fun z => hn (Or.inr z))
  · cases σ with
    | byw q1 =>
      have hq1 : q1 ≠ q := fun z => hne (by rw [z])
      show kQa 5 41 (vrF (Z.nV v x a1 a2 f) q1) = kQa 5 41 (vrF Z q1)
      have : vrF (Z.nV v x a1 a2 f) q1 = vrF Z q1 := by
        funext y
        unfold vrF
        by_cases ey : 1 ≤ y ∧ y ≤ 40
        · have hy : 40 * q1 + (y - 1) ≠ v := by omega
          rw [hVy _ hy, ad_nV (fun z => hy (by injection z)) (by intro z; cases z)]
        · rw [if_neg (fun z => ey ⟨z.1, z.2.1⟩), if_neg (fun z => ey ⟨z.1, z.2.1⟩)]
      rw [this]
    | ver y =>
      have hy : y ≠ v := fun z => hn (Or.inl (by rw [z]))
      show vO y ((Z.nV v x a1 a2 f).ad (.val y)) ((Z.nV v x a1 a2 f).V y) = vO y (Z.ad (.val y)) (Z.V y)
      rw [hVy y hy, ad_nV (by intro z; cases z) (fun z => hy (by injection z))]
    | val y =>
      have hy : y ≠ v := fun z => hn (Or.inr (by rw [z]))
      show kIa 4 (if cR.val y = .val v then f else Z.ia (.val y)) = _
      rw [if_neg (fun z => hy (by injection z))]; rfl
    | tbs =>
      show kQa 1 3 (tbF (Z.nV v x a1 a2 f)) = kQa 1 3 (tbF Z)
      rfl
    | vls j => rfl
    | rws k => rfl
    | _ => rfl
  · rcases hn with rfl | rfl
    · rw [e1]
      refine ⟨?_, f1⟩
      show kx_is G h a1 (vO v ((Z.nV v x a1 a2 f).ad (.val v)) (va_up Z.V v x v))
      rw [e2, va_up_self]; unfold vO; rw [hv40.1]; exact i1
    · rw [e2]
      refine ⟨?_, f2⟩
      show kx_is G h a2 (kIa 4 (if cR.val v = .val v then f else Z.ia (.val v)))
      rw [if_pos rfl]; exact i2
  · rcases h1 with rfl | rfl <;> rcases h2 with rfl | rfl
    · rfl
    · rw [e1, e2] at h3; exact absurd h3 hne
    · rw [e1, e2] at h3; exact absurd h3.symm hne
    · rfl
  · have hz := hZ.wf
    refine ⟨fun y => ?_, fun y => ?_, fun y hy => ?_, hz.p0, hz.fi, hz.tb, hz.pl, hz.stc⟩
    · show va_up Z.V v x y = 0 ∨ va_up Z.V v x y % 2 = 1
      by_cases e : y = v
      · rw [e, va_up_self]; exact Or.inr hx
      · rw [va_up_ne _ _ e]; exact hz.odd y
    · show va_up Z.V v x y < 256
      by_cases e : y = v
      · rw [e, va_up_self]; exact hx2
      · rw [va_up_ne _ _ e]; exact hz.low y
    · by_cases e : y = v
      · rw [e]; exact ⟨hv40.2.2.1, by rw [hv40.2.2.2]; exact hq.2⟩
      · rw [hVy y e] at hy; exact hz.inn y hy
  · rw [← hc]
    have : vrF (Z.nV v x a1 a2 f) q = va_up (vrF Z q) w (some a1) := by
     funext y
     unfold vrF
     by_cases e : y = w
     · rw [e, va_up_self, hV, show (Z.nV v x a1 a2 f).V v = x from va_up_self _ _ _, if_pos ⟨hw.1, hw.2, by omega⟩, e1]
     · rw [va_up_ne _ _ e]
       by_cases ey : 1 ≤ y ∧ y ≤ 40
       · have hy : 40 * q + (y - 1) ≠ v := by omega
         rw [hVy _ hy, ad_nV (fun z => hy (by injection z)) (by intro z; cases z)]
       · rw [if_neg (fun z => ey ⟨z.1, z.2.1⟩), if_neg (fun z => ey ⟨z.1, z.2.1⟩)]
    show kQa 5 41 (vrF (Z.nV v x a1 a2 f) q) = _
    rw [this]
/-! states of transactions -/
def cZ.sT (Z : cZ) (t x : Nat) : cZ := { Z with st := va_up Z.st t x }
theorem cz_sT {t x : Nat} (hZ : cOk G m S A h Z) (hx : x < 4) {c : kx_C} (hc : kQa 2 41 (va_up (fun t => eSt G (Z.st t)) t (eSt G x)) = c) : cOk G m S A (kx_set h (Z.ad .sts) c) (Z.sT t x) := by
  have hp : pic G (Z.sT t x) .sts = c := by
    rw [← hc]
    have : (fun u => eSt G (va_up Z.st t x u)) = va_up (fun t => eSt G (Z.st t)) t (eSt G x) := by
      funext u
      simp only [va_up]
      split <;> rfl
    show kQa 2 41 (fun u => eSt G (va_up Z.st t x u)) = _
    rw [this]
  rw [← hp]
  refine cz_set (ρ := .sts) hZ trivial rfl (fun σ h => by cases σ <;> exact h) (fun σ _ hne => by cases σ <;> first | rfl | exact absurd rfl hne) ?_
  have h := hZ.wf
  refine ⟨h.odd, h.low, h.inn, h.p0, h.fi, h.tb, h.pl, fun u => ?_⟩
  show va_up Z.st t x u < 4
  by_cases e : u = t
  · rw [e, va_up_self]; exact hx
  · rw [va_up_ne _ _ e]; exact h.stc u
/-! the two sets of rows change their places -/
def cZ.sF (Z : cZ) : cZ := { Z with fi := 1 - Z.fi }
theorem cz_sF (hZ : cOk G m S A h Z) {c : kx_C} (hc : pic G Z.sF .v = c) : cOk G m S A (kx_set h (Z.ad .v) c) Z.sF := by
  rw [← hc]
  refine cz_set (ρ := .v) hZ trivial rfl (fun σ h => by cases σ <;> exact h) (fun σ _ hne => by cases σ <;> first | rfl | exact absurd rfl hne) ?_
  have h := hZ.wf
  exact ⟨h.odd, h.low, h.inn, h.p0, by show 1 - Z.fi < 2; omega, h.tb, h.pl, h.stc⟩
/-! settings cleared -/
def cZ.sP (Z : cZ) (i : Nat) : cZ := { Z with pl := va_up Z.pl i false }
theorem cz_sP {c0 : Nat} (hZ : cOk G m S A h Z) {c : kx_C} (hc : kQa 3 4 (va_up (plF Z) c0 none) = c) : cOk G m S A (kx_set h (Z.ad .sta) c) (Z.sP (c0 + 1)) := by
  have hpl : ∀ i, (Z.sP (c0 + 1)).pl i = true → Z.pl i = true := fun i hi => by
    have : va_up Z.pl (c0 + 1) false i = true := hi
    by_cases e : i = c0 + 1
    · rw [e, va_up_self] at this; cases this
    · rw [va_up_ne _ _ e] at this; exact this
  have hp : pic G (Z.sP (c0 + 1)) .sta = c := by
    rw [← hc]
    have : plF (Z.sP (c0 + 1)) = va_up (plF Z) c0 none := by
      funext y
      show (if va_up Z.pl (c0 + 1) false (y + 1) = true then some (Z.ad (.prg (y + 1))) else none) = _
      by_cases e : y = c0
      · rw [e, va_up_self, va_up_self]; rfl
      · rw [va_up_ne _ _ (by omega), va_up_ne _ _ e]; rfl
    show kQa 3 4 (plF (Z.sP (c0 + 1))) = _
    rw [this]
  rw [← hp]
  refine cz_set (ρ := .sta) hZ trivial rfl (fun σ h => ?_) (fun σ _ hne => by cases σ <;> first | rfl | exact absurd rfl hne) ?_
  · cases σ with
    | prg i => exact ⟨h.1, hpl i h.2⟩
    | stp i => exact ⟨h.1, hpl i h.2⟩
    | stk i => exact ⟨h.1, hpl i h.2⟩
    | _ => exact h
  · have h := hZ.wf
    exact ⟨h.odd, h.low, h.inn, by show va_up Z.pl (c0 + 1) false 0 = true; rw [va_up_ne _ _ (by omega)]; exact h.p0, h.fi, h.tb, fun i hi => h.pl i (hpl i hi), h.stc⟩
/-! a program is put into its place -/
def cZ.nP (Z : cZ) (i p s k : Nat) (n : Int32) (F K : Nat → Int32) : cZ := { Z with ad := fun σ => if σ = .prg i then p else if σ = .stp i then s else if σ = .stk i then k else Z.ad σ, pl := va_up Z.pl i true, sc := fun σ j => if σ = .prg i then (if j = 2 then n else 0) else Z.sc σ j, ia := fun σ => if σ = .stp i then F else if σ = .stk i then K else Z.ia σ }
theorem ad_nP {i p s k : Nat} {n : Int32} {F K : Nat → Int32} {σ : cR} (h1 : σ ≠ .prg i) (h2 : σ ≠ .stp i) (h3 : σ ≠ .stk i) : (Z.nP i p s k n F K).ad σ = Z.ad σ := by
  simp only [cZ.nP, if_neg h1, if_neg h2, if_neg h3]
theorem cz_nP {i p s k : Nat} {n : Int32} {F K : Nat → Int32} (hZ : cOk G m S A h Z) (hi : i < 5) (i1 : kx_is G h p (pO s k n 0)) (i2 : kx_is G h s (kIa 40 F)) (i3 : kx_is G h k (kIa 40 K)) (f1 : (∀ τ, lvZ Z τ → Z.ad τ ≠ p) ∧ ¬ (m ≤ p ∧ p ≤ m + 18)) (f2 : (∀ τ, lvZ Z τ → Z.ad τ ≠ s) ∧ ¬ (m ≤ s ∧ s ≤ m + 18)) (f3 : (∀ τ, lvZ Z τ → Z.ad τ ≠ k) ∧ ¬ (m ≤ k ∧ k ≤ m + 18)) (n1 : p ≠ s) (n2 : p ≠ k) (n3 : s ≠ k)
    {c : kx_C} (hρ : ρ = if i = 0 then .v else .sta) (hc : pic G (Z.nP i p s k n F K) ρ = c) : cOk G m S A (kx_set h (Z.ad ρ) c) (Z.nP i p s k n F K) := by
  have e1 : (Z.nP i p s k n F K).ad (.prg i) = p := if_pos rfl
  have e2 : (Z.nP i p s k n F K).ad (.stp i) = s := by
    simp [cZ.nP]
  have e3 : (Z.nP i p s k n F K).ad (.stk i) = k := by
    simp [cZ.nP]
  have hpl : ∀ j, j ≠ i → (Z.nP i p s k n F K).pl j = Z.pl j := fun j hj => va_up_ne _ _ hj
  have hρ2 : ρ = .v ∨ ρ = .sta := by
    by_cases e : i = 0
    · rw [if_pos e] at hρ; exact Or.inl hρ
    · rw [if_neg e] at hρ; exact Or.inr hρ
  refine cz_link (ρ := ρ) (N := fun σ => σ = .prg i ∨ σ = .stp i ∨ σ = .stk i) hZ (by rcases hρ2 with z | z <;> (rw [z]; exact trivial)) (by rcases hρ2 with z | z <;> (rw [z]; rintro (y | y | y) <;> cases y)) (fun σ hσ hn => ?_) (fun σ hσ hn => ?_) (fun σ hσ hn hne => ?_) (fun σ hn => ?_) (fun σ τ h1 h2 h3 => ?_) ?_ hc
  · cases σ with
    | prg j => exact ⟨hσ.1, by rw [← hpl j (fun e => hn (Or.inl (by rw [e])))]; exact hσ.2⟩
    | stp j => exact ⟨hσ.1, by rw [← hpl j (fun e => hn (Or.inr (Or.inl (by rw [e]))))]; exact hσ.2⟩
    | stk j => exact ⟨hσ.1, by rw [← hpl j (fun e => hn (Or.inr (Or.inr (by rw [e]))))]; exact hσ.2⟩
    | _ => exact hσ
  · exact ad_nP (fun z => hn (Or.inl z)) (fun z => hn (Or.inr (Or.inl z))) (fun z => hn (Or.inr (Or.inr z)))
  · cases σ with
    | prg j =>
      have hj : j ≠ i := fun z => hn (Or.inl (by rw [z]))
      simp [pic, cZ.nP, hj]
    | stp j =>
      have hj : j ≠ i := fun z => hn (Or.inr (Or.inl (by rw [z])))
      simp [pic, cZ.nP, hj]
    | stk j =>
      have hj : j ≠ i := fun z => hn (Or.inr (Or.inr (by rw [z])))
      simp [pic, cZ.nP, hj]
    | sta =>
      have hi0 : i = 0 := Classical.byContradiction fun z => by rw [if_neg z] at hρ; exact hne hρ.symm
      have : plF (Z.nP i p s k n F K) = plF Z := by
        funext y
        unfold plF
        rw [hpl (y + 1) (by omega), ad_nP (by intro z; injection z; omega) (by intro z; cases z) (by intro z; cases z)]
      show kQa 3 4 (plF (Z.nP i p s k n F K)) = kQa 3 4 (plF Z)
      rw [this]
    | v =>
      have hi0 : i ≠ 0 := fun z => by rw [if_pos z] at hρ; exact hne hρ.symm
      simp [pic, cZ.nP, hi0.symm]
    | _ => rfl
  · rcases hn with rfl | rfl | rfl
    · rw [e1]
      refine ⟨?_, f1⟩
      have : pic G (Z.nP i p s k n F K) (.prg i) = pO s k n 0 := by simp [pic, cZ.nP]
      rw [this]; exact i1
    · rw [e2]
      refine ⟨?_, f2⟩
      have : pic G (Z.nP i p s k n F K) (.stp i) = kIa 40 F := by simp [pic, cZ.nP]
      rw [this]; exact i2
    · rw [e3]
      refine ⟨?_, f3⟩
      have : pic G (Z.nP i p s k n F K) (.stk i) = kIa 40 K := by simp [pic, cZ.nP]
      rw [this]; exact i3
  · rcases h1 with rfl | rfl | rfl <;> rcases h2 with rfl | rfl | rfl
    · rfl
    · rw [e1, e2] at h3; exact absurd h3 n1
    · rw [e1, e3] at h3; exact absurd h3 n2
    · rw [e1, e2] at h3; exact absurd h3.symm n1
    · rfl
    · rw [e2, e3] at h3; exact absurd h3 n3
    · rw [e1, e3] at h3; exact absurd h3.symm n2
    · rw [e2, e3] at h3; exact absurd h3.symm n3
    · rfl
  · have hz := hZ.wf
    refine ⟨hz.odd, hz.low, hz.inn, ?_, hz.fi, hz.tb, fun j hj => ?_, hz.stc⟩
    · by_cases e : i = 0
      · rw [e]; show va_up Z.pl 0 true 0 = true; exact va_up_self _ _ _
      · rw [hpl 0 (fun z => e z.symm)]; exact hz.p0
    · by_cases e : j = i
      · rw [e]; exact hi
      · rw [hpl j e] at hj; exact hz.pl j hj
end KZ2
