/-! ===== the objects of the other side: their roles, what they hold ===== -/
abbrev cR : Type := Nat × Nat
abbrev rV : cR := (0, 0)
abbrev rTbs : cR := (1, 0)
abbrev rTr : cR := (2, 0)
abbrev rSts : cR := (3, 0)
abbrev rLin : cR := (4, 0)
abbrev rSta : cR := (5, 0)
abbrev rOld : cR := (6, 0)
abbrev rPrg (i : Nat) : cR := (7, i)
abbrev rStp (i : Nat) : cR := (8, i)
abbrev rStk (i : Nat) : cR := (9, i)
abbrev rRs (i : Nat) : cR := (10, i)
abbrev rNum (i : Nat) : cR := (11, i)
abbrev rVls (i : Nat) : cR := (12, i)
abbrev rInn (i : Nat) : cR := (13, i)
abbrev rTab (i : Nat) : cR := (14, i)
abbrev rRws (i : Nat) : cR := (15, i)
abbrev rRow (i : Nat) : cR := (16, i)
abbrev rByw (i : Nat) : cR := (17, i)
abbrev rVer (i : Nat) : cR := (18, i)
abbrev rVal (i : Nat) : cR := (19, i)
/-- a version's object -/
abbrev vO (v a x : Nat) : kx_C := .inr (7, [.int (nI (v % 40 + 1)), .ref a, .int (nI (x / 4)), .int (nI (x / 2 % 2))])
/-- a constant of the enum, by its code -/
def eSt (G : kx_G) (x : Nat) : Option Nat := if x = 0 then none else some (G.2.2.2.1 (x - 1))
/-- addresses, numbers in fields, arrays of numbers, tables, versions, programs, states, which set of rows is found -/
abbrev cZ : Type := (cR → Nat) × (cR → Nat → Int32) × (cR → Nat → Int32) × (Nat → Bool) × (Nat → Nat) × (Nat → Bool) × (Nat → Nat) × Nat
abbrev cZ.ad (Z : cZ) : cR → Nat := Z.1
abbrev cZ.sc (Z : cZ) : cR → Nat → Int32 := Z.2.1
abbrev cZ.ia (Z : cZ) : cR → Nat → Int32 := Z.2.2.1
abbrev cZ.tb (Z : cZ) : Nat → Bool := Z.2.2.2.1
abbrev cZ.V (Z : cZ) : Nat → Nat := Z.2.2.2.2.1
abbrev cZ.pl (Z : cZ) : Nat → Bool := Z.2.2.2.2.2.1
abbrev cZ.st (Z : cZ) : Nat → Nat := Z.2.2.2.2.2.2.1
abbrev cZ.fi (Z : cZ) : Nat := Z.2.2.2.2.2.2.2
def lvT (Z : cZ) (t i : Nat) : Prop := if t = 0 then i = 0 else if t = 1 then i = 0 else if t = 2 then i = 0 else if t = 3 then i = 0 else if t = 4 then i = 0 else if t = 5 then i = 0 else if t = 6 then i = 0 else if t = 7 then i < 5 ∧ Z.pl i = true else if t = 8 then i < 5 ∧ Z.pl i = true else if t = 9 then i < 5 ∧ Z.pl i = true else if t = 10 then i < 2 else if t = 11 then i < 2 else if t = 12 then i < 2 else if t = 13 then i < 48 else if t = 14 then i < 3 ∧ Z.tb i = true else if t = 15 then i < 3 ∧ Z.tb i = true else if t = 16 then i < 72 ∧ Z.tb (i / 24) = true else if t = 17 then i < 72 ∧ Z.tb (i / 24) = true else if t = 18 then ¬ Z.V i = 0 else if t = 19 then ¬ Z.V i = 0 else False
def lvZ (Z : cZ) (ρ : cR) : Prop := lvT Z ρ.1 ρ.2
def picT (G : kx_G) (ad : cR → Nat) (s f : Nat → Int32) (tb : Nat → Bool) (V : Nat → Nat) (pl : Nat → Bool) (st : Nat → Nat) (fi t i : Nat) : kx_C := if t = 0 then .inr (0, [.ref (ad rTbs), .ref (ad rTr), .ref (ad rLin), .int (s 3), .int (s 4), .ref (ad (rPrg 0)), .ref (ad rSta), .ref (ad (rRs fi)), .ref (ad (rRs (1 - fi))), .ref (ad rOld)]) else if t = 1 then kQa 1 3 (fun k => if tb k = true then some (ad (rTab k)) else none) else if t = 2 then .inr (1, [.ref (ad rSts), .int (s 1), .int (s 2)]) else if t = 3 then kQa 2 41 (fun t => eSt G (st t)) else if t = 4 then kIa 40 f else if t = 5 then kQa 3 4 (fun c => if pl (c + 1) = true then some (ad (rPrg (c + 1))) else none) else if t = 6 then kIa 4 f else if t = 7 then pO (ad (rStp i)) (ad (rStk i)) (s 2) (s 3) else if t = 8 then kIa 40 f else if t = 9 then kIa 40 f else if t = 10 then .inr (3, [.ref (ad (rNum i)), .ref (ad (rVls i)), .int (s 2)]) else if t = 11 then kIa 24 f else if t = 12 then kQa 6 24 (fun r => if r < 24 then some (ad (rInn (24 * i + r))) else none) else if t = 13 then kIa 4 f else if t = 14 then .inr (4, [.int (s 0), .ref (ad (rRws i)), .int (s 2), .int (s 3)]) else if t = 15 then kQa 4 24 (fun r => if r < 24 then some (ad (rRow (24 * i + r))) else none) else if t = 16 then .inr (5, [.ref (ad (rByw i))]) else if t = 17 then kQa 5 41 (fun w => if 1 ≤ w ∧ w ≤ 40 ∧ ¬ V (40 * i + (w - 1)) = 0 then some (ad (rVer (40 * i + (w - 1)))) else none) else if t = 18 then vO i (ad (rVal i)) (V i) else if t = 19 then kIa 4 f else kIa 0 f
def pic (G : kx_G) (Z : cZ) (ρ : cR) : kx_C := picT G Z.ad (Z.sc ρ) (Z.ia ρ) Z.tb Z.V Z.pl Z.st Z.fi ρ.1 ρ.2
def tbF (Z : cZ) (k : Nat) : Option Nat := if Z.tb k = true then some (Z.ad (rTab k)) else none
def plF (Z : cZ) (c : Nat) : Option Nat := if Z.pl (c + 1) = true then some (Z.ad (rPrg (c + 1))) else none
def vrF (Z : cZ) (q w : Nat) : Option Nat := if 1 ≤ w ∧ w ≤ 40 ∧ ¬ Z.V (40 * q + (w - 1)) = 0 then some (Z.ad (rVer (40 * q + (w - 1)))) else none
theorem lvT_hi {Z : cZ} {t i : Nat} (h : 20 ≤ t) : ¬ lvT Z t i := by
  unfold lvT
  repeat rw [if_neg (by omega)]
  exact id
theorem lv_cs {Z : cZ} {ρ : cR} (h : lvZ Z ρ) : ρ.1 = 0 ∨ ρ.1 = 1 ∨ ρ.1 = 2 ∨ ρ.1 = 3 ∨ ρ.1 = 4 ∨ ρ.1 = 5 ∨ ρ.1 = 6 ∨ ρ.1 = 7 ∨ ρ.1 = 8 ∨ ρ.1 = 9 ∨ ρ.1 = 10 ∨ ρ.1 = 11 ∨ ρ.1 = 12 ∨ ρ.1 = 13 ∨ ρ.1 = 14 ∨ ρ.1 = 15 ∨ ρ.1 = 16 ∨ ρ.1 = 17 ∨ ρ.1 = 18 ∨ ρ.1 = 19 := by
  have : ρ.1 < 20 := Nat.lt_of_not_le fun z => lvT_hi z h
  omega
/-- what is always so -/
def cWf (Z : cZ) : Prop := (∀ v, Z.V v = 0 ∨ Z.V v % 2 = 1) ∧ (∀ v, Z.V v < 256) ∧ (∀ v, ¬ Z.V v = 0 → v < 2880 ∧ Z.tb (v / 960) = true) ∧ Z.pl 0 = true ∧ Z.fi < 2 ∧ (∀ k, Z.tb k = true → k < 3) ∧ (∀ i, Z.pl i = true → i < 5) ∧ ∀ t, Z.st t < 4
theorem cWf.odd {Z : cZ} (h : cWf Z) : ∀ v, Z.V v = 0 ∨ Z.V v % 2 = 1 := h.1
theorem cWf.low {Z : cZ} (h : cWf Z) : ∀ v, Z.V v < 256 := h.2.1
theorem cWf.inn {Z : cZ} (h : cWf Z) : ∀ v, ¬ Z.V v = 0 → v < 2880 ∧ Z.tb (v / 960) = true := h.2.2.1
theorem cWf.p0 {Z : cZ} (h : cWf Z) : Z.pl 0 = true := h.2.2.2.1
theorem cWf.fi {Z : cZ} (h : cWf Z) : Z.fi < 2 := h.2.2.2.2.1
theorem cWf.tb {Z : cZ} (h : cWf Z) : ∀ k, Z.tb k = true → k < 3 := h.2.2.2.2.2.1
theorem cWf.pl {Z : cZ} (h : cWf Z) : ∀ i, Z.pl i = true → i < 5 := h.2.2.2.2.2.2.1
theorem cWf.stc {Z : cZ} (h : cWf Z) : ∀ t, Z.st t < 4 := h.2.2.2.2.2.2.2
/-- the reference's part of the heap, and behind it two arrays of one number each -/
def bOk (m : Nat) (S : Nat → Int32) (A : Nat → Nat → Int32) (h : kx_H) : Prop := (∀ a, m ≤ a → a ≤ m + 18 → h.2 a = mC m S A (a - m)) ∧ (∃ f, h.2 (m + 19) = .inl (8, 1, .inr (.inl f))) ∧ ∃ f, h.2 (m + 20) = .inl (9, 1, .inr (.inr (.inr (.inl f))))
theorem bOk_of {m : Nat} {S : Nat → Int32} {A : Nat → Nat → Int32} {h h' : kx_H} (hb : bOk m S A h) (he : ∀ a, m ≤ a → a ≤ m + 20 → h'.2 a = h.2 a) : bOk m S A h' := ⟨fun a h1 h2 => by rw [he a h1 (by omega)]; exact hb.1 a h1 h2, by
  obtain ⟨f, hf⟩ := hb.2.1
  exact ⟨f, by rw [he _ (by omega) (by omega)]; exact hf⟩, by
  obtain ⟨f, hf⟩ := hb.2.2
  exact ⟨f, by rw [he _ (by omega) (by omega)]; exact hf⟩⟩
def cOk (G : kx_G) (m : Nat) (S : Nat → Int32) (A : Nat → Nat → Int32) (h : kx_H) (Z : cZ) : Prop := (∀ ρ, lvZ Z ρ → kx_is G h (Z.ad ρ) (pic G Z ρ)) ∧ (∀ ρ σ, lvZ Z ρ → lvZ Z σ → Z.ad ρ = Z.ad σ → ρ = σ) ∧ (∀ ρ, lvZ Z ρ → ¬ (m ≤ Z.ad ρ ∧ Z.ad ρ ≤ m + 20)) ∧ G.1 ≤ m ∧ m + 20 < h.1 ∧ bOk m S A h ∧ cWf Z
section KZ
variable {G : kx_G} {m : Nat} {S : Nat → Int32} {A : Nat → Nat → Int32} {h h' : kx_H} {Z Z' : cZ} {ρ : cR}
theorem cOk.is (hZ : cOk G m S A h Z) : ∀ ρ, lvZ Z ρ → kx_is G h (Z.ad ρ) (pic G Z ρ) := hZ.1
theorem cOk.inj (hZ : cOk G m S A h Z) : ∀ ρ σ, lvZ Z ρ → lvZ Z σ → Z.ad ρ = Z.ad σ → ρ = σ := hZ.2.1
theorem cOk.out (hZ : cOk G m S A h Z) : ∀ ρ, lvZ Z ρ → ¬ (m ≤ Z.ad ρ ∧ Z.ad ρ ≤ m + 20) := hZ.2.2.1
theorem cOk.b1 (hZ : cOk G m S A h Z) : G.1 ≤ m := hZ.2.2.2.1
theorem cOk.b2 (hZ : cOk G m S A h Z) : m + 20 < h.1 := hZ.2.2.2.2.1
theorem cOk.blk (hZ : cOk G m S A h Z) : bOk m S A h := hZ.2.2.2.2.2.1
theorem cOk.wf (hZ : cOk G m S A h Z) : cWf Z := hZ.2.2.2.2.2.2
theorem cz_set (hZ : cOk G m S A h Z) (hl : lvZ Z ρ) (had : Z'.ad = Z.ad) (hlv : ∀ σ, lvZ Z' σ → lvZ Z σ) (hpc : ∀ σ, lvZ Z' σ → σ ≠ ρ → pic G Z' σ = pic G Z σ) (hw : cWf Z') : cOk G m S A (kx_set h (Z.ad ρ) (pic G Z' ρ)) Z' := by
  refine ⟨fun σ hσ => ?_, fun σ τ h1 h2 h3 => hZ.inj σ τ (hlv σ h1) (hlv τ h2) (by rw [had] at h3; exact h3), fun σ hσ => by rw [had]; exact hZ.out σ (hlv σ hσ), hZ.b1, hZ.b2, bOk_of hZ.blk (fun a h1 h2 => ?_), hw⟩
  · by_cases e : σ = ρ
    · rw [e, had]; exact kx_is_eq (hZ.is ρ hl)
    · rw [had, hpc σ hσ e]
      exact kx_is_ne (hZ.is σ (hlv σ hσ)) (fun z => e (hZ.inj σ ρ (hlv σ hσ) hl z))
  · show va_up _ _ _ _ = _
    rw [va_up_ne _ _ (fun z => hZ.out ρ hl (by rw [← z]; exact ⟨h1, h2⟩))]
/-- more cells, the old as they were -/
theorem cz_ext (hZ : cOk G m S A h Z) (h1 : h.1 ≤ h'.1) (h2 : ∀ a, a < h.1 → h'.2 a = h.2 a) : cOk G m S A h' Z := ⟨fun σ hσ => by
    have := hZ.is σ hσ
    exact ⟨this.1, Nat.lt_of_lt_of_le this.2.1 h1, by rw [h2 _ this.2.1]; exact this.2.2⟩, hZ.inj, hZ.out, hZ.b1, Nat.lt_of_lt_of_le hZ.b2 h1, bOk_of hZ.blk (fun a z1 z2 => h2 a (by have := hZ.b2; omega)), hZ.wf⟩
theorem cz_new (hZ : cOk G m S A h Z) (c : kx_C) : cOk G m S A (kx_new h c) Z := cz_ext hZ (Nat.le_succ _) (fun a ha => va_up_ne _ _ (Nat.ne_of_lt ha))
/-- a cell that is none of ours -/
theorem cz_oth {a : Nat} (hZ : cOk G m S A h Z) (h1 : ∀ σ, lvZ Z σ → Z.ad σ ≠ a) (h2 : ¬ (m ≤ a ∧ a ≤ m + 20)) (c : kx_C) : cOk G m S A (kx_set h a c) Z := ⟨fun σ hσ => kx_is_ne (hZ.is σ hσ) (h1 σ hσ), hZ.inj, hZ.out, hZ.b1, hZ.b2, bOk_of hZ.blk (fun q z1 z2 => by
    show va_up _ _ _ _ = _
    rw [va_up_ne _ _ (fun z => h2 (by rw [← z]; exact ⟨z1, z2⟩))]), hZ.wf⟩
/-- an address above all that was there -/
theorem cz_fr (hZ : cOk G m S A h Z) {a : Nat} (ha : h.1 ≤ a) : (∀ σ, lvZ Z σ → Z.ad σ ≠ a) ∧ ¬ (m ≤ a ∧ a ≤ m + 20) := ⟨fun σ hσ z => by have := (hZ.is σ hσ).2.1; omega, fun z => by have := hZ.b2; omega⟩
/-- the reference's part of the heap -/
theorem cz_mH (hZ : cOk G m S A h Z) : h = mH h m S A := by
  refine Prod.ext rfl ?_
  funext a
  simp only [mH]
  by_cases e : m ≤ a ∧ a ≤ m + 18
  · rw [if_pos e]; exact hZ.blk.1 a e.1 e.2
  · rw [if_neg e]
theorem cz_mOk (hZ : cOk G m S A h Z) : mOk G h m := ⟨hZ.b1, by have := hZ.b2; omega⟩
theorem cz_ref {S1 : Nat → Int32} {A1 : Nat → Nat → Int32} (hZ : cOk G m S A h Z) : cOk G m S1 A1 (mH h m S1 A1) Z := ⟨fun σ hσ => by
    have := hZ.is σ hσ
    refine ⟨this.1, this.2.1, ?_⟩
    show (if m ≤ Z.ad σ ∧ Z.ad σ ≤ m + 18 then _ else _) = _
    rw [if_neg (fun z => hZ.out σ hσ ⟨z.1, by omega⟩)]; exact this.2.2, hZ.inj, hZ.out, hZ.b1, hZ.b2, ⟨fun a z1 z2 => if_pos ⟨z1, z2⟩, by
    obtain ⟨f, hf⟩ := hZ.blk.2.1
    exact ⟨f, by show (if m ≤ m + 19 ∧ m + 19 ≤ m + 18 then _ else _) = _; rw [if_neg (by omega)]; exact hf⟩, by
    obtain ⟨f, hf⟩ := hZ.blk.2.2
    exact ⟨f, by show (if m ≤ m + 20 ∧ m + 20 ≤ m + 18 then _ else _) = _; rw [if_neg (by omega)]; exact hf⟩⟩, hZ.wf⟩
/-- the two arrays behind it -/
theorem cz_ar (hZ : cOk G m S A h Z) {a : Nat} {c : kx_C} (h1 : (a = m + 19 ∧ ∃ f, c = .inl (8, 1, .inr (.inl f))) ∨ (a = m + 20 ∧ ∃ f, c = .inl (9, 1, .inr (.inr (.inr (.inl f)))))) : cOk G m S A (kx_set h a c) Z := by
  have ha : m + 19 ≤ a ∧ a ≤ m + 20 := by rcases h1 with ⟨e, -⟩ | ⟨e, -⟩ <;> omega
  refine ⟨fun σ hσ => kx_is_ne (hZ.is σ hσ) (fun z => hZ.out σ hσ (by omega)), hZ.inj, hZ.out, hZ.b1, hZ.b2, ⟨fun q z1 z2 => ?_, ?_, ?_⟩, hZ.wf⟩
  · show va_up _ _ _ _ = _
    rw [va_up_ne _ _ (by omega)]; exact hZ.blk.1 q z1 z2
  · obtain ⟨f, hf⟩ := hZ.blk.2.1
    rcases h1 with ⟨e, f1, h1⟩ | ⟨e, f1, h1⟩
    · exact ⟨f1, by rw [← h1, ← e]; exact va_up_self _ _ _⟩
    · exact ⟨f, by show va_up _ _ _ _ = _; rw [va_up_ne _ _ (by omega)]; exact hf⟩
  · obtain ⟨f, hf⟩ := hZ.blk.2.2
    rcases h1 with ⟨e, f1, h1⟩ | ⟨e, f1, h1⟩
    · exact ⟨f, by show va_up _ _ _ _ = _; rw [va_up_ne _ _ (by omega)]; exact hf⟩
    · exact ⟨f1, by rw [← h1, ← e]; exact va_up_self _ _ _⟩
/-! what is written -/
def cZ.sS (Z : cZ) (ρ : cR) (j : Nat) (x : Int32) : cZ := (Z.ad, fun σ k => if k = j ∧ σ = ρ then x else Z.sc σ k, Z.ia, Z.tb, Z.V, Z.pl, Z.st, Z.fi)
def cZ.sI (Z : cZ) (ρ : cR) (f : Nat → Int32) : cZ := (Z.ad, Z.sc, fun σ => if σ = ρ then f else Z.ia σ, Z.tb, Z.V, Z.pl, Z.st, Z.fi)
theorem zs_ne {σ : cR} {j k : Nat} {x : Int32} (hne : σ ≠ ρ) : (Z.sS ρ j x).sc σ k = Z.sc σ k := if_neg (fun z => hne z.2)
theorem zs_nj {σ : cR} {j k : Nat} {x : Int32} (hne : k ≠ j) : (Z.sS ρ j x).sc σ k = Z.sc σ k := if_neg (fun z => hne z.1)
theorem zs_eq {j : Nat} {x : Int32} : (Z.sS ρ j x).sc ρ j = x := if_pos ⟨rfl, rfl⟩
theorem zs_neF {σ : cR} {j : Nat} {x : Int32} (hne : σ ≠ ρ) : (Z.sS ρ j x).sc σ = Z.sc σ := funext fun _ => zs_ne hne
theorem zs_F {j : Nat} {x : Int32} : (Z.sS ρ j x).sc ρ = va_up (Z.sc ρ) j x := funext fun k => by
  simp only [va_up]
  by_cases e : k = j
  · rw [if_pos e, e, zs_eq]
  · rw [if_neg e, zs_nj e]
theorem zi_ne {σ : cR} {f : Nat → Int32} (hne : σ ≠ ρ) : (Z.sI ρ f).ia σ = Z.ia σ := if_neg hne
theorem zi_eq {f : Nat → Int32} : (Z.sI ρ f).ia ρ = f := if_pos rfl
theorem cz_sS (hZ : cOk G m S A h Z) (hl : lvZ Z ρ) (j : Nat) (x : Int32) {c : kx_C} (hc : picT G Z.ad (va_up (Z.sc ρ) j x) (Z.ia ρ) Z.tb Z.V Z.pl Z.st Z.fi ρ.1 ρ.2 = c) : cOk G m S A (kx_set h (Z.ad ρ) c) (Z.sS ρ j x) := by
  have : pic G (Z.sS ρ j x) ρ = c := by
    show picT G Z.ad ((Z.sS ρ j x).sc ρ) (Z.ia ρ) Z.tb Z.V Z.pl Z.st Z.fi ρ.1 ρ.2 = c
    rw [zs_F]; exact hc
  rw [← this]
  refine cz_set hZ hl rfl (fun σ h => h) (fun σ _ hne => ?_) hZ.wf
  show picT G Z.ad ((Z.sS ρ j x).sc σ) (Z.ia σ) Z.tb Z.V Z.pl Z.st Z.fi σ.1 σ.2 = _
  rw [zs_neF hne]; rfl
theorem cz_sI (hZ : cOk G m S A h Z) (hl : lvZ Z ρ) (f : Nat → Int32) {c : kx_C} (hc : picT G Z.ad (Z.sc ρ) f Z.tb Z.V Z.pl Z.st Z.fi ρ.1 ρ.2 = c) : cOk G m S A (kx_set h (Z.ad ρ) c) (Z.sI ρ f) := by
  have : pic G (Z.sI ρ f) ρ = c := by
    show picT G Z.ad (Z.sc ρ) ((Z.sI ρ f).ia ρ) Z.tb Z.V Z.pl Z.st Z.fi ρ.1 ρ.2 = c
    rw [zi_eq]; exact hc
  rw [← this]
  refine cz_set hZ hl rfl (fun σ h => h) (fun σ _ hne => ?_) hZ.wf
  show picT G Z.ad (Z.sc σ) ((Z.sI ρ f).ia σ) Z.tb Z.V Z.pl Z.st Z.fi σ.1 σ.2 = _
  rw [zi_ne hne]; rfl
end KZ
