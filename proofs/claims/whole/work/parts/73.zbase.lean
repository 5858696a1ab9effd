/-! ===== the class's objects: their roles, what they hold ===== -/
inductive cR
  | v | tbs | tr | sts | lin | sta | old
  | prg (i : Nat) | stp (i : Nat) | stk (i : Nat)
  | rs (j : Nat) | num (j : Nat) | vls (j : Nat) | inn (j i : Nat)
  | tab (k : Nat) | rws (k : Nat) | row (q : Nat) | byw (q : Nat) | ver (v : Nat) | val (v : Nat)
deriving DecidableEq
/-- a version's object -/
abbrev vO (v a x : Nat) : kx_C := .inr (7, [.int (nI (v % 40 + 1)), .ref a, .int (nI (x / 4)), .int (nI (x / 2 % 2))])
structure cZ where
  ad : cR → Nat
  sc : cR → Nat → Int32
  ia : cR → Nat → Int32
  tb : Nat → Bool
  V : Nat → Nat
  pl : Nat → Bool
  st : Nat → Nat
  fi : Nat
def lvZ (Z : cZ) : cR → Prop
  | .prg i => i < 5 ∧ Z.pl i = true
  | .stp i => i < 5 ∧ Z.pl i = true
  | .stk i => i < 5 ∧ Z.pl i = true
  | .rs j => j < 2
  | .num j => j < 2
  | .vls j => j < 2
  | .inn j i => j < 2 ∧ i < 24
  | .tab k => k < 3 ∧ Z.tb k = true
  | .rws k => k < 3 ∧ Z.tb k = true
  | .row q => q < 72 ∧ Z.tb (q / 24) = true
  | .byw q => q < 72 ∧ Z.tb (q / 24) = true
  | .ver v => ¬ Z.V v = 0
  | .val v => ¬ Z.V v = 0
  | _ => True
/-- a constant of the enum, by its code -/
def eSt (G : kx_G) (x : Nat) : Option Nat := if x = 0 then none else some (G.2.2.2.1 (x - 1))
def tbF (Z : cZ) (k : Nat) : Option Nat := if Z.tb k = true then some (Z.ad (.tab k)) else none
def plF (Z : cZ) (c : Nat) : Option Nat := if Z.pl (c + 1) = true then some (Z.ad (.prg (c + 1))) else none
def vrF (Z : cZ) (q w : Nat) : Option Nat := if 1 ≤ w ∧ w ≤ 40 ∧ ¬ Z.V (40 * q + (w - 1)) = 0 then some (Z.ad (.ver (40 * q + (w - 1)))) else none
def pic (G : kx_G) (Z : cZ) : cR → kx_C
  | .v => .inr (0, [.ref (Z.ad .tbs), .ref (Z.ad .tr), .ref (Z.ad .lin), .int (Z.sc .v 3), .int (Z.sc .v 4), .ref (Z.ad (.prg 0)), .ref (Z.ad .sta), .ref (Z.ad (.rs Z.fi)), .ref (Z.ad (.rs (1 - Z.fi))), .ref (Z.ad .old)])
  | .tbs => kQa 1 3 (tbF Z)
  | .tr => .inr (1, [.ref (Z.ad .sts), .int (Z.sc .tr 1), .int (Z.sc .tr 2)])
  | .sts => kQa 2 41 (fun t => eSt G (Z.st t))
  | .lin => kIa 40 (Z.ia .lin)
  | .sta => kQa 3 4 (plF Z)
  | .old => kIa 4 (Z.ia .old)
  | .prg i => pO (Z.ad (.stp i)) (Z.ad (.stk i)) (Z.sc (.prg i) 2) (Z.sc (.prg i) 3)
  | .stp i => kIa 40 (Z.ia (.stp i))
  | .stk i => kIa 40 (Z.ia (.stk i))
  | .rs j => .inr (3, [.ref (Z.ad (.num j)), .ref (Z.ad (.vls j)), .int (Z.sc (.rs j) 2)])
  | .num j => kIa 24 (Z.ia (.num j))
  | .vls j => kQa 6 24 (fun i => if i < 24 then some (Z.ad (.inn j i)) else none)
  | .inn j i => kIa 4 (Z.ia (.inn j i))
  | .tab k => .inr (4, [.int (Z.sc (.tab k) 0), .ref (Z.ad (.rws k)), .int (Z.sc (.tab k) 2), .int (Z.sc (.tab k) 3)])
  | .rws k => kQa 4 24 (fun r => if r < 24 then some (Z.ad (.row (24 * k + r))) else none)
  | .row q => .inr (5, [.ref (Z.ad (.byw q))])
  | .byw q => kQa 5 41 (vrF Z q)
  | .ver v => vO v (Z.ad (.val v)) (Z.V v)
  | .val v => kIa 4 (Z.ia (.val v))
structure cWf (Z : cZ) : Prop where
  odd : ∀ v, Z.V v = 0 ∨ Z.V v % 2 = 1
  low : ∀ v, Z.V v < 256
  inn : ∀ v, ¬ Z.V v = 0 → v < 2880 ∧ Z.tb (v / 960) = true
  p0 : Z.pl 0 = true
  fi : Z.fi < 2
  tb : ∀ k, Z.tb k = true → k < 3
  pl : ∀ i, Z.pl i = true → i < 5
  stc : ∀ t, Z.st t < 4
structure cOk (G : kx_G) (m : Nat) (S : Nat → Int32) (A : Nat → Nat → Int32) (h : kx_H) (Z : cZ) : Prop where
  is : ∀ ρ, lvZ Z ρ → kx_is G h (Z.ad ρ) (pic G Z ρ)
  inj : ∀ ρ σ, lvZ Z ρ → lvZ Z σ → Z.ad ρ = Z.ad σ → ρ = σ
  out : ∀ ρ, lvZ Z ρ → ¬ (m ≤ Z.ad ρ ∧ Z.ad ρ ≤ m + 18)
  b1 : G.1 ≤ m
  b2 : m + 18 < h.1
  blk : ∀ a, m ≤ a → a ≤ m + 18 → h.2 a = mC m S A (a - m)
  wf : cWf Z
section KZ
variable {G : kx_G} {m : Nat} {S : Nat → Int32} {A : Nat → Nat → Int32} {h h' : kx_H} {Z Z' : cZ} {ρ : cR}
theorem cz_set (hZ : cOk G m S A h Z) (hl : lvZ Z ρ) (had : Z'.ad = Z.ad) (hlv : ∀ σ, lvZ Z' σ → lvZ Z σ) (hpc : ∀ σ, lvZ Z' σ → σ ≠ ρ → pic G Z' σ = pic G Z σ) (hw : cWf Z') : cOk G m S A (kx_set h (Z.ad ρ) (pic G Z' ρ)) Z' where
  is σ hσ := by
    by_cases e : σ = ρ
    · rw [e, had]; exact kx_is_eq (hZ.is ρ hl)
    · rw [had, hpc σ hσ e]
      exact kx_is_ne (hZ.is σ (hlv σ hσ)) (fun z => e (hZ.inj σ ρ (hlv σ hσ) hl z))
  inj σ τ h1 h2 h3 := hZ.inj σ τ (hlv σ h1) (hlv τ h2) (by rw [had] at h3; exact h3)
  out σ hσ := by rw [had]; exact hZ.out σ (hlv σ hσ)
  b1 := hZ.b1
  b2 := hZ.b2
  blk a h1 h2 := by
    show va_up _ _ _ _ = _
    rw [va_up_ne _ _ (fun z => hZ.out ρ hl (by rw [← z]; exact ⟨h1, h2⟩))]
    exact hZ.blk a h1 h2
  wf := hw
/-- more cells, the old as they were -/
theorem cz_ext (hZ : cOk G m S A h Z) (h1 : h.1 ≤ h'.1) (h2 : ∀ a, a < h.1 → h'.2 a = h.2 a) : cOk G m S A h' Z where
  is σ hσ := by
    have := hZ.is σ hσ
    exact ⟨this.1, Nat.lt_of_lt_of_le this.2.1 h1, by rw [h2 _ this.2.1]; exact this.2.2⟩
  inj := hZ.inj
  out := hZ.out
  b1 := hZ.b1
  b2 := Nat.lt_of_lt_of_le hZ.b2 h1
  blk a z1 z2 := by rw [h2 a (by have := hZ.b2; omega)]; exact hZ.blk a z1 z2
  wf := hZ.wf
theorem cz_new (hZ : cOk G m S A h Z) (c : kx_C) : cOk G m S A (kx_new h c) Z := cz_ext hZ (Nat.le_succ _) (fun a ha => va_up_ne _ _ (Nat.ne_of_lt ha))
/-- a cell that is none of ours -/
theorem cz_oth {a : Nat} (hZ : cOk G m S A h Z) (h1 : ∀ σ, lvZ Z σ → Z.ad σ ≠ a) (h2 : ¬ (m ≤ a ∧ a ≤ m + 18)) (c : kx_C) : cOk G m S A (kx_set h a c) Z where
  is σ hσ := kx_is_ne (hZ.is σ hσ) (h1 σ hσ)
  inj := hZ.inj
  out := hZ.out
  b1 := hZ.b1
  b2 := hZ.b2
  blk q z1 z2 := by
    show va_up _ _ _ _ = _
    rw [va_up_ne _ _ (fun z => h2 (by rw [← z]; exact ⟨z1, z2⟩))]
    exact hZ.blk q z1 z2
  wf := hZ.wf
/-- an address above all that was there -/
theorem cz_fr (hZ : cOk G m S A h Z) {a : Nat} (ha : h.1 ≤ a) : (∀ σ, lvZ Z σ → Z.ad σ ≠ a) ∧ ¬ (m ≤ a ∧ a ≤ m + 18) := ⟨fun σ hσ z => by have := (hZ.is σ hσ).2.1; omega, fun z => by have := hZ.b2; omega⟩
/-- the reference's part of the heap -/
theorem cz_mH (hZ : cOk G m S A h Z) : h = mH h m S A := by
  refine Prod.ext rfl ?_
  funext a
  simp only [mH]
  by_cases e : m ≤ a ∧ a ≤ m + 18
  · rw [if_pos e]; exact hZ.blk a e.1 e.2
  · rw [if_neg e]
theorem cz_mOk (hZ : cOk G m S A h Z) : mOk G h m := ⟨hZ.b1, hZ.b2⟩
theorem cz_ref {S1 : Nat → Int32} {A1 : Nat → Nat → Int32} (hZ : cOk G m S A h Z) : cOk G m S1 A1 (mH h m S1 A1) Z where
  is σ hσ := by
    have := hZ.is σ hσ
    refine ⟨this.1, this.2.1, ?_⟩
    show (if _ then _ else _) = _
    rw [if_neg (hZ.out σ hσ)]; exact this.2.2
  inj := hZ.inj
  out := hZ.out
  b1 := hZ.b1
  b2 := hZ.b2
  blk a z1 z2 := if_pos ⟨z1, z2⟩
  wf := hZ.wf
/-! what is written -/
def cZ.sS (Z : cZ) (ρ : cR) (j : Nat) (x : Int32) : cZ := { Z with sc := fun σ k => if σ = ρ ∧ k = j then x else Z.sc σ k }
def cZ.sI (Z : cZ) (ρ : cR) (f : Nat → Int32) : cZ := { Z with ia := fun σ => if σ = ρ then f else Z.ia σ }
theorem lv_sS (ρ : cR) (j : Nat) (x : Int32) (σ : cR) : lvZ (Z.sS ρ j x) σ ↔ lvZ Z σ := by cases σ <;> exact Iff.rfl
theorem lv_sI (ρ : cR) (f : Nat → Int32) (σ : cR) : lvZ (Z.sI ρ f) σ ↔ lvZ Z σ := by cases σ <;> exact Iff.rfl
theorem wf_sS (ρ : cR) (j : Nat) (x : Int32) (h : cWf Z) : cWf (Z.sS ρ j x) := ⟨h.odd, h.low, h.inn, h.p0, h.fi, h.tb, h.pl, h.stc⟩
theorem wf_sI (ρ : cR) (f : Nat → Int32) (h : cWf Z) : cWf (Z.sI ρ f) := ⟨h.odd, h.low, h.inn, h.p0, h.fi, h.tb, h.pl, h.stc⟩
theorem sc_ne {σ : cR} {j k : Nat} {x : Int32} (hne : σ ≠ ρ) : (Z.sS ρ j x).sc σ k = Z.sc σ k := if_neg (fun z => hne z.1)
theorem sc_nj {σ : cR} {j k : Nat} {x : Int32} (hne : k ≠ j) : (Z.sS ρ j x).sc σ k = Z.sc σ k := if_neg (fun z => hne z.2)
theorem sc_eq {j : Nat} {x : Int32} : (Z.sS ρ j x).sc ρ j = x := if_pos ⟨rfl, rfl⟩
theorem ia_ne {σ : cR} {f : Nat → Int32} (hne : σ ≠ ρ) : (Z.sI ρ f).ia σ = Z.ia σ := if_neg hne
theorem ia_eq {f : Nat → Int32} : (Z.sI ρ f).ia ρ = f := if_pos rfl
theorem pic_sS (ρ : cR) (j : Nat) (x : Int32) (σ : cR) (hne : σ ≠ ρ) : pic G (Z.sS ρ j x) σ = pic G Z σ := by
  cases σ <;> first | rfl | (simp only [pic, sc_ne hne]; try rfl)
theorem pic_sI (ρ : cR) (f : Nat → Int32) (σ : cR) (hne : σ ≠ ρ) : pic G (Z.sI ρ f) σ = pic G Z σ := by
  cases σ <;> first | rfl | (simp only [pic, ia_ne hne])
theorem cz_sS (hZ : cOk G m S A h Z) (hl : lvZ Z ρ) (j : Nat) (x : Int32) {c : kx_C} (hc : pic G (Z.sS ρ j x) ρ = c) : cOk G m S A (kx_set h (Z.ad ρ) c) (Z.sS ρ j x) := by
  rw [← hc]
  exact cz_set hZ hl rfl (fun σ h => (lv_sS ρ j x σ).mp h) (fun σ _ hne => pic_sS ρ j x σ hne) (wf_sS ρ j x hZ.wf)
theorem cz_sI (hZ : cOk G m S A h Z) (hl : lvZ Z ρ) (f : Nat → Int32) {c : kx_C} (hc : pic G (Z.sI ρ f) ρ = c) : cOk G m S A (kx_set h (Z.ad ρ) c) (Z.sI ρ f) := by
  rw [← hc]
  exact cz_set hZ hl rfl (fun σ h => (lv_sI ρ f σ).mp h) (fun σ _ hne => pic_sI ρ f σ hne) (wf_sI ρ f hZ.wf)
end KZ
