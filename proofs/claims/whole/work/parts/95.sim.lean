/-! ===== the two sides say the same ===== -/
section KS0
variable {G : kx_G} {l : Launch} {m : Nat} {S S1 : Nat → Int32} {A A1 : Nat → Nat → Int32} {h h' : kx_H} {Z Z' : cZ} {bg ln rs : Nat} {MD SC CL : Nat → Nat} {PI : Nat → List Int32}
def sTr (Z : cZ) (S : Nat → Int32) (A : Nat → Nat → Int32) (bg : Nat) : Prop := Z.sc rTr 1 = nI bg ∧ bg ≤ 40 ∧ S 7 = nI bg ∧ S 8 = Z.sc rTr 2 ∧ (∀ t, A 6 t = nI (Z.st t)) ∧ ∀ t, t = 0 ∨ bg < t → Z.st t = 0
def sLn (Z : cZ) (S : Nat → Int32) (A : Nat → Nat → Int32) (ln : Nat) : Prop := Z.sc rV 3 = nI ln ∧ ln ≤ 40 ∧ S 10 = nI ln ∧ S 11 = Z.sc rV 4 ∧ A 7 = Z.ia rLin
def sTb (Z : cZ) (A : Nat → Nat → Int32) (MD SC CL : Nat → Nat) : Prop := cNm Z MD SC CL ∧ (∀ k, A 1 k = nI (CL k)) ∧ (∀ k, CL k ≤ 4) ∧ (∀ k, A 2 k = nI (MD k)) ∧ (∀ k, MD k ≤ 24) ∧ (∀ k, A 3 k = nI (SC k)) ∧ (∀ k, SC k ≤ 40) ∧ ∀ k, k < 3 → (Z.tb k = true → ¬ CL k = 0) ∧ (Z.tb k = false → CL k = 0 ∧ MD k = 0 ∧ SC k = 0)
def sVr (Z : cZ) (A : Nat → Nat → Int32) (bg : Nat) (MD : Nat → Nat) : Prop := (∀ v, A 4 v = nI (Z.V v)) ∧ cRw Z MD ∧ (∀ v, ¬ Z.V v = 0 → v % 40 + 1 ≤ bg) ∧ ∀ v, ¬ Z.V v = 0 → Z.V v / 2 % 2 = 0 → ∀ c, c < 4 → A 5 (4 * v + c) = Z.ia (rVal v) c
def sPr (Z : cZ) (A : Nat → Nat → Int32) (PI : Nat → List Int32) : Prop := okC (PI 0) ∧ Z.sc (rPrg 0) 2 = nI (PI 0).length ∧ prg (Z.ia (rStp 0)) (PI 0) ∧ cSet Z (fun c => PI (c + 1)) ∧ (∀ c, c < 4 → PI (c + 1) = [] ∨ okS (PI (c + 1))) ∧ (∀ i, i < 5 → A 9 i = nI (PI i).length ∧ atL (A 8) (44 * i) (PI i)) ∧ ∀ c, c < 4 → (¬ A 10 c = 0 ↔ Z.pl (c + 1) = true)
def sRs (Z : cZ) (S : Nat → Int32) (A : Nat → Nat → Int32) (rs : Nat) : Prop := S 25 = nI rs ∧ rs ≤ 24 ∧ Z.sc (rRs Z.fi) 2 = nI rs ∧ ∀ i, i < rs → A 14 i = Z.ia (rNum Z.fi) i ∧ ∀ c, c < 4 → A 15 (4 * i + c) = Z.ia (rInn (24 * Z.fi + i)) c
def sim (Z : cZ) (S : Nat → Int32) (A : Nat → Nat → Int32) : Prop := ∃ (bg ln rs : Nat) (MD SC CL : Nat → Nat) (PI : Nat → List Int32), sTr Z S A bg ∧ sLn Z S A ln ∧ sTb Z A MD SC CL ∧ sVr Z A bg MD ∧ sPr Z A PI ∧ sRs Z S A rs
/-! what each of them looks at -/
theorem sTr.of (h : sTr Z S A bg) (a1 : Z'.sc rTr 1 = Z.sc rTr 1) (a2 : Z'.sc rTr 2 = Z.sc rTr 2) (b : Z'.st = Z.st) (c7 : S1 7 = S 7) (c8 : S1 8 = S 8) (c6 : A1 6 = A 6) : sTr Z' S1 A1 bg := by
  unfold sTr at *
  rw [a1, a2, b, c7, c8, c6]; exact h
theorem sLn.of (h : sLn Z S A ln) (a1 : Z'.sc rV 3 = Z.sc rV 3) (a2 : Z'.sc rV 4 = Z.sc rV 4) (b : Z'.ia rLin = Z.ia rLin) (c0 : S1 10 = S 10) (c1 : S1 11 = S 11) (c7 : A1 7 = A 7) : sLn Z' S1 A1 ln := by
  unfold sLn at *
  rw [a1, a2, b, c0, c1, c7]; exact h
theorem sTb.of (h : sTb Z A MD SC CL) (a0 : ∀ k, Z'.sc (rTab k) 0 = Z.sc (rTab k) 0) (a2 : ∀ k, Z'.sc (rTab k) 2 = Z.sc (rTab k) 2) (a3 : ∀ k, Z'.sc (rTab k) 3 = Z.sc (rTab k) 3) (b : Z'.tb = Z.tb) (c1 : A1 1 = A 1) (c2 : A1 2 = A 2) (c3 : A1 3 = A 3) : sTb Z' A1 MD SC CL := by
  obtain ⟨h1, h2⟩ := h
  refine ⟨fun k hk ht => ?_, ?_⟩
  · rw [a0 k, a2 k, a3 k]; exact h1 k hk (by rw [← b]; exact ht)
  · rw [b, c1, c2, c3]; exact h2
theorem sVr.of (h : sVr Z A bg MD) (a : Z'.V = Z.V) (b : ∀ v, ¬ Z.V v = 0 → Z'.ia (rVal v) = Z.ia (rVal v)) (c4 : A1 4 = A 4) (c5 : A1 5 = A 5) : sVr Z' A1 bg MD := by
  obtain ⟨h1, h2, h3, h4⟩ := h
  refine ⟨by rw [a, c4]; exact h1, fun v hv => h2 v (by rw [← a]; exact hv), by rw [a]; exact h3, fun v hv hg c hc => ?_⟩
  rw [a] at hv hg
  rw [b v hv, c5]; exact h4 v hv hg c hc
theorem sPr.of (h : sPr Z A PI) (a : ∀ i, Z'.sc (rPrg i) 2 = Z.sc (rPrg i) 2) (b : ∀ i, Z'.ia (rStp i) = Z.ia (rStp i)) (c : Z'.pl = Z.pl) (c8 : A1 8 = A 8) (c9 : A1 9 = A 9) (c10 : A1 10 = A 10) : sPr Z' A1 PI := by
  obtain ⟨h1, h2, h3, h4, h5, h6, h7⟩ := h
  refine ⟨h1, by rw [a]; exact h2, by rw [b]; exact h3, fun x hx hp => ?_, h5, by rw [c8, c9]; exact h6, by rw [c, c10]; exact h7⟩
  rw [a, b]; exact h4 x hx (by rw [← c]; exact hp)
theorem sRs.of (h : sRs Z S A rs) (a : Z'.sc (rRs Z.fi) 2 = Z.sc (rRs Z.fi) 2) (b : Z'.ia (rNum Z.fi) = Z.ia (rNum Z.fi)) (c : ∀ i, i < 24 → Z'.ia (rInn (24 * Z.fi + i)) = Z.ia (rInn (24 * Z.fi + i))) (f : Z'.fi = Z.fi) (c25 : S1 25 = S 25) (c14 : A1 14 = A 14) (c15 : A1 15 = A 15) : sRs Z' S1 A1 rs := by
  obtain ⟨h1, h2, h3, h4⟩ := h
  refine ⟨by rw [c25]; exact h1, h2, by rw [f, a]; exact h3, fun i hi => ?_⟩
  rw [f, b, c i (by omega), c14, c15]; exact h4 i hi
/-! frames -/
theorem sim_ref (h : sim Z S A) (c7 : S1 7 = S 7) (c8 : S1 8 = S 8) (d0 : S1 10 = S 10) (d1 : S1 11 = S 11) (d25 : S1 25 = S 25) (a1 : A1 1 = A 1) (a2 : A1 2 = A 2) (a3 : A1 3 = A 3) (a4 : A1 4 = A 4) (a5 : A1 5 = A 5) (a6 : A1 6 = A 6) (a7 : A1 7 = A 7) (a8 : A1 8 = A 8) (a9 : A1 9 = A 9) (a10 : A1 10 = A 10) (a14 : A1 14 = A 14) (a15 : A1 15 = A 15) : sim Z S1 A1 := by
  obtain ⟨bg, ln, rs, MD, SC, CL, PI, h1, h2, h3, h4, h5, h6⟩ := h
  exact ⟨bg, ln, rs, MD, SC, CL, PI, h1.of rfl rfl rfl c7 c8 a6, h2.of rfl rfl rfl d0 d1 a7, h3.of (fun _ => rfl) (fun _ => rfl) (fun _ => rfl) rfl a1 a2 a3, h4.of rfl (fun _ _ => rfl) a4 a5, h5.of (fun _ => rfl) (fun _ => rfl) rfl a8 a9 a10, h6.of rfl rfl (fun _ _ => rfl) rfl d25 a14 a15⟩
theorem sim_S0 {c : Int32} (h : sim Z S A) : sim Z (va_up S 0 c) A := sim_ref h rfl rfl rfl rfl rfl rfl rfl rfl rfl rfl rfl rfl rfl rfl rfl rfl rfl
theorem sim_look (h : sim Z S A) (hS : ∀ k, k ≠ 0 → k ≠ 22 → S1 k = S k) (hA : ∀ k, k ≠ 12 → k ≠ 16 → k ≠ 17 → k ≠ 18 → A1 k = A k) : sim Z S1 A1 := sim_ref h (hS _ (by decide) (by decide)) (hS _ (by decide) (by decide)) (hS _ (by decide) (by decide)) (hS _ (by decide) (by decide)) (hS _ (by decide) (by decide)) (hA _ (by decide) (by decide) (by decide) (by decide)) (hA _ (by decide) (by decide) (by decide) (by decide)) (hA _ (by decide) (by decide) (by decide) (by decide)) (hA _ (by decide) (by decide) (by decide) (by decide)) (hA _ (by decide) (by decide) (by decide) (by decide)) (hA _ (by decide) (by decide) (by decide) (by decide)) (hA _ (by decide) (by decide) (by decide) (by decide)) (hA _ (by decide) (by decide) (by decide) (by decide)) (hA _ (by decide) (by decide) (by decide) (by decide)) (hA _ (by decide) (by decide) (by decide) (by decide)) (hA _ (by decide) (by decide) (by decide) (by decide)) (hA _ (by decide) (by decide) (by decide) (by decide))
theorem uFr_of_c {sc ia : cR → Nat → Int32} (h : cFr Z sc ia) : uFr Z sc ia := by
  obtain ⟨h1, h2, h3⟩ := h
  refine ⟨fun σ a b => h1 σ a (fun z => b (by rw [z])), fun i => ?_, fun σ a b c d => h3 σ a (fun z => b (by rw [z])) d⟩
  by_cases e : i = 0
  · rw [e]; exact h2
  · rw [h1 (rPrg i) (fun z => absurd (congrArg Prod.fst z) (show (7 : Nat) ≠ 10 by decide)) (fun z => e (congrArg Prod.snd z))]
theorem fi_ne (x : Nat) : x ≠ 1 - x := by omega
/-- the relation, with its numbers -/
def simX (Z : cZ) (S : Nat → Int32) (A : Nat → Nat → Int32) (bg ln rs : Nat) (MD SC CL : Nat → Nat) (PI : Nat → List Int32) : Prop := sTr Z S A bg ∧ sLn Z S A ln ∧ sTb Z A MD SC CL ∧ sVr Z A bg MD ∧ sPr Z A PI ∧ sRs Z S A rs
/-- what a statement may leave behind is not seen -/
theorem simX_cls (h : simX Z S A bg ln rs MD SC CL PI) (hu : uFr Z Z'.sc Z'.ia) (h1 : Z'.tb = Z.tb) (h2 : Z'.V = Z.V) (h3 : Z'.pl = Z.pl) (h4 : Z'.st = Z.st) (h5 : Z'.fi = Z.fi) : simX Z' S A bg ln rs MD SC CL PI := by
  obtain ⟨g1, g2, g3, g4, g5, g6⟩ := h
  obtain ⟨u1, u2, u3⟩ := hu
  have sc_of : ∀ t i, t ≠ 7 → t ≠ 10 → Z'.sc (t, i) = Z.sc (t, i) := fun t i a b => u1 _ (fun z => b (congrArg Prod.fst z)) a
  have ia_of : ∀ t i, t ≠ 9 → t ≠ 6 → t ≠ 11 → t ≠ 13 → Z'.ia (t, i) = Z.ia (t, i) := fun t i a b c d => u3 _ (fun z => c (congrArg Prod.fst z)) a b (fun j _ z => d (congrArg Prod.fst z))
  refine ⟨g1.of (congrFun (sc_of _ _ (by decide) (by decide)) 1) (congrFun (sc_of _ _ (by decide) (by decide)) 2) h4 rfl rfl rfl, g2.of (congrFun (sc_of _ _ (by decide) (by decide)) 3) (congrFun (sc_of _ _ (by decide) (by decide)) 4) (ia_of _ _ (by decide) (by decide) (by decide) (by decide)) rfl rfl rfl, g3.of (fun k => congrFun (sc_of _ _ (by decide) (by decide)) 0) (fun k => congrFun (sc_of _ _ (by decide) (by decide)) 2) (fun k => congrFun (sc_of _ _ (by decide) (by decide)) 3) h1 rfl rfl rfl, g4.of h2 (fun v _ => ia_of _ _ (by decide) (by decide) (by decide) (by decide)) rfl rfl, g5.of u2 (fun i => ia_of _ _ (by decide) (by decide) (by decide) (by decide)) h3 rfl rfl rfl, g6.of ?_ ?_ (fun i hi => ?_) h5 rfl rfl rfl⟩
  · exact congrFun (u1 _ (fun z => fi_ne _ (congrArg Prod.snd z)) (show (10 : Nat) ≠ 7 by decide)) 2
  · exact u3 _ (fun z => fi_ne _ (congrArg Prod.snd z)) (show (11 : Nat) ≠ 9 by decide) (show (11 : Nat) ≠ 6 by decide) (fun j _ z => absurd (congrArg Prod.fst z) (show (11 : Nat) ≠ 13 by decide))
  · refine u3 _ (fun z => absurd (congrArg Prod.fst z) (show (13 : Nat) ≠ 11 by decide)) (show (13 : Nat) ≠ 9 by decide) (show (13 : Nat) ≠ 6 by decide) (fun j hj z => ?_)
    have := congrArg Prod.snd z
    have e : 24 * Z.fi + i = 24 * (1 - Z.fi) + j := this
    omega
theorem sim_cls (h : sim Z S A) (hu : uFr Z Z'.sc Z'.ia) (h1 : Z'.tb = Z.tb) (h2 : Z'.V = Z.V) (h3 : Z'.pl = Z.pl) (h4 : Z'.st = Z.st) (h5 : Z'.fi = Z.fi) : sim Z' S A := by
  obtain ⟨bg, ln, rs, MD, SC, CL, PI, g⟩ := h
  exact ⟨bg, ln, rs, MD, SC, CL, PI, simX_cls g hu h1 h2 h3 h4 h5⟩
/-! the same questions -/
theorem nI_small {a b : Nat} (ha : a < 1000) (hb : b < 1000) (h : nI a = nI b) : a = b := by
  have h1 : (nI a).toInt = a := by rw [nI_toInt (by omega)]
  have h2 : (nI b).toInt = b := by rw [nI_toInt (by omega)]
  rw [h] at h1; omega
theorem st_iff (hT : sTr Z S A bg) (hw : cWf Z) (t x : Nat) (hx : x < 4) : A 6 t = nI x ↔ Z.st t = x := by
  rw [hT.2.2.2.2.1 t]
  exact ⟨fun z => nI_small (by have := hw.stc t; omega) (by omega) z, fun z => by rw [z]⟩
theorem op_iff (hT : sTr Z S A bg) (hw : cWf Z) (t : Int32) : mOp A bg t ↔ cOp Z bg t :=
  ⟨fun ⟨tn, a, b, c, d⟩ => ⟨tn, a, b, c, (st_iff hT hw tn 1 (by decide)).mp d⟩, fun ⟨tn, a, b, c, d⟩ => ⟨tn, a, b, c, (st_iff hT hw tn 1 (by decide)).mpr d⟩⟩
theorem cl_iff (hB : sTb Z A MD SC CL) {k : Nat} (hk : k < 3) : ¬ A 1 k = 0 ↔ Z.tb k = true := by
  obtain ⟨-, c1, c2, -, -, -, -, c8⟩ := hB
  obtain ⟨e1, e2⟩ := c8 k hk
  rw [c1 k]
  constructor
  · intro z
    by_cases e : Z.tb k = true
    · exact e
    · exact absurd (by rw [(e2 (kB_f e)).1]; rfl) z
  · intro z y
    have : CL k = 0 := nI_small (by have := c2 k; omega) (by omega) (y.trans (show (0 : Int32) = nI 0 from rfl))
    exact e1 z this
theorem tb_iff (hB : sTb Z A MD SC CL) (k : Int32) : mTb A k ↔ cTb Z k :=
  ⟨fun ⟨kn, a, b, c⟩ => ⟨kn, a, b, (cl_iff hB a).mp c⟩, fun ⟨kn, a, b, c⟩ => ⟨kn, a, b, (cl_iff hB a).mpr c⟩⟩
/-! what a call of the class and then of the reference say -/
def rQi (G : kx_G) (l : Launch) (m : Nat) (S : Nat → Int32) (A : Nat → Nat → Int32) (N : kx_M) (as : List Value) (Z' : cZ) (k : Nat) (v : Int32) : Prop := ∀ h', cOk G m S A h' Z' → kx_c G l N 19 0 0 as h' (fun o2 h2 => ∃ (b : Int32) (S1 : Nat → Int32) (A1 : Nat → Nat → Int32), o2 = .returned (some (.int b)) ∧ h2 = mH h' m S1 A1 ∧ S1 0 = nI k ∧ (k = 0 → b = v) ∧ sim Z' S1 A1)
def rQd (G : kx_G) (l : Launch) (m : Nat) (S : Nat → Int32) (A : Nat → Nat → Int32) (N : kx_M) (as : List Value) (Z' : cZ) (k : Nat) (v : UInt64) : Prop := ∀ h', cOk G m S A h' Z' → kx_c G l N 19 0 0 as h' (fun o2 h2 => ∃ (b : UInt64) (S1 : Nat → Int32) (A1 : Nat → Nat → Int32), o2 = .returned (some (.double b)) ∧ h2 = mH h' m S1 A1 ∧ S1 0 = nI k ∧ (k = 0 → b = v) ∧ sim Z' S1 A1)
def rQv (G : kx_G) (l : Launch) (m : Nat) (S : Nat → Int32) (A : Nat → Nat → Int32) (N : kx_M) (as : List Value) (Z' : cZ) (k : Nat) : Prop := ∀ h', cOk G m S A h' Z' → kx_c G l N 19 0 0 as h' (fun o2 h2 => ∃ (S1 : Nat → Int32) (A1 : Nat → Nat → Int32), o2 = .returned none ∧ h2 = mH h' m S1 A1 ∧ S1 0 = nI k ∧ sim Z' S1 A1)
theorem kx_ch {N : kx_M} {d mc ms : Nat} {as : List Value} {h2 : kx_H} {Q : Outcome → kx_H → Prop} (e : h = h2) (k : kx_c G l N d mc ms as h2 Q) : kx_c G l N d mc ms as h Q := by rw [e]; exact k
theorem rQi_of {N : kx_M} {as : List Value} {k : Nat} {v : Int32} {Qm : kx_H → Outcome → kx_H → Prop} (hc : ∀ h', mOk G h' m → kx_c G l N 19 0 0 as (mH h' m S A) (Qm h')) (hq : ∀ h' o2 h2, cWf Z' → Qm h' o2 h2 → ∃ (b : Int32) (S1 : Nat → Int32) (A1 : Nat → Nat → Int32), o2 = .returned (some (.int b)) ∧ h2 = mH h' m S1 A1 ∧ S1 0 = nI k ∧ (k = 0 → b = v) ∧ sim Z' S1 A1) : rQi G l m S A N as Z' k v :=
  fun h' hz => kx_ch (cz_mH hz) (kx_cc (fun o2 h2 => hq h' o2 h2 hz.wf) (hc h' (cz_mOk hz)))
theorem rQd_of {N : kx_M} {as : List Value} {k : Nat} {v : UInt64} {Qm : kx_H → Outcome → kx_H → Prop} (hc : ∀ h', mOk G h' m → kx_c G l N 19 0 0 as (mH h' m S A) (Qm h')) (hq : ∀ h' o2 h2, cWf Z' → Qm h' o2 h2 → ∃ (b : UInt64) (S1 : Nat → Int32) (A1 : Nat → Nat → Int32), o2 = .returned (some (.double b)) ∧ h2 = mH h' m S1 A1 ∧ S1 0 = nI k ∧ (k = 0 → b = v) ∧ sim Z' S1 A1) : rQd G l m S A N as Z' k v :=
  fun h' hz => kx_ch (cz_mH hz) (kx_cc (fun o2 h2 => hq h' o2 h2 hz.wf) (hc h' (cz_mOk hz)))
theorem rQv_of {N : kx_M} {as : List Value} {k : Nat} {Qm : kx_H → Outcome → kx_H → Prop} (hc : ∀ h', mOk G h' m → kx_c G l N 19 0 0 as (mH h' m S A) (Qm h')) (hq : ∀ h' o2 h2, cWf Z' → Qm h' o2 h2 → ∃ (S1 : Nat → Int32) (A1 : Nat → Nat → Int32), o2 = .returned none ∧ h2 = mH h' m S1 A1 ∧ S1 0 = nI k ∧ sim Z' S1 A1) : rQv G l m S A N as Z' k :=
  fun h' hz => kx_ch (cz_mH hz) (kx_cc (fun o2 h2 => hq h' o2 h2 hz.wf) (hc h' (cz_mOk hz)))
/-- the class's call, its answer laid into the array -/
def oQi (G : kx_G) (l : Launch) (m : Nat) (S : Nat → Int32) (A : Nat → Nat → Int32) (Z : cZ) (N : kx_M) (as : List Value) (o : Outcome) (h' : kx_H) : Prop := ∃ (k : Nat) (v : Int32) (Z' : cZ) (f : Nat → Int64), o = .returned (some (.int (nI k))) ∧ k < 10 ∧ Z'.ad rV = Z.ad rV ∧ cOk G m S A h' Z' ∧ h'.2 (m + 19) = kLa f ∧ (k = 0 → f 0 = v.toInt64) ∧ rQi G l m S A N as Z' k v
def oQd (G : kx_G) (l : Launch) (m : Nat) (S : Nat → Int32) (A : Nat → Nat → Int32) (Z : cZ) (N : kx_M) (as : List Value) (o : Outcome) (h' : kx_H) : Prop := ∃ (k : Nat) (v : UInt64) (Z' : cZ) (f : Nat → UInt64), o = .returned (some (.int (nI k))) ∧ k < 10 ∧ Z'.ad rV = Z.ad rV ∧ cOk G m S A h' Z' ∧ h'.2 (m + 20) = kDa f ∧ (k = 0 → f 0 = v) ∧ rQd G l m S A N as Z' k v
def oQv (G : kx_G) (l : Launch) (m : Nat) (S : Nat → Int32) (A : Nat → Nat → Int32) (Z : cZ) (N : kx_M) (as : List Value) (o : Outcome) (h' : kx_H) : Prop := ∃ (k : Nat) (Z' : cZ), o = .returned (some (.int (nI k))) ∧ k < 10 ∧ Z'.ad rV = Z.ad rV ∧ cOk G m S A h' Z' ∧ rQv G l m S A N as Z' k
/-- straight: the class's answer itself -/
def oQs (G : kx_G) (l : Launch) (m : Nat) (S : Nat → Int32) (A : Nat → Nat → Int32) (Z : cZ) (N : kx_M) (as : List Value) (o : Outcome) (h' : kx_H) : Prop := ∃ (v : Int32) (Z' : cZ), o = .returned (some (.int v)) ∧ Z'.ad rV = Z.ad rV ∧ cOk G m S A h' Z' ∧ rQi G l m S A N as Z' 0 v
variable {N : kx_M} {as : List Value}
theorem oQi_t (k : Nat) (hk : ¬ k = 0) (hk2 : k < 10) (hZ' : cOk G m S A h' Z') (had : Z'.ad rV = Z.ad rV) (hr : rQi G l m S A N as Z' k 0) : oQi G l m S A Z N as (.returned (some (.int (nI k)))) h' := by
  obtain ⟨f, hf⟩ := hZ'.blk.2.1
  exact ⟨k, 0, Z', f, rfl, hk2, had, hZ', hf, fun z => absurd z hk, hr⟩
theorem oQd_t (k : Nat) (hk : ¬ k = 0) (hk2 : k < 10) (hZ' : cOk G m S A h' Z') (had : Z'.ad rV = Z.ad rV) (hr : rQd G l m S A N as Z' k 0) : oQd G l m S A Z N as (.returned (some (.int (nI k)))) h' := by
  obtain ⟨f, hf⟩ := hZ'.blk.2.2
  exact ⟨k, 0, Z', f, rfl, hk2, had, hZ', hf, fun z => absurd z hk, hr⟩
theorem oQi_r {h1 : kx_H} {v : Int32} {f : Nat → Int64} (hZ' : cOk G m S A h1 Z') (had : Z'.ad rV = Z.ad rV) (hr : rQi G l m S A N as Z' 0 v) : oQi G l m S A Z N as (.returned (some (.int 0))) (kx_set h1 (m + 19) (kLa (va_up f 0 v.toInt64))) :=
  ⟨0, v, Z', va_up f 0 v.toInt64, rfl, by decide, had, cz_ar hZ' (Or.inl ⟨rfl, _, rfl⟩), va_up_self _ _ _, fun _ => va_up_self _ _ _, hr⟩
theorem oQd_r {h1 : kx_H} {v : UInt64} {f : Nat → UInt64} (hZ' : cOk G m S A h1 Z') (had : Z'.ad rV = Z.ad rV) (hr : rQd G l m S A N as Z' 0 v) : oQd G l m S A Z N as (.returned (some (.int 0))) (kx_set h1 (m + 20) (kDa (va_up f 0 v))) :=
  ⟨0, v, Z', va_up f 0 v, rfl, by decide, had, cz_ar hZ' (Or.inr ⟨rfl, _, rfl⟩), va_up_self _ _ _, fun _ => va_up_self _ _ _, hr⟩
theorem oQs_r {v : Int32} (hZ' : cOk G m S A h' Z') (had : Z'.ad rV = Z.ad rV) (hr : rQi G l m S A N as Z' 0 v) : oQs G l m S A Z N as (.returned (some (.int v))) h' := ⟨v, Z', rfl, had, hZ', hr⟩
theorem oQv_r (k : Nat) (hk2 : k < 10) (hZ' : cOk G m S A h' Z') (had : Z'.ad rV = Z.ad rV) (hr : rQv G l m S A N as Z' k) : oQv G l m S A Z N as (.returned (some (.int (nI k)))) h' := ⟨k, Z', rfl, hk2, had, hZ', hr⟩
theorem a19 (hZ : cOk G m S A h Z) : ∃ f, kx_is G h (m + 19) (kLa f) := by
  obtain ⟨f, hf⟩ := hZ.blk.2.1
  exact ⟨f, by have := hZ.b1; omega, by have := hZ.b2; omega, hf⟩
theorem a20 (hZ : cOk G m S A h Z) : ∃ f, kx_is G h (m + 20) (kDa f) := by
  obtain ⟨f, hf⟩ := hZ.blk.2.2
  exact ⟨f, by have := hZ.b1; omega, by have := hZ.b2; omega, hf⟩
end KS0
