/-! ===== the other side: rows chosen ===== -/
section KC37
variable {G : kx_G} {l : Launch} {d : Nat} {h : kx_H} {m : Nat} {S : Nat → Int32} {A : Nat → Nat → Int32} {Z : cZ}
def cZ.wA (Z : cZ) (sc ia : cR → Nat → Int32) : cZ := (Z.ad, sc, ia, Z.tb, Z.V, Z.pl, Z.st, Z.fi)
def upS (sc : cR → Nat → Int32) (ρ : cR) (j : Nat) (x : Int32) : cR → Nat → Int32 := fun σ k => if k = j ∧ σ = ρ then x else sc σ k
def upI (ia : cR → Nat → Int32) (ρ : cR) (f : Nat → Int32) : cR → Nat → Int32 := fun σ => if σ = ρ then f else ia σ
theorem upS_ne {sc : cR → Nat → Int32} {ρ σ : cR} {j : Nat} {x : Int32} (h : σ ≠ ρ) : upS sc ρ j x σ = sc σ := funext fun _ => if_neg (fun z => h z.2)
theorem upS_eq {sc : cR → Nat → Int32} {ρ : cR} {j : Nat} {x : Int32} : upS sc ρ j x ρ j = x := if_pos ⟨rfl, rfl⟩
theorem upS_nj {sc : cR → Nat → Int32} {ρ σ : cR} {j k : Nat} {x : Int32} (h : k ≠ j) : upS sc ρ j x σ k = sc σ k := if_neg (fun z => h z.1)
theorem upI_ne {ia : cR → Nat → Int32} {ρ σ : cR} {f : Nat → Int32} (h : σ ≠ ρ) : upI ia ρ f σ = ia σ := if_neg h
theorem upI_eq {ia : cR → Nat → Int32} {ρ : cR} {f : Nat → Int32} : upI ia ρ f ρ = f := if_pos rfl
theorem tag_ne {a b c d : Nat} (h : a ≠ c) : ((a, b) : cR) ≠ (c, d) := fun z => h (congrArg Prod.fst z)
theorem arg_ne {a b c d : Nat} (h : b ≠ d) : ((a, b) : cR) ≠ (c, d) := fun z => h (congrArg Prod.snd z)
/-- what a choice leaves alone -/
def cFr (Z : cZ) (sc ia : cR → Nat → Int32) : Prop := (∀ σ, σ ≠ rRs (1 - Z.fi) → σ ≠ rPrg 0 → sc σ = Z.sc σ) ∧ sc (rPrg 0) 2 = Z.sc (rPrg 0) 2 ∧ ∀ σ, σ ≠ rNum (1 - Z.fi) → σ ≠ rStk 0 → (∀ i, i < 24 → σ ≠ rInn (24 * (1 - Z.fi) + i)) → ia σ = Z.ia σ
theorem cFr_r (Z : cZ) : cFr Z Z.sc Z.ia := ⟨fun _ _ _ => rfl, rfl, fun _ _ _ _ => rfl⟩
theorem cFr_sP {sc ia : cR → Nat → Int32} {x : Int32} (h : cFr Z sc ia) : cFr Z (upS sc (rPrg 0) 3 x) ia := ⟨fun σ h1 h2 => by rw [upS_ne h2]; exact h.1 σ h1 h2, by rw [upS_nj (by decide)]; exact h.2.1, h.2.2⟩
theorem cFr_sR {sc ia : cR → Nat → Int32} {x : Int32} (h : cFr Z sc ia) : cFr Z (upS sc (rRs (1 - Z.fi)) 2 x) ia := ⟨fun σ h1 h2 => by rw [upS_ne h1]; exact h.1 σ h1 h2, by rw [upS_ne (tag_ne (by decide))]; exact h.2.1, h.2.2⟩
theorem cFr_iK {sc ia : cR → Nat → Int32} {f : Nat → Int32} (h : cFr Z sc ia) : cFr Z sc (upI ia (rStk 0) f) := ⟨h.1, h.2.1, fun σ h1 h2 h3 => by rw [upI_ne h2]; exact h.2.2 σ h1 h2 h3⟩
theorem cFr_iN {sc ia : cR → Nat → Int32} {f : Nat → Int32} (h : cFr Z sc ia) : cFr Z sc (upI ia (rNum (1 - Z.fi)) f) := ⟨h.1, h.2.1, fun σ h1 h2 h3 => by rw [upI_ne h1]; exact h.2.2 σ h1 h2 h3⟩
theorem cFr_iI {sc ia : cR → Nat → Int32} {f : Nat → Int32} {i : Nat} (hi : i < 24) (h : cFr Z sc ia) : cFr Z sc (upI ia (rInn (24 * (1 - Z.fi) + i)) f) := ⟨h.1, h.2.1, fun σ h1 h2 h3 => by rw [upI_ne (h3 i hi)]; exact h.2.2 σ h1 h2 h3⟩
/-- the rows that stand chosen -/
def chs (Z : cZ) (sc ia : cR → Nat → Int32) (L : List Nat) (vals : Nat → Nat → Int32) : Prop := sc (rRs (1 - Z.fi)) 2 = nI L.length ∧ ∀ i r, L[i]? = some r → ia (rNum (1 - Z.fi)) i = nI r ∧ ∀ c, c < 4 → ia (rInn (24 * (1 - Z.fi) + i)) c = vals r c
theorem chs_h {sc ia : cR → Nat → Int32} {L : List Nat} {vals : Nat → Nat → Int32} {K : Nat → Int32} {x : Int32} (h : chs Z sc ia L vals) : chs Z (upS sc (rPrg 0) 3 x) (upI ia (rStk 0) K) L vals := ⟨by rw [upS_ne (tag_ne (by decide))]; exact h.1, fun i r hr => ⟨by rw [upI_ne (tag_ne (by decide))]; exact (h.2 i r hr).1, fun c hc => by rw [upI_ne (tag_ne (by decide))]; exact (h.2 i r hr).2 c hc⟩⟩
theorem chs_add {sc ia : cR → Nat → Int32} {L : List Nat} {vals : Nat → Nat → Int32} {r0 : Nat} {f : Nat → Int32} (h : chs Z sc ia L vals) (hl : L.length < 24) (hf : ∀ c, c < 4 → f c = vals r0 c) : chs Z (upS sc (rRs (1 - Z.fi)) 2 (nI (L.length + 1))) (upI (upI ia (rNum (1 - Z.fi)) (va_up (ia (rNum (1 - Z.fi))) L.length (nI r0))) (rInn (24 * (1 - Z.fi) + L.length)) f) (L ++ [r0]) vals := by
  refine ⟨by rw [upS_eq, List.length_append]; rfl, fun i r hr => ?_⟩
  by_cases e : i < L.length
  · rw [List.getElem?_append_left e] at hr
    obtain ⟨h1, h2⟩ := h.2 i r hr
    refine ⟨?_, fun c hc => ?_⟩
    · rw [upI_ne (tag_ne (by decide)), upI_eq, va_up_ne _ _ (by omega)]; exact h1
    · rw [upI_ne (arg_ne (by omega)), upI_ne (tag_ne (by decide))]; exact h2 c hc
  · rw [List.getElem?_append_right (by omega)] at hr
    have hj : i - L.length = 0 := by
      have := (List.getElem?_eq_some_iff.mp hr).1
      simp only [List.length_cons, List.length_nil] at this
      omega
    rw [hj] at hr
    injection hr with hr
    have hi : i = L.length := by omega
    rw [← hr, hi]
    exact ⟨by rw [upI_ne (tag_ne (by decide)), upI_eq, va_up_self], fun c hc => by rw [upI_eq]; exact hf c hc⟩
/-- the rows below n with p -/
def selL (p : Nat → Bool) : Nat → List Nat
  | 0 => []
  | n + 1 => if p n = true then selL p n ++ [n] else selL p n
theorem selL_len (p : Nat → Bool) : ∀ n, (selL p n).length = cnt p n
  | 0 => rfl
  | n + 1 => by
    simp only [selL, cnt]
    by_cases e : p n = true
    · rw [if_pos e, if_pos e, List.length_append, selL_len p n]; rfl
    · rw [if_neg e, if_neg e, selL_len p n]; rfl
theorem selL_lt {p : Nat → Bool} : ∀ {n i r : Nat}, (selL p n)[i]? = some r → r < n ∧ p r = true
  | 0, i, r, h => by simp [selL] at h
  | n + 1, i, r, h => by
    simp only [selL] at h
    by_cases e : p n = true
    · rw [if_pos e] at h
      by_cases e2 : i < (selL p n).length
      · rw [List.getElem?_append_left e2] at h
        have := selL_lt h
        exact ⟨by omega, this.2⟩
      · rw [List.getElem?_append_right (by omega)] at h
        have h2 := List.mem_of_getElem? h
        rw [List.mem_singleton] at h2
        rw [h2]; exact ⟨by omega, e⟩
    · rw [if_neg e] at h
      have := selL_lt h
      exact ⟨by omega, this.2⟩
/-- what becomes of a row -/
def vdC (Z : cZ) (es : List Int32) (tn q : Nat) : Nat := if hwq Z.V tn q = 0 then 0 else if ¬ hwq Z.V tn q = tn ∧ Z.st (hwq Z.V tn q) = 1 then 2 else if Z.V (40 * q + (hwq Z.V tn q - 1)) / 2 % 2 = 1 then 0 else (lA (Z.ia (rVal (40 * q + (hwq Z.V tn q - 1)))) es).elim 3 (fun x => if x = 0 then 0 else 1)
def cMt (Z : cZ) (es : List Int32) (tn k r : Nat) : Bool := decide (vdC Z es tn (24 * k + r) = 1)
def cVl (Z : cZ) (tn k r c : Nat) : Int32 := Z.ia (rVal (40 * (24 * k + r) + (hwq Z.V tn (24 * k + r) - 1))) c
/-- a program's objects -/
theorem zpFx {i : Nat} {ρ : cR} (hZ : cOk G m S A h Z) (hi : lvZ Z (rPrg i)) (hρ : lvZ Z ρ) (h1 : ρ ≠ rPrg i) (h2 : ρ ≠ rStk i) (hp : pic G Z ρ = kIa 4 (Z.ia ρ)) : pFx G h (Z.ad (rPrg i)) (Z.ad (rStp i)) (Z.ad (rStk i)) (Z.ad ρ) (Z.ia (rStp i)) (Z.ia ρ) := by
  have hs : lvZ Z (rStp i) := hi
  have hk : lvZ Z (rStk i) := hi
  refine ⟨⟨(hZ.is _ hi).1, (hZ.is _ hi).2.1⟩, ⟨(hZ.is _ hk).1, (hZ.is _ hk).2.1⟩, hZ.is (rStp i) hs, by rw [← hp]; exact hZ.is ρ hρ, fun z => ?_, fun z => ?_, fun z => ?_, fun z => h1 (hZ.inj _ _ hρ hi z), fun z => h2 (hZ.inj _ _ hρ hk z)⟩
  · exact absurd (congrArg Prod.fst (hZ.inj _ _ hi hs z)) (by show ¬ ((7 : Nat) = 8); decide)
  · exact absurd (congrArg Prod.fst (hZ.inj _ _ hi hk z)) (by show ¬ ((7 : Nat) = 9); decide)
  · exact absurd (congrArg Prod.fst (hZ.inj _ _ hk hs z)) (by show ¬ ((9 : Nat) = 8); decide)
theorem cz_pH {i : Nat} {K : Nat → Int32} {ht : Int32} (hZ : cOk G m S A h Z) (hi : lvZ Z (rPrg i)) {sz : Int32} (hsz : Z.sc (rPrg i) 2 = sz) : cOk G m S A (pH h (Z.ad (rPrg i)) (Z.ad (rStp i)) (Z.ad (rStk i)) sz K ht) ((Z.sI (rStk i) K).sS (rPrg i) 3 ht) := by
  have h1 := cz_sI (ρ := rStk i) hZ hi K (c := kIa 40 K) rfl
  exact cz_sS (ρ := rPrg i) h1 hi 3 ht (c := pO (Z.ad (rStp i)) (Z.ad (rStk i)) sz ht) (by rw [← hsz]; rfl)
set_option maxRecDepth 100000 in
theorem cV_choose0 {k md bg tn : Nat} {es : List Int32} (hst : l.stackTraces = false) (hZ : cOk G m S A h Z) (hk : k < 3) (ht : Z.tb k = true) (hmd : Z.sc (rTab k) 2 = nI md) (hmd2 : md ≤ 24) (hbg : Z.sc rTr 1 = nI bg) (hb40 : bg ≤ 40) (ht1 : 1 ≤ tn) (ht2 : tn ≤ bg) (hpn : Z.sc (rPrg 0) 2 = nI es.length) (hok : okC es) (hF : prg (Z.ia (rStp 0)) es) (hall : ∀ r, r < md → vdC Z es tn (24 * k + r) ≤ 1) :
    kx_c G l mV_choose (d + 5) 0 0 [.ref (Z.ad rV), .int (nI tn), .ref (Z.ad (rTab k))] h (fun o h' => o = .returned none ∧ ∃ sc2 ia2, cOk G m S A h' (Z.wA sc2 ia2) ∧ cFr Z sc2 ia2 ∧ chs Z sc2 ia2 (selL (cMt Z es tn k) md) (cVl Z tn k)) := by
  refine kx_in (by decide +kernel) (Nat.le_of_ble_eq_true rfl) hst ?_
  have loop : ∀ n (r : Nat) (h2 : kx_H) (sc2 ia2 : cR → Nat → Int32), r + n = md → cOk G m S A h2 (Z.wA sc2 ia2) → cFr Z sc2 ia2 → chs Z sc2 ia2 (selL (cMt Z es tn k) r) (cVl Z tn k) → kx_w G l mV_choose (d + 5) (fun o h' => o = .returned none ∧ ∃ sc2 ia2, cOk G m S A h' (Z.wA sc2 ia2) ∧ cFr Z sc2 ia2 ∧ chs Z sc2 ia2 (selL (cMt Z es tn k) md) (cVl Z tn k)) 0 0 10 [(0, .ref (Z.ad rV)), (1, .int (nI tn)), (2, .ref (Z.ad (rTab k))), (3, .int (nI r))] [] h2 := by
    intro n
    induction n with
    | zero =>
      intro r h2 sc2 ia2 hr hz2 hfr hch
      have hj2 : 1 - Z.fi < 2 := by omega
      have hm2 : sc2 (rTab k) 2 = nI md := by rw [hfr.1 (rTab k) (tag_ne (by decide)) (tag_ne (by decide))]; exact hmd
      have hb2 : sc2 rTr 1 = nI bg := by rw [hfr.1 rTr (tag_ne (by decide)) (tag_ne (by decide))]; exact hbg
      have hp2 : sc2 (rPrg 0) 2 = nI es.length := by rw [hfr.2.1]; exact hpn
      have htr : kx_is G h2 (Z.ad rTr) (.inr (1, [.ref (Z.ad rSts), .int (nI bg), .int (sc2 rTr 2)])) := by rw [← hb2]; exact hz2.is rTr rfl
      have hrow : r < 24 → lvZ Z (rRow (24 * k + r)) := fun hr => ⟨by show 24 * k + r < 72; omega, by show Z.tb ((24 * k + r) / 24) = true; rw [show (24 * k + r) / 24 = k by omega]; exact ht⟩
      have hlen := selL_len (cMt Z es tn k) r
      have hcle := cnt_le (cMt Z es tn k) r
      refine kx_rn dV_choose 2 12 [(0, .ref (Z.ad rV)), (1, .int (nI tn)), (2, .ref (Z.ad (rTab k))), (3, .int (nI r))] [.ref (Z.ad (rTab k)), .int (nI r)] rfl ?_
      refine pV_131 (v := .int (sc2 (rTab k) 2)) rfl (kx_tk_dec rfl dV_choose) (hz2.is (rTab k) ⟨hk, ht⟩) rfl ?_
      rw [hm2]
      refine kx_ic (tgt := 115) (kx_tk_dec rfl dV_choose) rfl (fun e15 => ?_) (fun e15 => ?_)
      · skip
        replace e15 : nI md ≤ nI r := e15
        replace e15 : md ≤ r := (nI_leI (a := md) (b := r) (by omega) (by omega)).mp e15
        refine kx_retv (kx_tk_dec rfl dV_choose) rfl ?_
        rw [show r = md by omega] at hch; exact ⟨rfl, sc2, ia2, hz2, hfr, hch⟩
      · skip
        replace e15 : ¬ nI md ≤ nI r := e15
        replace e15 : ¬ md ≤ r := fun z => e15 ((nI_leI (a := md) (b := r) (by omega) (by omega)).mpr z)
        exfalso; omega
    | succ n ih =>
      intro r h2 sc2 ia2 hr hz2 hfr hch
      have hvd := hall r (by omega)
      have hj2 : 1 - Z.fi < 2 := by omega
      have hm2 : sc2 (rTab k) 2 = nI md := by rw [hfr.1 (rTab k) (tag_ne (by decide)) (tag_ne (by decide))]; exact hmd
      have hb2 : sc2 rTr 1 = nI bg := by rw [hfr.1 rTr (tag_ne (by decide)) (tag_ne (by decide))]; exact hbg
      have hp2 : sc2 (rPrg 0) 2 = nI es.length := by rw [hfr.2.1]; exact hpn
      have htr : kx_is G h2 (Z.ad rTr) (.inr (1, [.ref (Z.ad rSts), .int (nI bg), .int (sc2 rTr 2)])) := by rw [← hb2]; exact hz2.is rTr rfl
      have hrow : r < 24 → lvZ Z (rRow (24 * k + r)) := fun hr => ⟨by show 24 * k + r < 72; omega, by show Z.tb ((24 * k + r) / 24) = true; rw [show (24 * k + r) / 24 = k by omega]; exact ht⟩
      have hlen := selL_len (cMt Z es tn k) r
      have hcle := cnt_le (cMt Z es tn k) r
      refine kx_rn dV_choose 2 12 [(0, .ref (Z.ad rV)), (1, .int (nI tn)), (2, .ref (Z.ad (rTab k))), (3, .int (nI r))] [.ref (Z.ad (rTab k)), .int (nI r)] rfl ?_
      refine pV_131 (v := .int (sc2 (rTab k) 2)) rfl (kx_tk_dec rfl dV_choose) (hz2.is (rTab k) ⟨hk, ht⟩) rfl ?_
      rw [hm2]
      refine kx_ic (tgt := 115) (kx_tk_dec rfl dV_choose) rfl (fun e15 => ?_) (fun e15 => ?_)
      · skip
        replace e15 : nI md ≤ nI r := e15
        replace e15 : md ≤ r := (nI_leI (a := md) (b := r) (by omega) (by omega)).mp e15
        exfalso; omega
      · skip
        replace e15 : ¬ nI md ≤ nI r := e15
        replace e15 : ¬ md ≤ r := fun z => e15 ((nI_leI (a := md) (b := r) (by omega) (by omega)).mpr z)
        refine kx_rn dV_choose 1 19 [(0, .ref (Z.ad rV)), (1, .int (nI tn)), (2, .ref (Z.ad (rTab k))), (3, .int (nI r))] [.ref (Z.ad (rTab k))] rfl ?_
        refine pV_207 (v := .ref (Z.ad (rRws k))) rfl (kx_tk_dec rfl dV_choose) (hz2.is (rTab k) ⟨hk, ht⟩) rfl ?_
        refine kx_rn dV_choose 1 23 [(0, .ref (Z.ad rV)), (1, .int (nI tn)), (2, .ref (Z.ad (rTab k))), (3, .int (nI r))] [.int (nI r), .ref (Z.ad (rRws k))] rfl ?_
        refine kx_qldN (x := some (Z.ad (rRow (24 * k + r)))) (i := r) rfl rfl (kx_tk_dec rfl dV_choose) (hz2.is (rRws k) ⟨hk, ht⟩) (by show r < 24; omega) (by decide) (if_pos (show r < 24 by omega)) ?_
        refine kx_rn dV_choose 1 25 [(0, .ref (Z.ad rV)), (1, .int (nI tn)), (2, .ref (Z.ad (rTab k))), (3, .int (nI r))] [.int (nI tn), .ref (Z.ad (rRow (24 * k + r)))] rfl ?_
        refine cV_251 (as := [.int (nI tn)]) (st := []) (mc := 0) (ms := 0) (kc := 0) (ks := 0) rfl (kx_tk_dec rfl dV_choose) (hz2.is (rRow (24 * k + r)) (hrow (by omega))) rfl rfl (Nat.le_of_ble_eq_true rfl) (cR_hold (Z := Z.wA sc2 ia2) hst hz2 (hrow (by omega)) (by omega)) (fun o h' hq => ?_)
        obtain ⟨rfl, hhe⟩ := hq
        subst h'
        rw [show (Z.wA sc2 ia2).V = Z.V from rfl]
        by_cases hh : hwq Z.V tn (24 * k + r) = 0
        · rw [if_pos hh]
          show kx_w _ _ _ _ _ _ _ _ _ _ _
          refine kx_rn dV_choose 2 32 [(0, .ref (Z.ad rV)), (1, .int (nI tn)), (2, .ref (Z.ad (rTab k))), (3, .int (nI r)), (4, .null)] [.null] rfl ?_
          refine kx_nul (x := none) (tgt := 109) (kx_tk_dec rfl dV_choose) rfl (fun e32 => ?_) (fun a32 e32 => ?_)
          · skip
            refine kx_rn dV_choose 2 10 [(0, .ref (Z.ad rV)), (1, .int (nI tn)), (2, .ref (Z.ad (rTab k))), (3, .int ((nI r) + 1)), (4, .null)] [] rfl ?_
            rw [show (nI r) + 1 = nI (r + 1) from kn_ad rfl rfl]
            refine kx_lsub (lv' := [(0, .ref (Z.ad rV)), (1, .int (nI tn)), (2, .ref (Z.ad (rTab k))), (3, .int (nI (r + 1)))]) (.cons₂ _ (.cons₂ _ (.cons₂ _ (.cons₂ _ (.cons _ .slnil))))) ?_
            have hvd1 : cMt Z es tn k r = false := decide_eq_false (fun y => by rw [show vdC Z es tn (24 * k + r) = 0 from by unfold vdC; rw [if_pos hh]] at y; cases y)
            have hL : (selL (cMt Z es tn k) (r + 1)) = (selL (cMt Z es tn k) r) := by simp only [selL]; rw [if_neg (by rw [hvd1]; decide)]
            exact ih (r + 1) h2 sc2 ia2 (by omega) hz2 hfr (by rw [hL]; exact hch)
          · skip
            cases e32
        · rw [if_neg hh]
          show kx_w _ _ _ _ _ _ _ _ _ _ _
          obtain ⟨hv0, hv1⟩ := hwq_v hh
          obtain ⟨v, hv⟩ : ∃ v, v = 40 * (24 * k + r) + (hwq Z.V tn (24 * k + r) - 1) := ⟨_, rfl⟩
          rw [← hv] at hv0
          have hv40 : v / 40 = 24 * k + r ∧ v % 40 + 1 = hwq Z.V tn (24 * k + r) := by omega
          have hvlow := hZ.wf.low v
          replace hvlow : Z.V v < 256 := hvlow
          have hiv : ia2 (rVal v) = Z.ia (rVal v) := hfr.2.2 (rVal v) (tag_ne (by decide)) (tag_ne (by decide)) (fun i _ => tag_ne (by decide))
          rw [show (Z.wA sc2 ia2).ad (rVer (40 * (24 * k + r) + (hwq Z.V tn (24 * k + r) - 1))) = Z.ad (rVer v) by rw [hv]; rfl]
          refine kx_rn dV_choose 2 32 [(0, .ref (Z.ad rV)), (1, .int (nI tn)), (2, .ref (Z.ad (rTab k))), (3, .int (nI r)), (4, .ref (Z.ad (rVer v)))] [.ref (Z.ad (rVer v))] rfl ?_
          refine kx_nul (x := some (Z.ad (rVer v))) (tgt := 109) (kx_tk_dec rfl dV_choose) rfl (fun e32 => ?_) (fun a32 e32 => ?_)
          · skip
            cases e32
          · skip
            refine kx_rn dV_choose 1 37 [(0, .ref (Z.ad rV)), (1, .int (nI tn)), (2, .ref (Z.ad (rTab k))), (3, .int (nI r)), (4, .ref (Z.ad (rVer v)))] [.ref (Z.ad (rVer v))] rfl ?_
            refine pV_255 (v := .int (nI (v % 40 + 1))) rfl (kx_tk_dec rfl dV_choose) (hz2.is (rVer v) hv0) rfl ?_
            refine kx_rn dV_choose 1 41 [(0, .ref (Z.ad rV)), (1, .int (nI tn)), (2, .ref (Z.ad (rTab k))), (3, .int (nI r)), (4, .ref (Z.ad (rVer v)))] [.int (nI tn), .int (nI (v % 40 + 1))] rfl ?_
            refine kx_ic (tgt := 73) (kx_tk_dec rfl dV_choose) rfl (fun e41 => ?_) (fun e41 => ?_)
            · skip
              replace e41 : nI (v % 40 + 1) = nI tn := e41
              replace e41 : v % 40 + 1 = tn := (nI_eq (a := v % 40 + 1) (b := tn) (by omega) (by omega)).mp e41
              refine kx_rn dV_choose 1 75 [(0, .ref (Z.ad rV)), (1, .int (nI tn)), (2, .ref (Z.ad (rTab k))), (3, .int (nI r)), (4, .ref (Z.ad (rVer v)))] [.ref (Z.ad (rVer v))] rfl ?_
              refine pV_262 (v := .int (nI (Z.V v / 2 % 2))) rfl (kx_tk_dec rfl dV_choose) (hz2.is (rVer v) hv0) rfl ?_
              refine kx_if (tgt := 109) (kx_tk_dec rfl dV_choose) rfl (fun e78 => ?_) (fun e78 => ?_)
              · skip
                replace e78 : ¬ nI (Z.V v / 2 % 2) = 0 := e78
                replace e78 : ¬ Z.V v / 2 % 2 = 0 := fun z => e78 ((nI_eq (a := Z.V v / 2 % 2) (b := 0) (by omega) (by omega)).mpr z)
                refine kx_rn dV_choose 2 10 [(0, .ref (Z.ad rV)), (1, .int (nI tn)), (2, .ref (Z.ad (rTab k))), (3, .int ((nI r) + 1)), (4, .ref (Z.ad (rVer v)))] [] rfl ?_
                rw [show (nI r) + 1 = nI (r + 1) from kn_ad rfl rfl]
                refine kx_lsub (lv' := [(0, .ref (Z.ad rV)), (1, .int (nI tn)), (2, .ref (Z.ad (rTab k))), (3, .int (nI (r + 1)))]) (.cons₂ _ (.cons₂ _ (.cons₂ _ (.cons₂ _ (.cons _ .slnil))))) ?_
                have hvd1 : cMt Z es tn k r = false := decide_eq_false (fun y => by rw [show vdC Z es tn (24 * k + r) = 0 from by unfold vdC; rw [if_neg hh, if_neg (fun y => y.1 (by rw [← hv40.2]; exact e41)), ← hv, if_pos (by omega)]] at y; cases y)
                have hL : (selL (cMt Z es tn k) (r + 1)) = (selL (cMt Z es tn k) r) := by simp only [selL]; rw [if_neg (by rw [hvd1]; decide)]
                exact ih (r + 1) h2 sc2 ia2 (by omega) hz2 hfr (by rw [hL]; exact hch)
              · skip
                replace e78 : nI (Z.V v / 2 % 2) = 0 := e78
                replace e78 : Z.V v / 2 % 2 = 0 := (nI_eq (a := Z.V v / 2 % 2) (b := 0) (by omega) (by omega)).mp e78
                refine kx_rn dV_choose 1 82 [(0, .ref (Z.ad rV)), (1, .int (nI tn)), (2, .ref (Z.ad (rTab k))), (3, .int (nI r)), (4, .ref (Z.ad (rVer v)))] [.ref (Z.ad rV)] rfl ?_
                refine pV_36 (v := .ref (Z.ad (rPrg 0))) rfl (kx_tk_dec rfl dV_choose) (hz2.is rV rfl) rfl ?_
                refine kx_rn dV_choose 1 87 [(0, .ref (Z.ad rV)), (1, .int (nI tn)), (2, .ref (Z.ad (rTab k))), (3, .int (nI r)), (4, .ref (Z.ad (rVer v)))] [.ref (Z.ad (rVer v)), .ref (Z.ad (rPrg 0))] rfl ?_
                refine pV_266 (v := .ref (Z.ad (rVal v))) rfl (kx_tk_dec rfl dV_choose) (hz2.is (rVer v) hv0) rfl ?_
                have hng : ¬ Z.V v / 2 % 2 = 1 := by omega
                obtain ⟨x, hx⟩ : ∃ x, lA (Z.ia (rVal v)) es = some x := by
                  cases ex : lA (Z.ia (rVal v)) es with
                  | some x => exact ⟨x, rfl⟩
                  | none =>
                    rw [show vdC Z es tn (24 * k + r) = 3 from by unfold vdC; rw [if_neg hh, if_neg (fun y => y.1 (by rw [← hv40.2]; exact e41)), ← hv, if_neg hng, ex]; rfl] at hvd
                    omega
                have hpf : pFx G h2 (Z.ad (rPrg 0)) (Z.ad (rStp 0)) (Z.ad (rStk 0)) (Z.ad (rVal v)) (Z.ia (rStp 0)) (Z.ia (rVal v)) := by
                  have y := zpFx (Z := Z.wA sc2 ia2) (i := 0) (ρ := rVal v) hz2 ⟨by decide, hZ.wf.p0⟩ hv0 (tag_ne (by decide)) (tag_ne (by decide)) rfl
                  rw [show (Z.wA sc2 ia2).ia (rVal v) = Z.ia (rVal v) from hiv, show (Z.wA sc2 ia2).ia (rStp 0) = Z.ia (rStp 0) from hfr.2.2 (rStp 0) (tag_ne (by decide)) (tag_ne (by decide)) (fun i _ => tag_ne (by decide))] at y
                  exact y
                have hid : h2 = pH h2 (Z.ad (rPrg 0)) (Z.ad (rStp 0)) (Z.ad (rStk 0)) (nI es.length) (ia2 (rStk 0)) (sc2 (rPrg 0) 3) := pH_id (by rw [← hp2]; exact hz2.is (rPrg 0) ⟨by decide, hZ.wf.p0⟩) (hz2.is (rStk 0) ⟨by decide, hZ.wf.p0⟩)
                have hc := cP_holds0 (d := d) (K := ia2 (rStk 0)) (ht := sc2 (rPrg 0) 3) hst hpf hok hF hx
                rw [← hid] at hc
                refine cV_268 (as := [.ref (Z.ad (rVal v))]) (st := []) (mc := 0) (ms := 0) (kc := 0) (ks := 0) rfl (kx_tk_dec rfl dV_choose) (hz2.is (rPrg 0) ⟨by decide, hZ.wf.p0⟩) rfl rfl (Nat.le_of_ble_eq_true rfl) (hc) (fun o h' hq => ?_)
                obtain ⟨K2, ht2, rfl, rfl⟩ := hq
                show kx_w _ _ _ _ _ _ _ _ _ _ _
                refine cw_go (cz_pH (Z := Z.wA sc2 ia2) (i := 0) (K := K2) (ht := ht2) hz2 ⟨by decide, hZ.wf.p0⟩ hp2) (fun h3 hz3 => ?_)
                replace hz3 : cOk G m S A h3 (Z.wA (upS sc2 (rPrg 0) 3 ht2) (upI ia2 (rStk 0) K2)) := hz3
                have hfr3 : cFr Z (upS sc2 (rPrg 0) 3 ht2) (upI ia2 (rStk 0) K2) := cFr_sP (cFr_iK hfr)
                have hch3 := chs_h (K := K2) (x := ht2) hch
                refine kx_if (tgt := 109) (kx_tk_dec rfl dV_choose) rfl (fun e93 => ?_) (fun e93 => ?_)
                · skip
                  replace e93 : b01 (decide (¬ x = 0)) = 0 := e93
                  replace e93 : decide (¬ x = 0) = false := b01_f e93
                  refine kx_rn dV_choose 2 10 [(0, .ref (Z.ad rV)), (1, .int (nI tn)), (2, .ref (Z.ad (rTab k))), (3, .int ((nI r) + 1)), (4, .ref (Z.ad (rVer v)))] [] rfl ?_
                  rw [show (nI r) + 1 = nI (r + 1) from kn_ad rfl rfl]
                  refine kx_lsub (lv' := [(0, .ref (Z.ad rV)), (1, .int (nI tn)), (2, .ref (Z.ad (rTab k))), (3, .int (nI (r + 1)))]) (.cons₂ _ (.cons₂ _ (.cons₂ _ (.cons₂ _ (.cons _ .slnil))))) ?_
                  have hvd1 : cMt Z es tn k r = false := decide_eq_false (fun y => by rw [show vdC Z es tn (24 * k + r) = 0 from by unfold vdC; rw [if_neg hh, if_neg (fun y => y.1 (by rw [← hv40.2]; exact e41)), ← hv, if_neg hng, hx]; show (if x = 0 then 0 else 1) = 0; rw [if_pos (Classical.byContradiction (fun y => by rw [decide_eq_true (p := ¬ x = 0) y] at e93; cases e93))]] at y; cases y)
                  have hL : (selL (cMt Z es tn k) (r + 1)) = (selL (cMt Z es tn k) r) := by simp only [selL]; rw [if_neg (by rw [hvd1]; decide)]
                  exact ih (r + 1) h3 _ _ (by omega) hz3 hfr3 (by rw [hL]; exact hch3)
                · skip
                  replace e93 : ¬ b01 (decide (¬ x = 0)) = 0 := e93
                  replace e93 : decide (¬ x = 0) = true := b01_t e93
                  refine kx_rn dV_choose 1 97 [(0, .ref (Z.ad rV)), (1, .int (nI tn)), (2, .ref (Z.ad (rTab k))), (3, .int (nI r)), (4, .ref (Z.ad (rVer v)))] [.ref (Z.ad rV)] rfl ?_
                  refine pV_51 (v := .ref (Z.ad (rRs (1 - Z.fi)))) rfl (kx_tk_dec rfl dV_choose) (hz3.is rV rfl) rfl ?_
                  refine kx_rn dV_choose 2 103 [(0, .ref (Z.ad rV)), (1, .int (nI tn)), (2, .ref (Z.ad (rTab k))), (3, .int (nI r)), (4, .ref (Z.ad (rVer v)))] [.ref (Z.ad (rVer v)), .int (nI r), .ref (Z.ad (rRs (1 - Z.fi)))] rfl ?_
                  refine pV_266 (v := .ref (Z.ad (rVal v))) rfl (kx_tk_dec rfl dV_choose) (hz3.is (rVer v) hv0) rfl ?_
                  have hsz : (upS sc2 (rPrg 0) 3 ht2) (rRs (1 - Z.fi)) 2 = nI (selL (cMt Z es tn k) r).length := hch3.1
                  refine cV_272 (as := [.int (nI r), .ref (Z.ad (rVal v))]) (st := []) (mc := 0) (ms := 0) (kc := 0) (ks := 0) rfl (kx_tk_dec rfl dV_choose) (hz3.is (rRs (1 - Z.fi)) hj2) rfl rfl (Nat.le_of_ble_eq_true rfl) (cS_add (Z := Z.wA (upS sc2 (rPrg 0) 3 ht2) (upI ia2 (rStk 0) K2)) (j := 1 - Z.fi) (v := v) (r := r) hst hz3 hj2 hsz (by omega) hv0) (fun o h' hq => ?_)
                  obtain ⟨rfl, hz4⟩ := hq
                  show kx_w _ _ _ _ _ _ _ _ _ _ _
                  refine kx_rn dV_choose 2 10 [(0, .ref (Z.ad rV)), (1, .int (nI tn)), (2, .ref (Z.ad (rTab k))), (3, .int ((nI r) + 1)), (4, .ref (Z.ad (rVer v)))] [] rfl ?_
                  rw [show (nI r) + 1 = nI (r + 1) from kn_ad rfl rfl]
                  refine kx_lsub (lv' := [(0, .ref (Z.ad rV)), (1, .int (nI tn)), (2, .ref (Z.ad (rTab k))), (3, .int (nI (r + 1)))]) (.cons₂ _ (.cons₂ _ (.cons₂ _ (.cons₂ _ (.cons _ .slnil))))) ?_
                  have hvd1 : cMt Z es tn k r = true := decide_eq_true (by unfold vdC; rw [if_neg hh, if_neg (fun y => y.1 (by rw [← hv40.2]; exact e41)), ← hv, if_neg hng, hx]; show (if x = 0 then 0 else 1) = 1; rw [if_neg (of_decide_eq_true e93)])
                  have hL : (selL (cMt Z es tn k) (r + 1)) = (selL (cMt Z es tn k) r) ++ [r] := by simp only [selL]; rw [if_pos hvd1]
                  refine ih (r + 1) h' (upS (upS sc2 (rPrg 0) 3 ht2) (rRs (1 - Z.fi)) 2 (nI ((selL (cMt Z es tn k) r).length + 1))) (upI (upI (upI ia2 (rStk 0) K2) (rNum (1 - Z.fi)) (va_up ((upI ia2 (rStk 0) K2) (rNum (1 - Z.fi))) (selL (cMt Z es tn k) r).length (nI r))) (rInn (24 * (1 - Z.fi) + (selL (cMt Z es tn k) r).length)) (va_cpy ((upI ia2 (rStk 0) K2) (rVal v)) ((upI ia2 (rStk 0) K2) (rInn (24 * (1 - Z.fi) + (selL (cMt Z es tn k) r).length))) 0 0 4)) (by omega) hz4 (cFr_sR (cFr_iI (by omega) (cFr_iN hfr3))) ?_
                  rw [hL]
                  refine chs_add hch3 (by omega) (fun c hc => ?_)
                  show (if 0 ≤ c ∧ c < 0 + 4 then (upI ia2 (rStk 0) K2) (rVal v) (0 + (c - 0)) else _) = _
                  rw [if_pos (by omega), upI_ne (tag_ne (by decide)), hiv, show 0 + (c - 0) = c by omega]
                  unfold cVl
                  rw [← hv]
            · skip
              replace e41 : ¬ nI (v % 40 + 1) = nI tn := e41
              replace e41 : ¬ v % 40 + 1 = tn := fun z => e41 ((nI_eq (a := v % 40 + 1) (b := tn) (by omega) (by omega)).mpr z)
              refine kx_rn dV_choose 1 45 [(0, .ref (Z.ad rV)), (1, .int (nI tn)), (2, .ref (Z.ad (rTab k))), (3, .int (nI r)), (4, .ref (Z.ad (rVer v)))] [.ref (Z.ad rV)] rfl ?_
              refine pV_18 (v := .ref (Z.ad rTr)) rfl (kx_tk_dec rfl dV_choose) (hz2.is rV rfl) rfl ?_
              refine kx_rn dV_choose 1 50 [(0, .ref (Z.ad rV)), (1, .int (nI tn)), (2, .ref (Z.ad (rTab k))), (3, .int (nI r)), (4, .ref (Z.ad (rVer v)))] [.ref (Z.ad (rVer v)), .ref (Z.ad rTr)] rfl ?_
              refine pV_255 (v := .int (nI (v % 40 + 1))) rfl (kx_tk_dec rfl dV_choose) (hz2.is (rVer v) hv0) rfl ?_
              refine pV_215 rfl (kx_tk_dec rfl dV_choose) ?_
              refine cV_236 (as := [.int (nI (v % 40 + 1)), .ref (G.2.2.2.1 0)]) (st := []) (mc := 0) (ms := 0) (kc := 0) (ks := 0) rfl (kx_tk_dec rfl dV_choose) (hz2.is rTr rfl) rfl rfl (Nat.le_of_ble_eq_true rfl) (cT_is (k := 0) (S6 := Z.st) hst htr (hz2.is rSts rfl) hz2.wf.stc hb40 (by decide)) (fun o h' hq => ?_)
              obtain ⟨z, rfl, hhe, hzz⟩ := hq
              subst h'
              show kx_w _ _ _ _ _ _ _ _ _ _ _
              rw [isx (Z := Z) hzz (by omega) (by omega) hb40]
              refine kx_if (tgt := 73) (kx_tk_dec rfl dV_choose) rfl (fun e59 => ?_) (fun e59 => ?_)
              · skip
                replace e59 : b01 (decide (Z.st (v % 40 + 1) = 0 + 1)) = 0 := e59
                replace e59 : decide (Z.st (v % 40 + 1) = 0 + 1) = false := b01_f e59
                refine kx_rn dV_choose 1 75 [(0, .ref (Z.ad rV)), (1, .int (nI tn)), (2, .ref (Z.ad (rTab k))), (3, .int (nI r)), (4, .ref (Z.ad (rVer v)))] [.ref (Z.ad (rVer v))] rfl ?_
                refine pV_262 (v := .int (nI (Z.V v / 2 % 2))) rfl (kx_tk_dec rfl dV_choose) (hz2.is (rVer v) hv0) rfl ?_
                refine kx_if (tgt := 109) (kx_tk_dec rfl dV_choose) rfl (fun e78 => ?_) (fun e78 => ?_)
                · skip
                  replace e78 : ¬ nI (Z.V v / 2 % 2) = 0 := e78
                  replace e78 : ¬ Z.V v / 2 % 2 = 0 := fun z => e78 ((nI_eq (a := Z.V v / 2 % 2) (b := 0) (by omega) (by omega)).mpr z)
                  refine kx_rn dV_choose 2 10 [(0, .ref (Z.ad rV)), (1, .int (nI tn)), (2, .ref (Z.ad (rTab k))), (3, .int ((nI r) + 1)), (4, .ref (Z.ad (rVer v)))] [] rfl ?_
                  rw [show (nI r) + 1 = nI (r + 1) from kn_ad rfl rfl]
                  refine kx_lsub (lv' := [(0, .ref (Z.ad rV)), (1, .int (nI tn)), (2, .ref (Z.ad (rTab k))), (3, .int (nI (r + 1)))]) (.cons₂ _ (.cons₂ _ (.cons₂ _ (.cons₂ _ (.cons _ .slnil))))) ?_
                  have hvd1 : cMt Z es tn k r = false := decide_eq_false (fun y => by rw [show vdC Z es tn (24 * k + r) = 0 from by unfold vdC; rw [if_neg hh, if_neg (fun y => by rw [← hv40.2] at y; rw [decide_eq_true (p := Z.st (v % 40 + 1) = 0 + 1) y.2] at e59; cases e59), ← hv, if_pos (by omega)]] at y; cases y)
                  have hL : (selL (cMt Z es tn k) (r + 1)) = (selL (cMt Z es tn k) r) := by simp only [selL]; rw [if_neg (by rw [hvd1]; decide)]
                  exact ih (r + 1) h2 sc2 ia2 (by omega) hz2 hfr (by rw [hL]; exact hch)
                · skip
                  replace e78 : nI (Z.V v / 2 % 2) = 0 := e78
                  replace e78 : Z.V v / 2 % 2 = 0 := (nI_eq (a := Z.V v / 2 % 2) (b := 0) (by omega) (by omega)).mp e78
                  refine kx_rn dV_choose 1 82 [(0, .ref (Z.ad rV)), (1, .int (nI tn)), (2, .ref (Z.ad (rTab k))), (3, .int (nI r)), (4, .ref (Z.ad (rVer v)))] [.ref (Z.ad rV)] rfl ?_
                  refine pV_36 (v := .ref (Z.ad (rPrg 0))) rfl (kx_tk_dec rfl dV_choose) (hz2.is rV rfl) rfl ?_
                  refine kx_rn dV_choose 1 87 [(0, .ref (Z.ad rV)), (1, .int (nI tn)), (2, .ref (Z.ad (rTab k))), (3, .int (nI r)), (4, .ref (Z.ad (rVer v)))] [.ref (Z.ad (rVer v)), .ref (Z.ad (rPrg 0))] rfl ?_
                  refine pV_266 (v := .ref (Z.ad (rVal v))) rfl (kx_tk_dec rfl dV_choose) (hz2.is (rVer v) hv0) rfl ?_
                  have hng : ¬ Z.V v / 2 % 2 = 1 := by omega
                  obtain ⟨x, hx⟩ : ∃ x, lA (Z.ia (rVal v)) es = some x := by
                    cases ex : lA (Z.ia (rVal v)) es with
                    | some x => exact ⟨x, rfl⟩
                    | none =>
                      rw [show vdC Z es tn (24 * k + r) = 3 from by unfold vdC; rw [if_neg hh, if_neg (fun y => by rw [← hv40.2] at y; rw [decide_eq_true (p := Z.st (v % 40 + 1) = 0 + 1) y.2] at e59; cases e59), ← hv, if_neg hng, ex]; rfl] at hvd
                      omega
                  have hpf : pFx G h2 (Z.ad (rPrg 0)) (Z.ad (rStp 0)) (Z.ad (rStk 0)) (Z.ad (rVal v)) (Z.ia (rStp 0)) (Z.ia (rVal v)) := by
                    have y := zpFx (Z := Z.wA sc2 ia2) (i := 0) (ρ := rVal v) hz2 ⟨by decide, hZ.wf.p0⟩ hv0 (tag_ne (by decide)) (tag_ne (by decide)) rfl
                    rw [show (Z.wA sc2 ia2).ia (rVal v) = Z.ia (rVal v) from hiv, show (Z.wA sc2 ia2).ia (rStp 0) = Z.ia (rStp 0) from hfr.2.2 (rStp 0) (tag_ne (by decide)) (tag_ne (by decide)) (fun i _ => tag_ne (by decide))] at y
                    exact y
                  have hid : h2 = pH h2 (Z.ad (rPrg 0)) (Z.ad (rStp 0)) (Z.ad (rStk 0)) (nI es.length) (ia2 (rStk 0)) (sc2 (rPrg 0) 3) := pH_id (by rw [← hp2]; exact hz2.is (rPrg 0) ⟨by decide, hZ.wf.p0⟩) (hz2.is (rStk 0) ⟨by decide, hZ.wf.p0⟩)
                  have hc := cP_holds0 (d := d) (K := ia2 (rStk 0)) (ht := sc2 (rPrg 0) 3) hst hpf hok hF hx
                  rw [← hid] at hc
                  refine cV_268 (as := [.ref (Z.ad (rVal v))]) (st := []) (mc := 0) (ms := 0) (kc := 0) (ks := 0) rfl (kx_tk_dec rfl dV_choose) (hz2.is (rPrg 0) ⟨by decide, hZ.wf.p0⟩) rfl rfl (Nat.le_of_ble_eq_true rfl) (hc) (fun o h' hq => ?_)
                  obtain ⟨K2, ht2, rfl, rfl⟩ := hq
                  show kx_w _ _ _ _ _ _ _ _ _ _ _
                  refine cw_go (cz_pH (Z := Z.wA sc2 ia2) (i := 0) (K := K2) (ht := ht2) hz2 ⟨by decide, hZ.wf.p0⟩ hp2) (fun h3 hz3 => ?_)
                  replace hz3 : cOk G m S A h3 (Z.wA (upS sc2 (rPrg 0) 3 ht2) (upI ia2 (rStk 0) K2)) := hz3
                  have hfr3 : cFr Z (upS sc2 (rPrg 0) 3 ht2) (upI ia2 (rStk 0) K2) := cFr_sP (cFr_iK hfr)
                  have hch3 := chs_h (K := K2) (x := ht2) hch
                  refine kx_if (tgt := 109) (kx_tk_dec rfl dV_choose) rfl (fun e93 => ?_) (fun e93 => ?_)
                  · skip
                    replace e93 : b01 (decide (¬ x = 0)) = 0 := e93
                    replace e93 : decide (¬ x = 0) = false := b01_f e93
                    refine kx_rn dV_choose 2 10 [(0, .ref (Z.ad rV)), (1, .int (nI tn)), (2, .ref (Z.ad (rTab k))), (3, .int ((nI r) + 1)), (4, .ref (Z.ad (rVer v)))] [] rfl ?_
                    rw [show (nI r) + 1 = nI (r + 1) from kn_ad rfl rfl]
                    refine kx_lsub (lv' := [(0, .ref (Z.ad rV)), (1, .int (nI tn)), (2, .ref (Z.ad (rTab k))), (3, .int (nI (r + 1)))]) (.cons₂ _ (.cons₂ _ (.cons₂ _ (.cons₂ _ (.cons _ .slnil))))) ?_
                    have hvd1 : cMt Z es tn k r = false := decide_eq_false (fun y => by rw [show vdC Z es tn (24 * k + r) = 0 from by unfold vdC; rw [if_neg hh, if_neg (fun y => by rw [← hv40.2] at y; rw [decide_eq_true (p := Z.st (v % 40 + 1) = 0 + 1) y.2] at e59; cases e59), ← hv, if_neg hng, hx]; show (if x = 0 then 0 else 1) = 0; rw [if_pos (Classical.byContradiction (fun y => by rw [decide_eq_true (p := ¬ x = 0) y] at e93; cases e93))]] at y; cases y)
                    have hL : (selL (cMt Z es tn k) (r + 1)) = (selL (cMt Z es tn k) r) := by simp only [selL]; rw [if_neg (by rw [hvd1]; decide)]
                    exact ih (r + 1) h3 _ _ (by omega) hz3 hfr3 (by rw [hL]; exact hch3)
                  · skip
                    replace e93 : ¬ b01 (decide (¬ x = 0)) = 0 := e93
                    replace e93 : decide (¬ x = 0) = true := b01_t e93
                    refine kx_rn dV_choose 1 97 [(0, .ref (Z.ad rV)), (1, .int (nI tn)), (2, .ref (Z.ad (rTab k))), (3, .int (nI r)), (4, .ref (Z.ad (rVer v)))] [.ref (Z.ad rV)] rfl ?_
                    refine pV_51 (v := .ref (Z.ad (rRs (1 - Z.fi)))) rfl (kx_tk_dec rfl dV_choose) (hz3.is rV rfl) rfl ?_
                    refine kx_rn dV_choose 2 103 [(0, .ref (Z.ad rV)), (1, .int (nI tn)), (2, .ref (Z.ad (rTab k))), (3, .int (nI r)), (4, .ref (Z.ad (rVer v)))] [.ref (Z.ad (rVer v)), .int (nI r), .ref (Z.ad (rRs (1 - Z.fi)))] rfl ?_
                    refine pV_266 (v := .ref (Z.ad (rVal v))) rfl (kx_tk_dec rfl dV_choose) (hz3.is (rVer v) hv0) rfl ?_
                    have hsz : (upS sc2 (rPrg 0) 3 ht2) (rRs (1 - Z.fi)) 2 = nI (selL (cMt Z es tn k) r).length := hch3.1
                    refine cV_272 (as := [.int (nI r), .ref (Z.ad (rVal v))]) (st := []) (mc := 0) (ms := 0) (kc := 0) (ks := 0) rfl (kx_tk_dec rfl dV_choose) (hz3.is (rRs (1 - Z.fi)) hj2) rfl rfl (Nat.le_of_ble_eq_true rfl) (cS_add (Z := Z.wA (upS sc2 (rPrg 0) 3 ht2) (upI ia2 (rStk 0) K2)) (j := 1 - Z.fi) (v := v) (r := r) hst hz3 hj2 hsz (by omega) hv0) (fun o h' hq => ?_)
                    obtain ⟨rfl, hz4⟩ := hq
                    show kx_w _ _ _ _ _ _ _ _ _ _ _
                    refine kx_rn dV_choose 2 10 [(0, .ref (Z.ad rV)), (1, .int (nI tn)), (2, .ref (Z.ad (rTab k))), (3, .int ((nI r) + 1)), (4, .ref (Z.ad (rVer v)))] [] rfl ?_
                    rw [show (nI r) + 1 = nI (r + 1) from kn_ad rfl rfl]
                    refine kx_lsub (lv' := [(0, .ref (Z.ad rV)), (1, .int (nI tn)), (2, .ref (Z.ad (rTab k))), (3, .int (nI (r + 1)))]) (.cons₂ _ (.cons₂ _ (.cons₂ _ (.cons₂ _ (.cons _ .slnil))))) ?_
                    have hvd1 : cMt Z es tn k r = true := decide_eq_true (by unfold vdC; rw [if_neg hh, if_neg (fun y => by rw [← hv40.2] at y; rw [decide_eq_true (p := Z.st (v % 40 + 1) = 0 + 1) y.2] at e59; cases e59), ← hv, if_neg hng, hx]; show (if x = 0 then 0 else 1) = 1; rw [if_neg (of_decide_eq_true e93)])
                    have hL : (selL (cMt Z es tn k) (r + 1)) = (selL (cMt Z es tn k) r) ++ [r] := by simp only [selL]; rw [if_pos hvd1]
                    refine ih (r + 1) h' (upS (upS sc2 (rPrg 0) 3 ht2) (rRs (1 - Z.fi)) 2 (nI ((selL (cMt Z es tn k) r).length + 1))) (upI (upI (upI ia2 (rStk 0) K2) (rNum (1 - Z.fi)) (va_up ((upI ia2 (rStk 0) K2) (rNum (1 - Z.fi))) (selL (cMt Z es tn k) r).length (nI r))) (rInn (24 * (1 - Z.fi) + (selL (cMt Z es tn k) r).length)) (va_cpy ((upI ia2 (rStk 0) K2) (rVal v)) ((upI ia2 (rStk 0) K2) (rInn (24 * (1 - Z.fi) + (selL (cMt Z es tn k) r).length))) 0 0 4)) (by omega) hz4 (cFr_sR (cFr_iI (by omega) (cFr_iN hfr3))) ?_
                    rw [hL]
                    refine chs_add hch3 (by omega) (fun c hc => ?_)
                    show (if 0 ≤ c ∧ c < 0 + 4 then (upI ia2 (rStk 0) K2) (rVal v) (0 + (c - 0)) else _) = _
                    rw [if_pos (by omega), upI_ne (tag_ne (by decide)), hiv, show 0 + (c - 0) = c by omega]
                    unfold cVl
                    rw [← hv]
              · skip
                replace e59 : ¬ b01 (decide (Z.st (v % 40 + 1) = 0 + 1)) = 0 := e59
                replace e59 : decide (Z.st (v % 40 + 1) = 0 + 1) = true := b01_t e59
                rw [show vdC Z es tn (24 * k + r) = 2 from by unfold vdC; rw [if_neg hh, if_pos ⟨fun y => e41 (by rw [hv40.2]; exact y), by rw [← hv40.2]; exact of_decide_eq_true e59⟩]] at hvd; omega
  refine kx_rn dV_choose 1 1 [(0, .ref (Z.ad rV)), (1, .int (nI tn)), (2, .ref (Z.ad (rTab k)))] [.ref (Z.ad rV)] rfl ?_
  refine pV_51 (v := .ref (Z.ad (rRs (1 - Z.fi)))) rfl (kx_tk_dec rfl dV_choose) (hZ.is rV rfl) rfl ?_
  refine kx_rn dV_choose 1 5 [(0, .ref (Z.ad rV)), (1, .int (nI tn)), (2, .ref (Z.ad (rTab k)))] [.int 0, .ref (Z.ad (rRs (1 - Z.fi)))] rfl ?_
  refine qV_158 rfl (kx_tk_dec rfl dV_choose) (hZ.is (rRs (1 - Z.fi)) (show 1 - Z.fi < 2 by omega)) rfl rfl (Nat.le_of_ble_eq_true rfl) ?_
  refine cw_go (cz_sS (ρ := (rRs (1 - Z.fi))) hZ (show 1 - Z.fi < 2 by omega) 2 0 rfl) (fun h1 hz1 => ?_)
  refine kx_rn dV_choose 2 10 [(0, .ref (Z.ad rV)), (1, .int (nI tn)), (2, .ref (Z.ad (rTab k))), (3, .int 0)] [] rfl ?_
  exact loop md 0 _ (upS Z.sc (rRs (1 - Z.fi)) 2 0) Z.ia (by omega) hz1 (cFr_sR (cFr_r Z)) ⟨upS_eq, fun i r hr => by simp [selL] at hr⟩
set_option maxRecDepth 100000 in
theorem cV_choose1 {k md bg tn r0 : Nat} {es : List Int32} (hst : l.stackTraces = false) (hZ : cOk G m S A h Z) (hk : k < 3) (ht : Z.tb k = true) (hmd : Z.sc (rTab k) 2 = nI md) (hmd2 : md ≤ 24) (hbg : Z.sc rTr 1 = nI bg) (hb40 : bg ≤ 40) (ht1 : 1 ≤ tn) (ht2 : tn ≤ bg) (hpn : Z.sc (rPrg 0) 2 = nI es.length) (hok : okC es) (hF : prg (Z.ia (rStp 0)) es) (hr0 : r0 < md) (hall : ∀ r, r < r0 → vdC Z es tn (24 * k + r) ≤ 1) (hbad : vdC Z es tn (24 * k + r0) = 2) :
    kx_c G l mV_choose (d + 5) 1 6 [.ref (Z.ad rV), .int (nI tn), .ref (Z.ad (rTab k))] h (fun o h' => ∃ x, o = .threw x ∧ kx_is G h' x (.inr (10, [])) ∧ ∃ sc2 ia2, cOk G m S A h' (Z.wA sc2 ia2) ∧ cFr Z sc2 ia2) := by
  refine kx_in (by decide +kernel) (Nat.le_of_ble_eq_true rfl) hst ?_
  have loop : ∀ n (r : Nat) (h2 : kx_H) (sc2 ia2 : cR → Nat → Int32), r + n = r0 → cOk G m S A h2 (Z.wA sc2 ia2) → cFr Z sc2 ia2 → chs Z sc2 ia2 (selL (cMt Z es tn k) r) (cVl Z tn k) → kx_w G l mV_choose (d + 5) (fun o h' => ∃ x, o = .threw x ∧ kx_is G h' x (.inr (10, [])) ∧ ∃ sc2 ia2, cOk G m S A h' (Z.wA sc2 ia2) ∧ cFr Z sc2 ia2) 1 6 10 [(0, .ref (Z.ad rV)), (1, .int (nI tn)), (2, .ref (Z.ad (rTab k))), (3, .int (nI r))] [] h2 := by
    intro n
    induction n with
    | zero =>
      intro r h2 sc2 ia2 hr hz2 hfr hch
      have hr0 : r = r0 := by omega
      have hvd := hbad
      rw [← hr0] at hvd
      have hj2 : 1 - Z.fi < 2 := by omega
      have hm2 : sc2 (rTab k) 2 = nI md := by rw [hfr.1 (rTab k) (tag_ne (by decide)) (tag_ne (by decide))]; exact hmd
      have hb2 : sc2 rTr 1 = nI bg := by rw [hfr.1 rTr (tag_ne (by decide)) (tag_ne (by decide))]; exact hbg
      have hp2 : sc2 (rPrg 0) 2 = nI es.length := by rw [hfr.2.1]; exact hpn
      have htr : kx_is G h2 (Z.ad rTr) (.inr (1, [.ref (Z.ad rSts), .int (nI bg), .int (sc2 rTr 2)])) := by rw [← hb2]; exact hz2.is rTr rfl
      have hrow : r < 24 → lvZ Z (rRow (24 * k + r)) := fun hr => ⟨by show 24 * k + r < 72; omega, by show Z.tb ((24 * k + r) / 24) = true; rw [show (24 * k + r) / 24 = k by omega]; exact ht⟩
      have hlen := selL_len (cMt Z es tn k) r
      have hcle := cnt_le (cMt Z es tn k) r
      refine kx_rn dV_choose 2 12 [(0, .ref (Z.ad rV)), (1, .int (nI tn)), (2, .ref (Z.ad (rTab k))), (3, .int (nI r))] [.ref (Z.ad (rTab k)), .int (nI r)] rfl ?_
      refine pV_131 (v := .int (sc2 (rTab k) 2)) rfl (kx_tk_dec rfl dV_choose) (hz2.is (rTab k) ⟨hk, ht⟩) rfl ?_
      rw [hm2]
      refine kx_ic (tgt := 115) (kx_tk_dec rfl dV_choose) rfl (fun e15 => ?_) (fun e15 => ?_)
      · skip
        replace e15 : nI md ≤ nI r := e15
        replace e15 : md ≤ r := (nI_leI (a := md) (b := r) (by omega) (by omega)).mp e15
        exfalso; omega
      · skip
        replace e15 : ¬ nI md ≤ nI r := e15
        replace e15 : ¬ md ≤ r := fun z => e15 ((nI_leI (a := md) (b := r) (by omega) (by omega)).mpr z)
        refine kx_rn dV_choose 1 19 [(0, .ref (Z.ad rV)), (1, .int (nI tn)), (2, .ref (Z.ad (rTab k))), (3, .int (nI r))] [.ref (Z.ad (rTab k))] rfl ?_
        refine pV_207 (v := .ref (Z.ad (rRws k))) rfl (kx_tk_dec rfl dV_choose) (hz2.is (rTab k) ⟨hk, ht⟩) rfl ?_
        refine kx_rn dV_choose 1 23 [(0, .ref (Z.ad rV)), (1, .int (nI tn)), (2, .ref (Z.ad (rTab k))), (3, .int (nI r))] [.int (nI r), .ref (Z.ad (rRws k))] rfl ?_
        refine kx_qldN (x := some (Z.ad (rRow (24 * k + r)))) (i := r) rfl rfl (kx_tk_dec rfl dV_choose) (hz2.is (rRws k) ⟨hk, ht⟩) (by show r < 24; omega) (by decide) (if_pos (show r < 24 by omega)) ?_
        refine kx_rn dV_choose 1 25 [(0, .ref (Z.ad rV)), (1, .int (nI tn)), (2, .ref (Z.ad (rTab k))), (3, .int (nI r))] [.int (nI tn), .ref (Z.ad (rRow (24 * k + r)))] rfl ?_
        refine cV_251 (as := [.int (nI tn)]) (st := []) (mc := 0) (ms := 0) (kc := 1) (ks := 6) rfl (kx_tk_dec rfl dV_choose) (hz2.is (rRow (24 * k + r)) (hrow (by omega))) rfl rfl (Nat.le_of_ble_eq_true rfl) (cR_hold (Z := Z.wA sc2 ia2) hst hz2 (hrow (by omega)) (by omega)) (fun o h' hq => ?_)
        obtain ⟨rfl, hhe⟩ := hq
        subst h'
        rw [show (Z.wA sc2 ia2).V = Z.V from rfl]
        by_cases hh : hwq Z.V tn (24 * k + r) = 0
        · rw [if_pos hh]
          show kx_w _ _ _ _ _ _ _ _ _ _ _
          rw [show vdC Z es tn (24 * k + r) = 0 from by unfold vdC; rw [if_pos hh]] at hvd; cases hvd
        · rw [if_neg hh]
          show kx_w _ _ _ _ _ _ _ _ _ _ _
          obtain ⟨hv0, hv1⟩ := hwq_v hh
          obtain ⟨v, hv⟩ : ∃ v, v = 40 * (24 * k + r) + (hwq Z.V tn (24 * k + r) - 1) := ⟨_, rfl⟩
          rw [← hv] at hv0
          have hv40 : v / 40 = 24 * k + r ∧ v % 40 + 1 = hwq Z.V tn (24 * k + r) := by omega
          have hvlow := hZ.wf.low v
          replace hvlow : Z.V v < 256 := hvlow
          have hiv : ia2 (rVal v) = Z.ia (rVal v) := hfr.2.2 (rVal v) (tag_ne (by decide)) (tag_ne (by decide)) (fun i _ => tag_ne (by decide))
          rw [show (Z.wA sc2 ia2).ad (rVer (40 * (24 * k + r) + (hwq Z.V tn (24 * k + r) - 1))) = Z.ad (rVer v) by rw [hv]; rfl]
          refine kx_rn dV_choose 2 32 [(0, .ref (Z.ad rV)), (1, .int (nI tn)), (2, .ref (Z.ad (rTab k))), (3, .int (nI r)), (4, .ref (Z.ad (rVer v)))] [.ref (Z.ad (rVer v))] rfl ?_
          refine kx_nul (x := some (Z.ad (rVer v))) (tgt := 109) (kx_tk_dec rfl dV_choose) rfl (fun e32 => ?_) (fun a32 e32 => ?_)
          · skip
            cases e32
          · skip
            refine kx_rn dV_choose 1 37 [(0, .ref (Z.ad rV)), (1, .int (nI tn)), (2, .ref (Z.ad (rTab k))), (3, .int (nI r)), (4, .ref (Z.ad (rVer v)))] [.ref (Z.ad (rVer v))] rfl ?_
            refine pV_255 (v := .int (nI (v % 40 + 1))) rfl (kx_tk_dec rfl dV_choose) (hz2.is (rVer v) hv0) rfl ?_
            refine kx_rn dV_choose 1 41 [(0, .ref (Z.ad rV)), (1, .int (nI tn)), (2, .ref (Z.ad (rTab k))), (3, .int (nI r)), (4, .ref (Z.ad (rVer v)))] [.int (nI tn), .int (nI (v % 40 + 1))] rfl ?_
            refine kx_ic (tgt := 73) (kx_tk_dec rfl dV_choose) rfl (fun e41 => ?_) (fun e41 => ?_)
            · skip
              replace e41 : nI (v % 40 + 1) = nI tn := e41
              replace e41 : v % 40 + 1 = tn := (nI_eq (a := v % 40 + 1) (b := tn) (by omega) (by omega)).mp e41
              refine kx_rn dV_choose 1 75 [(0, .ref (Z.ad rV)), (1, .int (nI tn)), (2, .ref (Z.ad (rTab k))), (3, .int (nI r)), (4, .ref (Z.ad (rVer v)))] [.ref (Z.ad (rVer v))] rfl ?_
              refine pV_262 (v := .int (nI (Z.V v / 2 % 2))) rfl (kx_tk_dec rfl dV_choose) (hz2.is (rVer v) hv0) rfl ?_
              refine kx_if (tgt := 109) (kx_tk_dec rfl dV_choose) rfl (fun e78 => ?_) (fun e78 => ?_)
              · skip
                replace e78 : ¬ nI (Z.V v / 2 % 2) = 0 := e78
                replace e78 : ¬ Z.V v / 2 % 2 = 0 := fun z => e78 ((nI_eq (a := Z.V v / 2 % 2) (b := 0) (by omega) (by omega)).mpr z)
                rw [show vdC Z es tn (24 * k + r) = 0 from by unfold vdC; rw [if_neg hh, if_neg (fun y => y.1 (by rw [← hv40.2]; exact e41)), ← hv, if_pos (by omega)]] at hvd; omega
              · skip
                replace e78 : nI (Z.V v / 2 % 2) = 0 := e78
                replace e78 : Z.V v / 2 % 2 = 0 := (nI_eq (a := Z.V v / 2 % 2) (b := 0) (by omega) (by omega)).mp e78
                refine kx_rn dV_choose 1 82 [(0, .ref (Z.ad rV)), (1, .int (nI tn)), (2, .ref (Z.ad (rTab k))), (3, .int (nI r)), (4, .ref (Z.ad (rVer v)))] [.ref (Z.ad rV)] rfl ?_
                refine pV_36 (v := .ref (Z.ad (rPrg 0))) rfl (kx_tk_dec rfl dV_choose) (hz2.is rV rfl) rfl ?_
                refine kx_rn dV_choose 1 87 [(0, .ref (Z.ad rV)), (1, .int (nI tn)), (2, .ref (Z.ad (rTab k))), (3, .int (nI r)), (4, .ref (Z.ad (rVer v)))] [.ref (Z.ad (rVer v)), .ref (Z.ad (rPrg 0))] rfl ?_
                refine pV_266 (v := .ref (Z.ad (rVal v))) rfl (kx_tk_dec rfl dV_choose) (hz2.is (rVer v) hv0) rfl ?_
                have hng : ¬ Z.V v / 2 % 2 = 1 := by omega
                cases ex : lA (Z.ia (rVal v)) es with
                | none =>
                  rw [show vdC Z es tn (24 * k + r) = 3 from by unfold vdC; rw [if_neg hh, if_neg (fun y => y.1 (by rw [← hv40.2]; exact e41)), ← hv, if_neg hng, ex]; rfl] at hvd
                  omega
                | some x =>
                  rw [show vdC Z es tn (24 * k + r) = if x = 0 then 0 else 1 from by unfold vdC; rw [if_neg hh, if_neg (fun y => y.1 (by rw [← hv40.2]; exact e41)), ← hv, if_neg hng, ex]; rfl] at hvd
                  split at hvd <;> omega
            · skip
              replace e41 : ¬ nI (v % 40 + 1) = nI tn := e41
              replace e41 : ¬ v % 40 + 1 = tn := fun z => e41 ((nI_eq (a := v % 40 + 1) (b := tn) (by omega) (by omega)).mpr z)
              refine kx_rn dV_choose 1 45 [(0, .ref (Z.ad rV)), (1, .int (nI tn)), (2, .ref (Z.ad (rTab k))), (3, .int (nI r)), (4, .ref (Z.ad (rVer v)))] [.ref (Z.ad rV)] rfl ?_
              refine pV_18 (v := .ref (Z.ad rTr)) rfl (kx_tk_dec rfl dV_choose) (hz2.is rV rfl) rfl ?_
              refine kx_rn dV_choose 1 50 [(0, .ref (Z.ad rV)), (1, .int (nI tn)), (2, .ref (Z.ad (rTab k))), (3, .int (nI r)), (4, .ref (Z.ad (rVer v)))] [.ref (Z.ad (rVer v)), .ref (Z.ad rTr)] rfl ?_
              refine pV_255 (v := .int (nI (v % 40 + 1))) rfl (kx_tk_dec rfl dV_choose) (hz2.is (rVer v) hv0) rfl ?_
              refine pV_215 rfl (kx_tk_dec rfl dV_choose) ?_
              refine cV_236 (as := [.int (nI (v % 40 + 1)), .ref (G.2.2.2.1 0)]) (st := []) (mc := 0) (ms := 0) (kc := 1) (ks := 6) rfl (kx_tk_dec rfl dV_choose) (hz2.is rTr rfl) rfl rfl (Nat.le_of_ble_eq_true rfl) (cT_is (k := 0) (S6 := Z.st) hst htr (hz2.is rSts rfl) hz2.wf.stc hb40 (by decide)) (fun o h' hq => ?_)
              obtain ⟨z, rfl, hhe, hzz⟩ := hq
              subst h'
              show kx_w _ _ _ _ _ _ _ _ _ _ _
              rw [isx (Z := Z) hzz (by omega) (by omega) hb40]
              refine kx_if (tgt := 73) (kx_tk_dec rfl dV_choose) rfl (fun e59 => ?_) (fun e59 => ?_)
              · skip
                replace e59 : b01 (decide (Z.st (v % 40 + 1) = 0 + 1)) = 0 := e59
                replace e59 : decide (Z.st (v % 40 + 1) = 0 + 1) = false := b01_f e59
                refine kx_rn dV_choose 1 75 [(0, .ref (Z.ad rV)), (1, .int (nI tn)), (2, .ref (Z.ad (rTab k))), (3, .int (nI r)), (4, .ref (Z.ad (rVer v)))] [.ref (Z.ad (rVer v))] rfl ?_
                refine pV_262 (v := .int (nI (Z.V v / 2 % 2))) rfl (kx_tk_dec rfl dV_choose) (hz2.is (rVer v) hv0) rfl ?_
                refine kx_if (tgt := 109) (kx_tk_dec rfl dV_choose) rfl (fun e78 => ?_) (fun e78 => ?_)
                · skip
                  replace e78 : ¬ nI (Z.V v / 2 % 2) = 0 := e78
                  replace e78 : ¬ Z.V v / 2 % 2 = 0 := fun z => e78 ((nI_eq (a := Z.V v / 2 % 2) (b := 0) (by omega) (by omega)).mpr z)
                  rw [show vdC Z es tn (24 * k + r) = 0 from by unfold vdC; rw [if_neg hh, if_neg (fun y => by rw [← hv40.2] at y; rw [decide_eq_true (p := Z.st (v % 40 + 1) = 0 + 1) y.2] at e59; cases e59), ← hv, if_pos (by omega)]] at hvd; omega
                · skip
                  replace e78 : nI (Z.V v / 2 % 2) = 0 := e78
                  replace e78 : Z.V v / 2 % 2 = 0 := (nI_eq (a := Z.V v / 2 % 2) (b := 0) (by omega) (by omega)).mp e78
                  refine kx_rn dV_choose 1 82 [(0, .ref (Z.ad rV)), (1, .int (nI tn)), (2, .ref (Z.ad (rTab k))), (3, .int (nI r)), (4, .ref (Z.ad (rVer v)))] [.ref (Z.ad rV)] rfl ?_
                  refine pV_36 (v := .ref (Z.ad (rPrg 0))) rfl (kx_tk_dec rfl dV_choose) (hz2.is rV rfl) rfl ?_
                  refine kx_rn dV_choose 1 87 [(0, .ref (Z.ad rV)), (1, .int (nI tn)), (2, .ref (Z.ad (rTab k))), (3, .int (nI r)), (4, .ref (Z.ad (rVer v)))] [.ref (Z.ad (rVer v)), .ref (Z.ad (rPrg 0))] rfl ?_
                  refine pV_266 (v := .ref (Z.ad (rVal v))) rfl (kx_tk_dec rfl dV_choose) (hz2.is (rVer v) hv0) rfl ?_
                  have hng : ¬ Z.V v / 2 % 2 = 1 := by omega
                  cases ex : lA (Z.ia (rVal v)) es with
                  | none =>
                    rw [show vdC Z es tn (24 * k + r) = 3 from by unfold vdC; rw [if_neg hh, if_neg (fun y => by rw [← hv40.2] at y; rw [decide_eq_true (p := Z.st (v % 40 + 1) = 0 + 1) y.2] at e59; cases e59), ← hv, if_neg hng, ex]; rfl] at hvd
                    omega
                  | some x =>
                    rw [show vdC Z es tn (24 * k + r) = if x = 0 then 0 else 1 from by unfold vdC; rw [if_neg hh, if_neg (fun y => by rw [← hv40.2] at y; rw [decide_eq_true (p := Z.st (v % 40 + 1) = 0 + 1) y.2] at e59; cases e59), ← hv, if_neg hng, ex]; rfl] at hvd
                    split at hvd <;> omega
              · skip
                replace e59 : ¬ b01 (decide (Z.st (v % 40 + 1) = 0 + 1)) = 0 := e59
                replace e59 : decide (Z.st (v % 40 + 1) = 0 + 1) = true := b01_t e59
                refine xV_260 (kc := 0) (ks := 0) rfl dV_choose rfl rfl rfl rfl rfl (fun q hq => by cases hq) (Nat.le_of_ble_eq_true rfl) ?_
                exact ⟨_, rfl, cx_new hz2.b1 hz2.b2, sc2, ia2, cz_new hz2 _, hfr⟩
    | succ n ih =>
      intro r h2 sc2 ia2 hr hz2 hfr hch
      have hvd := hall r (by omega)
      have hj2 : 1 - Z.fi < 2 := by omega
      have hm2 : sc2 (rTab k) 2 = nI md := by rw [hfr.1 (rTab k) (tag_ne (by decide)) (tag_ne (by decide))]; exact hmd
      have hb2 : sc2 rTr 1 = nI bg := by rw [hfr.1 rTr (tag_ne (by decide)) (tag_ne (by decide))]; exact hbg
      have hp2 : sc2 (rPrg 0) 2 = nI es.length := by rw [hfr.2.1]; exact hpn
      have htr : kx_is G h2 (Z.ad rTr) (.inr (1, [.ref (Z.ad rSts), .int (nI bg), .int (sc2 rTr 2)])) := by rw [← hb2]; exact hz2.is rTr rfl
      have hrow : r < 24 → lvZ Z (rRow (24 * k + r)) := fun hr => ⟨by show 24 * k + r < 72; omega, by show Z.tb ((24 * k + r) / 24) = true; rw [show (24 * k + r) / 24 = k by omega]; exact ht⟩
      have hlen := selL_len (cMt Z es tn k) r
      have hcle := cnt_le (cMt Z es tn k) r
      refine kx_rn dV_choose 2 12 [(0, .ref (Z.ad rV)), (1, .int (nI tn)), (2, .ref (Z.ad (rTab k))), (3, .int (nI r))] [.ref (Z.ad (rTab k)), .int (nI r)] rfl ?_
      refine pV_131 (v := .int (sc2 (rTab k) 2)) rfl (kx_tk_dec rfl dV_choose) (hz2.is (rTab k) ⟨hk, ht⟩) rfl ?_
      rw [hm2]
      refine kx_ic (tgt := 115) (kx_tk_dec rfl dV_choose) rfl (fun e15 => ?_) (fun e15 => ?_)
      · skip
        replace e15 : nI md ≤ nI r := e15
        replace e15 : md ≤ r := (nI_leI (a := md) (b := r) (by omega) (by omega)).mp e15
        exfalso; omega
      · skip
        replace e15 : ¬ nI md ≤ nI r := e15
        replace e15 : ¬ md ≤ r := fun z => e15 ((nI_leI (a := md) (b := r) (by omega) (by omega)).mpr z)
        refine kx_rn dV_choose 1 19 [(0, .ref (Z.ad rV)), (1, .int (nI tn)), (2, .ref (Z.ad (rTab k))), (3, .int (nI r))] [.ref (Z.ad (rTab k))] rfl ?_
        refine pV_207 (v := .ref (Z.ad (rRws k))) rfl (kx_tk_dec rfl dV_choose) (hz2.is (rTab k) ⟨hk, ht⟩) rfl ?_
        refine kx_rn dV_choose 1 23 [(0, .ref (Z.ad rV)), (1, .int (nI tn)), (2, .ref (Z.ad (rTab k))), (3, .int (nI r))] [.int (nI r), .ref (Z.ad (rRws k))] rfl ?_
        refine kx_qldN (x := some (Z.ad (rRow (24 * k + r)))) (i := r) rfl rfl (kx_tk_dec rfl dV_choose) (hz2.is (rRws k) ⟨hk, ht⟩) (by show r < 24; omega) (by decide) (if_pos (show r < 24 by omega)) ?_
        refine kx_rn dV_choose 1 25 [(0, .ref (Z.ad rV)), (1, .int (nI tn)), (2, .ref (Z.ad (rTab k))), (3, .int (nI r))] [.int (nI tn), .ref (Z.ad (rRow (24 * k + r)))] rfl ?_
        refine cV_251 (as := [.int (nI tn)]) (st := []) (mc := 0) (ms := 0) (kc := 1) (ks := 6) rfl (kx_tk_dec rfl dV_choose) (hz2.is (rRow (24 * k + r)) (hrow (by omega))) rfl rfl (Nat.le_of_ble_eq_true rfl) (cR_hold (Z := Z.wA sc2 ia2) hst hz2 (hrow (by omega)) (by omega)) (fun o h' hq => ?_)
        obtain ⟨rfl, hhe⟩ := hq
        subst h'
        rw [show (Z.wA sc2 ia2).V = Z.V from rfl]
        by_cases hh : hwq Z.V tn (24 * k + r) = 0
        · rw [if_pos hh]
          show kx_w _ _ _ _ _ _ _ _ _ _ _
          refine kx_rn dV_choose 2 32 [(0, .ref (Z.ad rV)), (1, .int (nI tn)), (2, .ref (Z.ad (rTab k))), (3, .int (nI r)), (4, .null)] [.null] rfl ?_
          refine kx_nul (x := none) (tgt := 109) (kx_tk_dec rfl dV_choose) rfl (fun e32 => ?_) (fun a32 e32 => ?_)
          · skip
            refine kx_rn dV_choose 2 10 [(0, .ref (Z.ad rV)), (1, .int (nI tn)), (2, .ref (Z.ad (rTab k))), (3, .int ((nI r) + 1)), (4, .null)] [] rfl ?_
            rw [show (nI r) + 1 = nI (r + 1) from kn_ad rfl rfl]
            refine kx_lsub (lv' := [(0, .ref (Z.ad rV)), (1, .int (nI tn)), (2, .ref (Z.ad (rTab k))), (3, .int (nI (r + 1)))]) (.cons₂ _ (.cons₂ _ (.cons₂ _ (.cons₂ _ (.cons _ .slnil))))) ?_
            have hvd1 : cMt Z es tn k r = false := decide_eq_false (fun y => by rw [show vdC Z es tn (24 * k + r) = 0 from by unfold vdC; rw [if_pos hh]] at y; cases y)
            have hL : (selL (cMt Z es tn k) (r + 1)) = (selL (cMt Z es tn k) r) := by simp only [selL]; rw [if_neg (by rw [hvd1]; decide)]
            exact ih (r + 1) h2 sc2 ia2 (by omega) hz2 hfr (by rw [hL]; exact hch)
          · skip
            cases e32
        · rw [if_neg hh]
          show kx_w _ _ _ _ _ _ _ _ _ _ _
          obtain ⟨hv0, hv1⟩ := hwq_v hh
          obtain ⟨v, hv⟩ : ∃ v, v = 40 * (24 * k + r) + (hwq Z.V tn (24 * k + r) - 1) := ⟨_, rfl⟩
          rw [← hv] at hv0
          have hv40 : v / 40 = 24 * k + r ∧ v % 40 + 1 = hwq Z.V tn (24 * k + r) := by omega
          have hvlow := hZ.wf.low v
          replace hvlow : Z.V v < 256 := hvlow
          have hiv : ia2 (rVal v) = Z.ia (rVal v) := hfr.2.2 (rVal v) (tag_ne (by decide)) (tag_ne (by decide)) (fun i _ => tag_ne (by decide))
          rw [show (Z.wA sc2 ia2).ad (rVer (40 * (24 * k + r) + (hwq Z.V tn (24 * k + r) - 1))) = Z.ad (rVer v) by rw [hv]; rfl]
          refine kx_rn dV_choose 2 32 [(0, .ref (Z.ad rV)), (1, .int (nI tn)), (2, .ref (Z.ad (rTab k))), (3, .int (nI r)), (4, .ref (Z.ad (rVer v)))] [.ref (Z.ad (rVer v))] rfl ?_
          refine kx_nul (x := some (Z.ad (rVer v))) (tgt := 109) (kx_tk_dec rfl dV_choose) rfl (fun e32 => ?_) (fun a32 e32 => ?_)
          · skip
            cases e32
          · skip
            refine kx_rn dV_choose 1 37 [(0, .ref (Z.ad rV)), (1, .int (nI tn)), (2, .ref (Z.ad (rTab k))), (3, .int (nI r)), (4, .ref (Z.ad (rVer v)))] [.ref (Z.ad (rVer v))] rfl ?_
            refine pV_255 (v := .int (nI (v % 40 + 1))) rfl (kx_tk_dec rfl dV_choose) (hz2.is (rVer v) hv0) rfl ?_
            refine kx_rn dV_choose 1 41 [(0, .ref (Z.ad rV)), (1, .int (nI tn)), (2, .ref (Z.ad (rTab k))), (3, .int (nI r)), (4, .ref (Z.ad (rVer v)))] [.int (nI tn), .int (nI (v % 40 + 1))] rfl ?_
            refine kx_ic (tgt := 73) (kx_tk_dec rfl dV_choose) rfl (fun e41 => ?_) (fun e41 => ?_)
            · skip
              replace e41 : nI (v % 40 + 1) = nI tn := e41
              replace e41 : v % 40 + 1 = tn := (nI_eq (a := v % 40 + 1) (b := tn) (by omega) (by omega)).mp e41
              refine kx_rn dV_choose 1 75 [(0, .ref (Z.ad rV)), (1, .int (nI tn)), (2, .ref (Z.ad (rTab k))), (3, .int (nI r)), (4, .ref (Z.ad (rVer v)))] [.ref (Z.ad (rVer v))] rfl ?_
              refine pV_262 (v := .int (nI (Z.V v / 2 % 2))) rfl (kx_tk_dec rfl dV_choose) (hz2.is (rVer v) hv0) rfl ?_
              refine kx_if (tgt := 109) (kx_tk_dec rfl dV_choose) rfl (fun e78 => ?_) (fun e78 => ?_)
              · skip
                replace e78 : ¬ nI (Z.V v / 2 % 2) = 0 := e78
                replace e78 : ¬ Z.V v / 2 % 2 = 0 := fun z => e78 ((nI_eq (a := Z.V v / 2 % 2) (b := 0) (by omega) (by omega)).mpr z)
                refine kx_rn dV_choose 2 10 [(0, .ref (Z.ad rV)), (1, .int (nI tn)), (2, .ref (Z.ad (rTab k))), (3, .int ((nI r) + 1)), (4, .ref (Z.ad (rVer v)))] [] rfl ?_
                rw [show (nI r) + 1 = nI (r + 1) from kn_ad rfl rfl]
                refine kx_lsub (lv' := [(0, .ref (Z.ad rV)), (1, .int (nI tn)), (2, .ref (Z.ad (rTab k))), (3, .int (nI (r + 1)))]) (.cons₂ _ (.cons₂ _ (.cons₂ _ (.cons₂ _ (.cons _ .slnil))))) ?_
                have hvd1 : cMt Z es tn k r = false := decide_eq_false (fun y => by rw [show vdC Z es tn (24 * k + r) = 0 from by unfold vdC; rw [if_neg hh, if_neg (fun y => y.1 (by rw [← hv40.2]; exact e41)), ← hv, if_pos (by omega)]] at y; cases y)
                have hL : (selL (cMt Z es tn k) (r + 1)) = (selL (cMt Z es tn k) r) := by simp only [selL]; rw [if_neg (by rw [hvd1]; decide)]
                exact ih (r + 1) h2 sc2 ia2 (by omega) hz2 hfr (by rw [hL]; exact hch)
              · skip
                replace e78 : nI (Z.V v / 2 % 2) = 0 := e78
                replace e78 : Z.V v / 2 % 2 = 0 := (nI_eq (a := Z.V v / 2 % 2) (b := 0) (by omega) (by omega)).mp e78
                refine kx_rn dV_choose 1 82 [(0, .ref (Z.ad rV)), (1, .int (nI tn)), (2, .ref (Z.ad (rTab k))), (3, .int (nI r)), (4, .ref (Z.ad (rVer v)))] [.ref (Z.ad rV)] rfl ?_
                refine pV_36 (v := .ref (Z.ad (rPrg 0))) rfl (kx_tk_dec rfl dV_choose) (hz2.is rV rfl) rfl ?_
                refine kx_rn dV_choose 1 87 [(0, .ref (Z.ad rV)), (1, .int (nI tn)), (2, .ref (Z.ad (rTab k))), (3, .int (nI r)), (4, .ref (Z.ad (rVer v)))] [.ref (Z.ad (rVer v)), .ref (Z.ad (rPrg 0))] rfl ?_
                refine pV_266 (v := .ref (Z.ad (rVal v))) rfl (kx_tk_dec rfl dV_choose) (hz2.is (rVer v) hv0) rfl ?_
                have hng : ¬ Z.V v / 2 % 2 = 1 := by omega
                obtain ⟨x, hx⟩ : ∃ x, lA (Z.ia (rVal v)) es = some x := by
                  cases ex : lA (Z.ia (rVal v)) es with
                  | some x => exact ⟨x, rfl⟩
                  | none =>
                    rw [show vdC Z es tn (24 * k + r) = 3 from by unfold vdC; rw [if_neg hh, if_neg (fun y => y.1 (by rw [← hv40.2]; exact e41)), ← hv, if_neg hng, ex]; rfl] at hvd
                    omega
                have hpf : pFx G h2 (Z.ad (rPrg 0)) (Z.ad (rStp 0)) (Z.ad (rStk 0)) (Z.ad (rVal v)) (Z.ia (rStp 0)) (Z.ia (rVal v)) := by
                  have y := zpFx (Z := Z.wA sc2 ia2) (i := 0) (ρ := rVal v) hz2 ⟨by decide, hZ.wf.p0⟩ hv0 (tag_ne (by decide)) (tag_ne (by decide)) rfl
                  rw [show (Z.wA sc2 ia2).ia (rVal v) = Z.ia (rVal v) from hiv, show (Z.wA sc2 ia2).ia (rStp 0) = Z.ia (rStp 0) from hfr.2.2 (rStp 0) (tag_ne (by decide)) (tag_ne (by decide)) (fun i _ => tag_ne (by decide))] at y
                  exact y
                have hid : h2 = pH h2 (Z.ad (rPrg 0)) (Z.ad (rStp 0)) (Z.ad (rStk 0)) (nI es.length) (ia2 (rStk 0)) (sc2 (rPrg 0) 3) := pH_id (by rw [← hp2]; exact hz2.is (rPrg 0) ⟨by decide, hZ.wf.p0⟩) (hz2.is (rStk 0) ⟨by decide, hZ.wf.p0⟩)
                have hc := cP_holds0 (d := d) (K := ia2 (rStk 0)) (ht := sc2 (rPrg 0) 3) hst hpf hok hF hx
                rw [← hid] at hc
                refine cV_268 (as := [.ref (Z.ad (rVal v))]) (st := []) (mc := 0) (ms := 0) (kc := 1) (ks := 6) rfl (kx_tk_dec rfl dV_choose) (hz2.is (rPrg 0) ⟨by decide, hZ.wf.p0⟩) rfl rfl (Nat.le_of_ble_eq_true rfl) (hc) (fun o h' hq => ?_)
                obtain ⟨K2, ht2, rfl, rfl⟩ := hq
                show kx_w _ _ _ _ _ _ _ _ _ _ _
                refine cw_go (cz_pH (Z := Z.wA sc2 ia2) (i := 0) (K := K2) (ht := ht2) hz2 ⟨by decide, hZ.wf.p0⟩ hp2) (fun h3 hz3 => ?_)
                replace hz3 : cOk G m S A h3 (Z.wA (upS sc2 (rPrg 0) 3 ht2) (upI ia2 (rStk 0) K2)) := hz3
                have hfr3 : cFr Z (upS sc2 (rPrg 0) 3 ht2) (upI ia2 (rStk 0) K2) := cFr_sP (cFr_iK hfr)
                have hch3 := chs_h (K := K2) (x := ht2) hch
                refine kx_if (tgt := 109) (kx_tk_dec rfl dV_choose) rfl (fun e93 => ?_) (fun e93 => ?_)
                · skip
                  replace e93 : b01 (decide (¬ x = 0)) = 0 := e93
                  replace e93 : decide (¬ x = 0) = false := b01_f e93
                  refine kx_rn dV_choose 2 10 [(0, .ref (Z.ad rV)), (1, .int (nI tn)), (2, .ref (Z.ad (rTab k))), (3, .int ((nI r) + 1)), (4, .ref (Z.ad (rVer v)))] [] rfl ?_
                  rw [show (nI r) + 1 = nI (r + 1) from kn_ad rfl rfl]
                  refine kx_lsub (lv' := [(0, .ref (Z.ad rV)), (1, .int (nI tn)), (2, .ref (Z.ad (rTab k))), (3, .int (nI (r + 1)))]) (.cons₂ _ (.cons₂ _ (.cons₂ _ (.cons₂ _ (.cons _ .slnil))))) ?_
                  have hvd1 : cMt Z es tn k r = false := decide_eq_false (fun y => by rw [show vdC Z es tn (24 * k + r) = 0 from by unfold vdC; rw [if_neg hh, if_neg (fun y => y.1 (by rw [← hv40.2]; exact e41)), ← hv, if_neg hng, hx]; show (if x = 0 then 0 else 1) = 0; rw [if_pos (Classical.byContradiction (fun y => by rw [decide_eq_true (p := ¬ x = 0) y] at e93; cases e93))]] at y; cases y)
                  have hL : (selL (cMt Z es tn k) (r + 1)) = (selL (cMt Z es tn k) r) := by simp only [selL]; rw [if_neg (by rw [hvd1]; decide)]
                  exact ih (r + 1) h3 _ _ (by omega) hz3 hfr3 (by rw [hL]; exact hch3)
                · skip
                  replace e93 : ¬ b01 (decide (¬ x = 0)) = 0 := e93
                  replace e93 : decide (¬ x = 0) = true := b01_t e93
                  refine kx_rn dV_choose 1 97 [(0, .ref (Z.ad rV)), (1, .int (nI tn)), (2, .ref (Z.ad (rTab k))), (3, .int (nI r)), (4, .ref (Z.ad (rVer v)))] [.ref (Z.ad rV)] rfl ?_
                  refine pV_51 (v := .ref (Z.ad (rRs (1 - Z.fi)))) rfl (kx_tk_dec rfl dV_choose) (hz3.is rV rfl) rfl ?_
                  refine kx_rn dV_choose 2 103 [(0, .ref (Z.ad rV)), (1, .int (nI tn)), (2, .ref (Z.ad (rTab k))), (3, .int (nI r)), (4, .ref (Z.ad (rVer v)))] [.ref (Z.ad (rVer v)), .int (nI r), .ref (Z.ad (rRs (1 - Z.fi)))] rfl ?_
                  refine pV_266 (v := .ref (Z.ad (rVal v))) rfl (kx_tk_dec rfl dV_choose) (hz3.is (rVer v) hv0) rfl ?_
                  have hsz : (upS sc2 (rPrg 0) 3 ht2) (rRs (1 - Z.fi)) 2 = nI (selL (cMt Z es tn k) r).length := hch3.1
                  refine cV_272 (as := [.int (nI r), .ref (Z.ad (rVal v))]) (st := []) (mc := 0) (ms := 0) (kc := 1) (ks := 6) rfl (kx_tk_dec rfl dV_choose) (hz3.is (rRs (1 - Z.fi)) hj2) rfl rfl (Nat.le_of_ble_eq_true rfl) (cS_add (Z := Z.wA (upS sc2 (rPrg 0) 3 ht2) (upI ia2 (rStk 0) K2)) (j := 1 - Z.fi) (v := v) (r := r) hst hz3 hj2 hsz (by omega) hv0) (fun o h' hq => ?_)
                  obtain ⟨rfl, hz4⟩ := hq
                  show kx_w _ _ _ _ _ _ _ _ _ _ _
                  refine kx_rn dV_choose 2 10 [(0, .ref (Z.ad rV)), (1, .int (nI tn)), (2, .ref (Z.ad (rTab k))), (3, .int ((nI r) + 1)), (4, .ref (Z.ad (rVer v)))] [] rfl ?_
                  rw [show (nI r) + 1 = nI (r + 1) from kn_ad rfl rfl]
                  refine kx_lsub (lv' := [(0, .ref (Z.ad rV)), (1, .int (nI tn)), (2, .ref (Z.ad (rTab k))), (3, .int (nI (r + 1)))]) (.cons₂ _ (.cons₂ _ (.cons₂ _ (.cons₂ _ (.cons _ .slnil))))) ?_
                  have hvd1 : cMt Z es tn k r = true := decide_eq_true (by unfold vdC; rw [if_neg hh, if_neg (fun y => y.1 (by rw [← hv40.2]; exact e41)), ← hv, if_neg hng, hx]; show (if x = 0 then 0 else 1) = 1; rw [if_neg (of_decide_eq_true e93)])
                  have hL : (selL (cMt Z es tn k) (r + 1)) = (selL (cMt Z es tn k) r) ++ [r] := by simp only [selL]; rw [if_pos hvd1]
                  refine ih (r + 1) h' (upS (upS sc2 (rPrg 0) 3 ht2) (rRs (1 - Z.fi)) 2 (nI ((selL (cMt Z es tn k) r).length + 1))) (upI (upI (upI ia2 (rStk 0) K2) (rNum (1 - Z.fi)) (va_up ((upI ia2 (rStk 0) K2) (rNum (1 - Z.fi))) (selL (cMt Z es tn k) r).length (nI r))) (rInn (24 * (1 - Z.fi) + (selL (cMt Z es tn k) r).length)) (va_cpy ((upI ia2 (rStk 0) K2) (rVal v)) ((upI ia2 (rStk 0) K2) (rInn (24 * (1 - Z.fi) + (selL (cMt Z es tn k) r).length))) 0 0 4)) (by omega) hz4 (cFr_sR (cFr_iI (by omega) (cFr_iN hfr3))) ?_
                  rw [hL]
                  refine chs_add hch3 (by omega) (fun c hc => ?_)
                  show (if 0 ≤ c ∧ c < 0 + 4 then (upI ia2 (rStk 0) K2) (rVal v) (0 + (c - 0)) else _) = _
                  rw [if_pos (by omega), upI_ne (tag_ne (by decide)), hiv, show 0 + (c - 0) = c by omega]
                  unfold cVl
                  rw [← hv]
            · skip
              replace e41 : ¬ nI (v % 40 + 1) = nI tn := e41
              replace e41 : ¬ v % 40 + 1 = tn := fun z => e41 ((nI_eq (a := v % 40 + 1) (b := tn) (by omega) (by omega)).mpr z)
              refine kx_rn dV_choose 1 45 [(0, .ref (Z.ad rV)), (1, .int (nI tn)), (2, .ref (Z.ad (rTab k))), (3, .int (nI r)), (4, .ref (Z.ad (rVer v)))] [.ref (Z.ad rV)] rfl ?_
              refine pV_18 (v := .ref (Z.ad rTr)) rfl (kx_tk_dec rfl dV_choose) (hz2.is rV rfl) rfl ?_
              refine kx_rn dV_choose 1 50 [(0, .ref (Z.ad rV)), (1, .int (nI tn)), (2, .ref (Z.ad (rTab k))), (3, .int (nI r)), (4, .ref (Z.ad (rVer v)))] [.ref (Z.ad (rVer v)), .ref (Z.ad rTr)] rfl ?_
              refine pV_255 (v := .int (nI (v % 40 + 1))) rfl (kx_tk_dec rfl dV_choose) (hz2.is (rVer v) hv0) rfl ?_
              refine pV_215 rfl (kx_tk_dec rfl dV_choose) ?_
              refine cV_236 (as := [.int (nI (v % 40 + 1)), .ref (G.2.2.2.1 0)]) (st := []) (mc := 0) (ms := 0) (kc := 1) (ks := 6) rfl (kx_tk_dec rfl dV_choose) (hz2.is rTr rfl) rfl rfl (Nat.le_of_ble_eq_true rfl) (cT_is (k := 0) (S6 := Z.st) hst htr (hz2.is rSts rfl) hz2.wf.stc hb40 (by decide)) (fun o h' hq => ?_)
              obtain ⟨z, rfl, hhe, hzz⟩ := hq
              subst h'
              show kx_w _ _ _ _ _ _ _ _ _ _ _
              rw [isx (Z := Z) hzz (by omega) (by omega) hb40]
              refine kx_if (tgt := 73) (kx_tk_dec rfl dV_choose) rfl (fun e59 => ?_) (fun e59 => ?_)
              · skip
                replace e59 : b01 (decide (Z.st (v % 40 + 1) = 0 + 1)) = 0 := e59
                replace e59 : decide (Z.st (v % 40 + 1) = 0 + 1) = false := b01_f e59
                refine kx_rn dV_choose 1 75 [(0, .ref (Z.ad rV)), (1, .int (nI tn)), (2, .ref (Z.ad (rTab k))), (3, .int (nI r)), (4, .ref (Z.ad (rVer v)))] [.ref (Z.ad (rVer v))] rfl ?_
                refine pV_262 (v := .int (nI (Z.V v / 2 % 2))) rfl (kx_tk_dec rfl dV_choose) (hz2.is (rVer v) hv0) rfl ?_
                refine kx_if (tgt := 109) (kx_tk_dec rfl dV_choose) rfl (fun e78 => ?_) (fun e78 => ?_)
                · skip
                  replace e78 : ¬ nI (Z.V v / 2 % 2) = 0 := e78
                  replace e78 : ¬ Z.V v / 2 % 2 = 0 := fun z => e78 ((nI_eq (a := Z.V v / 2 % 2) (b := 0) (by omega) (by omega)).mpr z)
                  refine kx_rn dV_choose 2 10 [(0, .ref (Z.ad rV)), (1, .int (nI tn)), (2, .ref (Z.ad (rTab k))), (3, .int ((nI r) + 1)), (4, .ref (Z.ad (rVer v)))] [] rfl ?_
                  rw [show (nI r) + 1 = nI (r + 1) from kn_ad rfl rfl]
                  refine kx_lsub (lv' := [(0, .ref (Z.ad rV)), (1, .int (nI tn)), (2, .ref (Z.ad (rTab k))), (3, .int (nI (r + 1)))]) (.cons₂ _ (.cons₂ _ (.cons₂ _ (.cons₂ _ (.cons _ .slnil))))) ?_
                  have hvd1 : cMt Z es tn k r = false := decide_eq_false (fun y => by rw [show vdC Z es tn (24 * k + r) = 0 from by unfold vdC; rw [if_neg hh, if_neg (fun y => by rw [← hv40.2] at y; rw [decide_eq_true (p := Z.st (v % 40 + 1) = 0 + 1) y.2] at e59; cases e59), ← hv, if_pos (by omega)]] at y; cases y)
                  have hL : (selL (cMt Z es tn k) (r + 1)) = (selL (cMt Z es tn k) r) := by simp only [selL]; rw [if_neg (by rw [hvd1]; decide)]
                  exact ih (r + 1) h2 sc2 ia2 (by omega) hz2 hfr (by rw [hL]; exact hch)
                · skip
                  replace e78 : nI (Z.V v / 2 % 2) = 0 := e78
                  replace e78 : Z.V v / 2 % 2 = 0 := (nI_eq (a := Z.V v / 2 % 2) (b := 0) (by omega) (by omega)).mp e78
                  refine kx_rn dV_choose 1 82 [(0, .ref (Z.ad rV)), (1, .int (nI tn)), (2, .ref (Z.ad (rTab k))), (3, .int (nI r)), (4, .ref (Z.ad (rVer v)))] [.ref (Z.ad rV)] rfl ?_
                  refine pV_36 (v := .ref (Z.ad (rPrg 0))) rfl (kx_tk_dec rfl dV_choose) (hz2.is rV rfl) rfl ?_
                  refine kx_rn dV_choose 1 87 [(0, .ref (Z.ad rV)), (1, .int (nI tn)), (2, .ref (Z.ad (rTab k))), (3, .int (nI r)), (4, .ref (Z.ad (rVer v)))] [.ref (Z.ad (rVer v)), .ref (Z.ad (rPrg 0))] rfl ?_
                  refine pV_266 (v := .ref (Z.ad (rVal v))) rfl (kx_tk_dec rfl dV_choose) (hz2.is (rVer v) hv0) rfl ?_
                  have hng : ¬ Z.V v / 2 % 2 = 1 := by omega
                  obtain ⟨x, hx⟩ : ∃ x, lA (Z.ia (rVal v)) es = some x := by
                    cases ex : lA (Z.ia (rVal v)) es with
                    | some x => exact ⟨x, rfl⟩
                    | none =>
                      rw [show vdC Z es tn (24 * k + r) = 3 from by unfold vdC; rw [if_neg hh, if_neg (fun y => by rw [← hv40.2] at y; rw [decide_eq_true (p := Z.st (v % 40 + 1) = 0 + 1) y.2] at e59; cases e59), ← hv, if_neg hng, ex]; rfl] at hvd
                      omega
                  have hpf : pFx G h2 (Z.ad (rPrg 0)) (Z.ad (rStp 0)) (Z.ad (rStk 0)) (Z.ad (rVal v)) (Z.ia (rStp 0)) (Z.ia (rVal v)) := by
                    have y := zpFx (Z := Z.wA sc2 ia2) (i := 0) (ρ := rVal v) hz2 ⟨by decide, hZ.wf.p0⟩ hv0 (tag_ne (by decide)) (tag_ne (by decide)) rfl
                    rw [show (Z.wA sc2 ia2).ia (rVal v) = Z.ia (rVal v) from hiv, show (Z.wA sc2 ia2).ia (rStp 0) = Z.ia (rStp 0) from hfr.2.2 (rStp 0) (tag_ne (by decide)) (tag_ne (by decide)) (fun i _ => tag_ne (by decide))] at y
                    exact y
                  have hid : h2 = pH h2 (Z.ad (rPrg 0)) (Z.ad (rStp 0)) (Z.ad (rStk 0)) (nI es.length) (ia2 (rStk 0)) (sc2 (rPrg 0) 3) := pH_id (by rw [← hp2]; exact hz2.is (rPrg 0) ⟨by decide, hZ.wf.p0⟩) (hz2.is (rStk 0) ⟨by decide, hZ.wf.p0⟩)
                  have hc := cP_holds0 (d := d) (K := ia2 (rStk 0)) (ht := sc2 (rPrg 0) 3) hst hpf hok hF hx
                  rw [← hid] at hc
                  refine cV_268 (as := [.ref (Z.ad (rVal v))]) (st := []) (mc := 0) (ms := 0) (kc := 1) (ks := 6) rfl (kx_tk_dec rfl dV_choose) (hz2.is (rPrg 0) ⟨by decide, hZ.wf.p0⟩) rfl rfl (Nat.le_of_ble_eq_true rfl) (hc) (fun o h' hq => ?_)
                  obtain ⟨K2, ht2, rfl, rfl⟩ := hq
                  show kx_w _ _ _ _ _ _ _ _ _ _ _
                  refine cw_go (cz_pH (Z := Z.wA sc2 ia2) (i := 0) (K := K2) (ht := ht2) hz2 ⟨by decide, hZ.wf.p0⟩ hp2) (fun h3 hz3 => ?_)
                  replace hz3 : cOk G m S A h3 (Z.wA (upS sc2 (rPrg 0) 3 ht2) (upI ia2 (rStk 0) K2)) := hz3
                  have hfr3 : cFr Z (upS sc2 (rPrg 0) 3 ht2) (upI ia2 (rStk 0) K2) := cFr_sP (cFr_iK hfr)
                  have hch3 := chs_h (K := K2) (x := ht2) hch
                  refine kx_if (tgt := 109) (kx_tk_dec rfl dV_choose) rfl (fun e93 => ?_) (fun e93 => ?_)
                  · skip
                    replace e93 : b01 (decide (¬ x = 0)) = 0 := e93
                    replace e93 : decide (¬ x = 0) = false := b01_f e93
                    refine kx_rn dV_choose 2 10 [(0, .ref (Z.ad rV)), (1, .int (nI tn)), (2, .ref (Z.ad (rTab k))), (3, .int ((nI r) + 1)), (4, .ref (Z.ad (rVer v)))] [] rfl ?_
                    rw [show (nI r) + 1 = nI (r + 1) from kn_ad rfl rfl]
                    refine kx_lsub (lv' := [(0, .ref (Z.ad rV)), (1, .int (nI tn)), (2, .ref (Z.ad (rTab k))), (3, .int (nI (r + 1)))]) (.cons₂ _ (.cons₂ _ (.cons₂ _ (.cons₂ _ (.cons _ .slnil))))) ?_
                    have hvd1 : cMt Z es tn k r = false := decide_eq_false (fun y => by rw [show vdC Z es tn (24 * k + r) = 0 from by unfold vdC; rw [if_neg hh, if_neg (fun y => by rw [← hv40.2] at y; rw [decide_eq_true (p := Z.st (v % 40 + 1) = 0 + 1) y.2] at e59; cases e59), ← hv, if_neg hng, hx]; show (if x = 0 then 0 else 1) = 0; rw [if_pos (Classical.byContradiction (fun y => by rw [decide_eq_true (p := ¬ x = 0) y] at e93; cases e93))]] at y; cases y)
                    have hL : (selL (cMt Z es tn k) (r + 1)) = (selL (cMt Z es tn k) r) := by simp only [selL]; rw [if_neg (by rw [hvd1]; decide)]
                    exact ih (r + 1) h3 _ _ (by omega) hz3 hfr3 (by rw [hL]; exact hch3)
                  · skip
                    replace e93 : ¬ b01 (decide (¬ x = 0)) = 0 := e93
                    replace e93 : decide (¬ x = 0) = true := b01_t e93
                    refine kx_rn dV_choose 1 97 [(0, .ref (Z.ad rV)), (1, .int (nI tn)), (2, .ref (Z.ad (rTab k))), (3, .int (nI r)), (4, .ref (Z.ad (rVer v)))] [.ref (Z.ad rV)] rfl ?_
                    refine pV_51 (v := .ref (Z.ad (rRs (1 - Z.fi)))) rfl (kx_tk_dec rfl dV_choose) (hz3.is rV rfl) rfl ?_
                    refine kx_rn dV_choose 2 103 [(0, .ref (Z.ad rV)), (1, .int (nI tn)), (2, .ref (Z.ad (rTab k))), (3, .int (nI r)), (4, .ref (Z.ad (rVer v)))] [.ref (Z.ad (rVer v)), .int (nI r), .ref (Z.ad (rRs (1 - Z.fi)))] rfl ?_
                    refine pV_266 (v := .ref (Z.ad (rVal v))) rfl (kx_tk_dec rfl dV_choose) (hz3.is (rVer v) hv0) rfl ?_
                    have hsz : (upS sc2 (rPrg 0) 3 ht2) (rRs (1 - Z.fi)) 2 = nI (selL (cMt Z es tn k) r).length := hch3.1
                    refine cV_272 (as := [.int (nI r), .ref (Z.ad (rVal v))]) (st := []) (mc := 0) (ms := 0) (kc := 1) (ks := 6) rfl (kx_tk_dec rfl dV_choose) (hz3.is (rRs (1 - Z.fi)) hj2) rfl rfl (Nat.le_of_ble_eq_true rfl) (cS_add (Z := Z.wA (upS sc2 (rPrg 0) 3 ht2) (upI ia2 (rStk 0) K2)) (j := 1 - Z.fi) (v := v) (r := r) hst hz3 hj2 hsz (by omega) hv0) (fun o h' hq => ?_)
                    obtain ⟨rfl, hz4⟩ := hq
                    show kx_w _ _ _ _ _ _ _ _ _ _ _
                    refine kx_rn dV_choose 2 10 [(0, .ref (Z.ad rV)), (1, .int (nI tn)), (2, .ref (Z.ad (rTab k))), (3, .int ((nI r) + 1)), (4, .ref (Z.ad (rVer v)))] [] rfl ?_
                    rw [show (nI r) + 1 = nI (r + 1) from kn_ad rfl rfl]
                    refine kx_lsub (lv' := [(0, .ref (Z.ad rV)), (1, .int (nI tn)), (2, .ref (Z.ad (rTab k))), (3, .int (nI (r + 1)))]) (.cons₂ _ (.cons₂ _ (.cons₂ _ (.cons₂ _ (.cons _ .slnil))))) ?_
                    have hvd1 : cMt Z es tn k r = true := decide_eq_true (by unfold vdC; rw [if_neg hh, if_neg (fun y => by rw [← hv40.2] at y; rw [decide_eq_true (p := Z.st (v % 40 + 1) = 0 + 1) y.2] at e59; cases e59), ← hv, if_neg hng, hx]; show (if x = 0 then 0 else 1) = 1; rw [if_neg (of_decide_eq_true e93)])
                    have hL : (selL (cMt Z es tn k) (r + 1)) = (selL (cMt Z es tn k) r) ++ [r] := by simp only [selL]; rw [if_pos hvd1]
                    refine ih (r + 1) h' (upS (upS sc2 (rPrg 0) 3 ht2) (rRs (1 - Z.fi)) 2 (nI ((selL (cMt Z es tn k) r).length + 1))) (upI (upI (upI ia2 (rStk 0) K2) (rNum (1 - Z.fi)) (va_up ((upI ia2 (rStk 0) K2) (rNum (1 - Z.fi))) (selL (cMt Z es tn k) r).length (nI r))) (rInn (24 * (1 - Z.fi) + (selL (cMt Z es tn k) r).length)) (va_cpy ((upI ia2 (rStk 0) K2) (rVal v)) ((upI ia2 (rStk 0) K2) (rInn (24 * (1 - Z.fi) + (selL (cMt Z es tn k) r).length))) 0 0 4)) (by omega) hz4 (cFr_sR (cFr_iI (by omega) (cFr_iN hfr3))) ?_
                    rw [hL]
                    refine chs_add hch3 (by omega) (fun c hc => ?_)
                    show (if 0 ≤ c ∧ c < 0 + 4 then (upI ia2 (rStk 0) K2) (rVal v) (0 + (c - 0)) else _) = _
                    rw [if_pos (by omega), upI_ne (tag_ne (by decide)), hiv, show 0 + (c - 0) = c by omega]
                    unfold cVl
                    rw [← hv]
              · skip
                replace e59 : ¬ b01 (decide (Z.st (v % 40 + 1) = 0 + 1)) = 0 := e59
                replace e59 : decide (Z.st (v % 40 + 1) = 0 + 1) = true := b01_t e59
                rw [show vdC Z es tn (24 * k + r) = 2 from by unfold vdC; rw [if_neg hh, if_pos ⟨fun y => e41 (by rw [hv40.2]; exact y), by rw [← hv40.2]; exact of_decide_eq_true e59⟩]] at hvd; omega
  refine kx_rn dV_choose 1 1 [(0, .ref (Z.ad rV)), (1, .int (nI tn)), (2, .ref (Z.ad (rTab k)))] [.ref (Z.ad rV)] rfl ?_
  refine pV_51 (v := .ref (Z.ad (rRs (1 - Z.fi)))) rfl (kx_tk_dec rfl dV_choose) (hZ.is rV rfl) rfl ?_
  refine kx_rn dV_choose 1 5 [(0, .ref (Z.ad rV)), (1, .int (nI tn)), (2, .ref (Z.ad (rTab k)))] [.int 0, .ref (Z.ad (rRs (1 - Z.fi)))] rfl ?_
  refine qV_158 rfl (kx_tk_dec rfl dV_choose) (hZ.is (rRs (1 - Z.fi)) (show 1 - Z.fi < 2 by omega)) rfl rfl (Nat.le_of_ble_eq_true rfl) ?_
  refine cw_go (cz_sS (ρ := (rRs (1 - Z.fi))) hZ (show 1 - Z.fi < 2 by omega) 2 0 rfl) (fun h2 hz2 => ?_)
  refine kx_rn dV_choose 2 10 [(0, .ref (Z.ad rV)), (1, .int (nI tn)), (2, .ref (Z.ad (rTab k))), (3, .int 0)] [] rfl ?_
  exact loop r0 0 _ (upS Z.sc (rRs (1 - Z.fi)) 2 0) Z.ia (by omega) hz2 (cFr_sR (cFr_r Z)) ⟨upS_eq, fun i r hr => by simp [selL] at hr⟩
set_option maxRecDepth 100000 in
theorem cV_choose2 {k md bg tn r0 : Nat} {es : List Int32} (hst : l.stackTraces = false) (hZ : cOk G m S A h Z) (hk : k < 3) (ht : Z.tb k = true) (hmd : Z.sc (rTab k) 2 = nI md) (hmd2 : md ≤ 24) (hbg : Z.sc rTr 1 = nI bg) (hb40 : bg ≤ 40) (ht1 : 1 ≤ tn) (ht2 : tn ≤ bg) (hpn : Z.sc (rPrg 0) 2 = nI es.length) (hok : okC es) (hF : prg (Z.ia (rStp 0)) es) (hr0 : r0 < md) (hall : ∀ r, r < r0 → vdC Z es tn (24 * k + r) ≤ 1) (hbad : vdC Z es tn (24 * k + r0) = 3) :
    kx_c G l mV_choose (d + 5) 1 6 [.ref (Z.ad rV), .int (nI tn), .ref (Z.ad (rTab k))] h (fun o h' => ∃ x, o = .threw x ∧ kx_is G h' x (.inr (13, [])) ∧ ∃ sc2 ia2, cOk G m S A h' (Z.wA sc2 ia2) ∧ cFr Z sc2 ia2) := by
  refine kx_in (by decide +kernel) (Nat.le_of_ble_eq_true rfl) hst ?_
  have loop : ∀ n (r : Nat) (h2 : kx_H) (sc2 ia2 : cR → Nat → Int32), r + n = r0 → cOk G m S A h2 (Z.wA sc2 ia2) → cFr Z sc2 ia2 → chs Z sc2 ia2 (selL (cMt Z es tn k) r) (cVl Z tn k) → kx_w G l mV_choose (d + 5) (fun o h' => ∃ x, o = .threw x ∧ kx_is G h' x (.inr (13, [])) ∧ ∃ sc2 ia2, cOk G m S A h' (Z.wA sc2 ia2) ∧ cFr Z sc2 ia2) 1 6 10 [(0, .ref (Z.ad rV)), (1, .int (nI tn)), (2, .ref (Z.ad (rTab k))), (3, .int (nI r))] [] h2 := by
    intro n
    induction n with
    | zero =>
      intro r h2 sc2 ia2 hr hz2 hfr hch
      have hr0 : r = r0 := by omega
      have hvd := hbad
      rw [← hr0] at hvd
      have hj2 : 1 - Z.fi < 2 := by omega
      have hm2 : sc2 (rTab k) 2 = nI md := by rw [hfr.1 (rTab k) (tag_ne (by decide)) (tag_ne (by decide))]; exact hmd
      have hb2 : sc2 rTr 1 = nI bg := by rw [hfr.1 rTr (tag_ne (by decide)) (tag_ne (by decide))]; exact hbg
      have hp2 : sc2 (rPrg 0) 2 = nI es.length := by rw [hfr.2.1]; exact hpn
      have htr : kx_is G h2 (Z.ad rTr) (.inr (1, [.ref (Z.ad rSts), .int (nI bg), .int (sc2 rTr 2)])) := by rw [← hb2]; exact hz2.is rTr rfl
      have hrow : r < 24 → lvZ Z (rRow (24 * k + r)) := fun hr => ⟨by show 24 * k + r < 72; omega, by show Z.tb ((24 * k + r) / 24) = true; rw [show (24 * k + r) / 24 = k by omega]; exact ht⟩
      have hlen := selL_len (cMt Z es tn k) r
      have hcle := cnt_le (cMt Z es tn k) r
      refine kx_rn dV_choose 2 12 [(0, .ref (Z.ad rV)), (1, .int (nI tn)), (2, .ref (Z.ad (rTab k))), (3, .int (nI r))] [.ref (Z.ad (rTab k)), .int (nI r)] rfl ?_
      refine pV_131 (v := .int (sc2 (rTab k) 2)) rfl (kx_tk_dec rfl dV_choose) (hz2.is (rTab k) ⟨hk, ht⟩) rfl ?_
      rw [hm2]
      refine kx_ic (tgt := 115) (kx_tk_dec rfl dV_choose) rfl (fun e15 => ?_) (fun e15 => ?_)
      · skip
        replace e15 : nI md ≤ nI r := e15
        replace e15 : md ≤ r := (nI_leI (a := md) (b := r) (by omega) (by omega)).mp e15
        exfalso; omega
      · skip
        replace e15 : ¬ nI md ≤ nI r := e15
        replace e15 : ¬ md ≤ r := fun z => e15 ((nI_leI (a := md) (b := r) (by omega) (by omega)).mpr z)
        refine kx_rn dV_choose 1 19 [(0, .ref (Z.ad rV)), (1, .int (nI tn)), (2, .ref (Z.ad (rTab k))), (3, .int (nI r))] [.ref (Z.ad (rTab k))] rfl ?_
        refine pV_207 (v := .ref (Z.ad (rRws k))) rfl (kx_tk_dec rfl dV_choose) (hz2.is (rTab k) ⟨hk, ht⟩) rfl ?_
        refine kx_rn dV_choose 1 23 [(0, .ref (Z.ad rV)), (1, .int (nI tn)), (2, .ref (Z.ad (rTab k))), (3, .int (nI r))] [.int (nI r), .ref (Z.ad (rRws k))] rfl ?_
        refine kx_qldN (x := some (Z.ad (rRow (24 * k + r)))) (i := r) rfl rfl (kx_tk_dec rfl dV_choose) (hz2.is (rRws k) ⟨hk, ht⟩) (by show r < 24; omega) (by decide) (if_pos (show r < 24 by omega)) ?_
        refine kx_rn dV_choose 1 25 [(0, .ref (Z.ad rV)), (1, .int (nI tn)), (2, .ref (Z.ad (rTab k))), (3, .int (nI r))] [.int (nI tn), .ref (Z.ad (rRow (24 * k + r)))] rfl ?_
        refine cV_251 (as := [.int (nI tn)]) (st := []) (mc := 0) (ms := 0) (kc := 1) (ks := 6) rfl (kx_tk_dec rfl dV_choose) (hz2.is (rRow (24 * k + r)) (hrow (by omega))) rfl rfl (Nat.le_of_ble_eq_true rfl) (cR_hold (Z := Z.wA sc2 ia2) hst hz2 (hrow (by omega)) (by omega)) (fun o h' hq => ?_)
        obtain ⟨rfl, hhe⟩ := hq
        subst h'
        rw [show (Z.wA sc2 ia2).V = Z.V from rfl]
        by_cases hh : hwq Z.V tn (24 * k + r) = 0
        · rw [if_pos hh]
          show kx_w _ _ _ _ _ _ _ _ _ _ _
          rw [show vdC Z es tn (24 * k + r) = 0 from by unfold vdC; rw [if_pos hh]] at hvd; cases hvd
        · rw [if_neg hh]
          show kx_w _ _ _ _ _ _ _ _ _ _ _
          obtain ⟨hv0, hv1⟩ := hwq_v hh
          obtain ⟨v, hv⟩ : ∃ v, v = 40 * (24 * k + r) + (hwq Z.V tn (24 * k + r) - 1) := ⟨_, rfl⟩
          rw [← hv] at hv0
          have hv40 : v / 40 = 24 * k + r ∧ v % 40 + 1 = hwq Z.V tn (24 * k + r) := by omega
          have hvlow := hZ.wf.low v
          replace hvlow : Z.V v < 256 := hvlow
          have hiv : ia2 (rVal v) = Z.ia (rVal v) := hfr.2.2 (rVal v) (tag_ne (by decide)) (tag_ne (by decide)) (fun i _ => tag_ne (by decide))
          rw [show (Z.wA sc2 ia2).ad (rVer (40 * (24 * k + r) + (hwq Z.V tn (24 * k + r) - 1))) = Z.ad (rVer v) by rw [hv]; rfl]
          refine kx_rn dV_choose 2 32 [(0, .ref (Z.ad rV)), (1, .int (nI tn)), (2, .ref (Z.ad (rTab k))), (3, .int (nI r)), (4, .ref (Z.ad (rVer v)))] [.ref (Z.ad (rVer v))] rfl ?_
          refine kx_nul (x := some (Z.ad (rVer v))) (tgt := 109) (kx_tk_dec rfl dV_choose) rfl (fun e32 => ?_) (fun a32 e32 => ?_)
          · skip
            cases e32
          · skip
            refine kx_rn dV_choose 1 37 [(0, .ref (Z.ad rV)), (1, .int (nI tn)), (2, .ref (Z.ad (rTab k))), (3, .int (nI r)), (4, .ref (Z.ad (rVer v)))] [.ref (Z.ad (rVer v))] rfl ?_
            refine pV_255 (v := .int (nI (v % 40 + 1))) rfl (kx_tk_dec rfl dV_choose) (hz2.is (rVer v) hv0) rfl ?_
            refine kx_rn dV_choose 1 41 [(0, .ref (Z.ad rV)), (1, .int (nI tn)), (2, .ref (Z.ad (rTab k))), (3, .int (nI r)), (4, .ref (Z.ad (rVer v)))] [.int (nI tn), .int (nI (v % 40 + 1))] rfl ?_
            refine kx_ic (tgt := 73) (kx_tk_dec rfl dV_choose) rfl (fun e41 => ?_) (fun e41 => ?_)
            · skip
              replace e41 : nI (v % 40 + 1) = nI tn := e41
              replace e41 : v % 40 + 1 = tn := (nI_eq (a := v % 40 + 1) (b := tn) (by omega) (by omega)).mp e41
              refine kx_rn dV_choose 1 75 [(0, .ref (Z.ad rV)), (1, .int (nI tn)), (2, .ref (Z.ad (rTab k))), (3, .int (nI r)), (4, .ref (Z.ad (rVer v)))] [.ref (Z.ad (rVer v))] rfl ?_
              refine pV_262 (v := .int (nI (Z.V v / 2 % 2))) rfl (kx_tk_dec rfl dV_choose) (hz2.is (rVer v) hv0) rfl ?_
              refine kx_if (tgt := 109) (kx_tk_dec rfl dV_choose) rfl (fun e78 => ?_) (fun e78 => ?_)
              · skip
                replace e78 : ¬ nI (Z.V v / 2 % 2) = 0 := e78
                replace e78 : ¬ Z.V v / 2 % 2 = 0 := fun z => e78 ((nI_eq (a := Z.V v / 2 % 2) (b := 0) (by omega) (by omega)).mpr z)
                rw [show vdC Z es tn (24 * k + r) = 0 from by unfold vdC; rw [if_neg hh, if_neg (fun y => y.1 (by rw [← hv40.2]; exact e41)), ← hv, if_pos (by omega)]] at hvd; omega
              · skip
                replace e78 : nI (Z.V v / 2 % 2) = 0 := e78
                replace e78 : Z.V v / 2 % 2 = 0 := (nI_eq (a := Z.V v / 2 % 2) (b := 0) (by omega) (by omega)).mp e78
                refine kx_rn dV_choose 1 82 [(0, .ref (Z.ad rV)), (1, .int (nI tn)), (2, .ref (Z.ad (rTab k))), (3, .int (nI r)), (4, .ref (Z.ad (rVer v)))] [.ref (Z.ad rV)] rfl ?_
                refine pV_36 (v := .ref (Z.ad (rPrg 0))) rfl (kx_tk_dec rfl dV_choose) (hz2.is rV rfl) rfl ?_
                refine kx_rn dV_choose 1 87 [(0, .ref (Z.ad rV)), (1, .int (nI tn)), (2, .ref (Z.ad (rTab k))), (3, .int (nI r)), (4, .ref (Z.ad (rVer v)))] [.ref (Z.ad (rVer v)), .ref (Z.ad (rPrg 0))] rfl ?_
                refine pV_266 (v := .ref (Z.ad (rVal v))) rfl (kx_tk_dec rfl dV_choose) (hz2.is (rVer v) hv0) rfl ?_
                have hng : ¬ Z.V v / 2 % 2 = 1 := by omega
                have hx : lA (Z.ia (rVal v)) es = none := by
                  cases ex : lA (Z.ia (rVal v)) es with
                  | none => rfl
                  | some x =>
                    rw [show vdC Z es tn (24 * k + r) = if x = 0 then 0 else 1 from by unfold vdC; rw [if_neg hh, if_neg (fun y => y.1 (by rw [← hv40.2]; exact e41)), ← hv, if_neg hng, ex]; rfl] at hvd
                    split at hvd <;> omega
                have hpf : pFx G h2 (Z.ad (rPrg 0)) (Z.ad (rStp 0)) (Z.ad (rStk 0)) (Z.ad (rVal v)) (Z.ia (rStp 0)) (Z.ia (rVal v)) := by
                  have y := zpFx (Z := Z.wA sc2 ia2) (i := 0) (ρ := rVal v) hz2 ⟨by decide, hZ.wf.p0⟩ hv0 (tag_ne (by decide)) (tag_ne (by decide)) rfl
                  rw [show (Z.wA sc2 ia2).ia (rVal v) = Z.ia (rVal v) from hiv, show (Z.wA sc2 ia2).ia (rStp 0) = Z.ia (rStp 0) from hfr.2.2 (rStp 0) (tag_ne (by decide)) (tag_ne (by decide)) (fun i _ => tag_ne (by decide))] at y
                  exact y
                have hid : h2 = pH h2 (Z.ad (rPrg 0)) (Z.ad (rStp 0)) (Z.ad (rStk 0)) (nI es.length) (ia2 (rStk 0)) (sc2 (rPrg 0) 3) := pH_id (by rw [← hp2]; exact hz2.is (rPrg 0) ⟨by decide, hZ.wf.p0⟩) (hz2.is (rStk 0) ⟨by decide, hZ.wf.p0⟩)
                have hc := cP_holds1 (d := d) (K := ia2 (rStk 0)) (ht := sc2 (rPrg 0) 3) hst hpf hok hF hx
                rw [← hid] at hc
                refine cV_268 (as := [.ref (Z.ad (rVal v))]) (st := []) (mc := 1) (ms := 6) (kc := 0) (ks := 0) rfl (kx_tk_dec rfl dV_choose) (hz2.is (rPrg 0) ⟨by decide, hZ.wf.p0⟩) rfl rfl (Nat.le_of_ble_eq_true rfl) (hc) (fun o h' hq => ?_)
                obtain ⟨K2, ht2, rfl, rfl⟩ := hq
                have hz3 := cz_pH (Z := Z.wA sc2 ia2) (i := 0) (K := K2) (ht := ht2) hz2 ⟨by decide, hZ.wf.p0⟩ hp2
                exact kx_out (fun q hq => by cases hq) ⟨_, rfl, cx_new hz3.b1 hz3.b2, upS sc2 (rPrg 0) 3 ht2, upI ia2 (rStk 0) K2, cz_new hz3 _, cFr_sP (cFr_iK hfr)⟩
            · skip
              replace e41 : ¬ nI (v % 40 + 1) = nI tn := e41
              replace e41 : ¬ v % 40 + 1 = tn := fun z => e41 ((nI_eq (a := v % 40 + 1) (b := tn) (by omega) (by omega)).mpr z)
              refine kx_rn dV_choose 1 45 [(0, .ref (Z.ad rV)), (1, .int (nI tn)), (2, .ref (Z.ad (rTab k))), (3, .int (nI r)), (4, .ref (Z.ad (rVer v)))] [.ref (Z.ad rV)] rfl ?_
              refine pV_18 (v := .ref (Z.ad rTr)) rfl (kx_tk_dec rfl dV_choose) (hz2.is rV rfl) rfl ?_
              refine kx_rn dV_choose 1 50 [(0, .ref (Z.ad rV)), (1, .int (nI tn)), (2, .ref (Z.ad (rTab k))), (3, .int (nI r)), (4, .ref (Z.ad (rVer v)))] [.ref (Z.ad (rVer v)), .ref (Z.ad rTr)] rfl ?_
              refine pV_255 (v := .int (nI (v % 40 + 1))) rfl (kx_tk_dec rfl dV_choose) (hz2.is (rVer v) hv0) rfl ?_
              refine pV_215 rfl (kx_tk_dec rfl dV_choose) ?_
              refine cV_236 (as := [.int (nI (v % 40 + 1)), .ref (G.2.2.2.1 0)]) (st := []) (mc := 0) (ms := 0) (kc := 1) (ks := 6) rfl (kx_tk_dec rfl dV_choose) (hz2.is rTr rfl) rfl rfl (Nat.le_of_ble_eq_true rfl) (cT_is (k := 0) (S6 := Z.st) hst htr (hz2.is rSts rfl) hz2.wf.stc hb40 (by decide)) (fun o h' hq => ?_)
              obtain ⟨z, rfl, hhe, hzz⟩ := hq
              subst h'
              show kx_w _ _ _ _ _ _ _ _ _ _ _
              rw [isx (Z := Z) hzz (by omega) (by omega) hb40]
              refine kx_if (tgt := 73) (kx_tk_dec rfl dV_choose) rfl (fun e59 => ?_) (fun e59 => ?_)
              · skip
                replace e59 : b01 (decide (Z.st (v % 40 + 1) = 0 + 1)) = 0 := e59
                replace e59 : decide (Z.st (v % 40 + 1) = 0 + 1) = false := b01_f e59
                refine kx_rn dV_choose 1 75 [(0, .ref (Z.ad rV)), (1, .int (nI tn)), (2, .ref (Z.ad (rTab k))), (3, .int (nI r)), (4, .ref (Z.ad (rVer v)))] [.ref (Z.ad (rVer v))] rfl ?_
                refine pV_262 (v := .int (nI (Z.V v / 2 % 2))) rfl (kx_tk_dec rfl dV_choose) (hz2.is (rVer v) hv0) rfl ?_
                refine kx_if (tgt := 109) (kx_tk_dec rfl dV_choose) rfl (fun e78 => ?_) (fun e78 => ?_)
                · skip
                  replace e78 : ¬ nI (Z.V v / 2 % 2) = 0 := e78
                  replace e78 : ¬ Z.V v / 2 % 2 = 0 := fun z => e78 ((nI_eq (a := Z.V v / 2 % 2) (b := 0) (by omega) (by omega)).mpr z)
                  rw [show vdC Z es tn (24 * k + r) = 0 from by unfold vdC; rw [if_neg hh, if_neg (fun y => by rw [← hv40.2] at y; rw [decide_eq_true (p := Z.st (v % 40 + 1) = 0 + 1) y.2] at e59; cases e59), ← hv, if_pos (by omega)]] at hvd; omega
                · skip
                  replace e78 : nI (Z.V v / 2 % 2) = 0 := e78
                  replace e78 : Z.V v / 2 % 2 = 0 := (nI_eq (a := Z.V v / 2 % 2) (b := 0) (by omega) (by omega)).mp e78
                  refine kx_rn dV_choose 1 82 [(0, .ref (Z.ad rV)), (1, .int (nI tn)), (2, .ref (Z.ad (rTab k))), (3, .int (nI r)), (4, .ref (Z.ad (rVer v)))] [.ref (Z.ad rV)] rfl ?_
                  refine pV_36 (v := .ref (Z.ad (rPrg 0))) rfl (kx_tk_dec rfl dV_choose) (hz2.is rV rfl) rfl ?_
                  refine kx_rn dV_choose 1 87 [(0, .ref (Z.ad rV)), (1, .int (nI tn)), (2, .ref (Z.ad (rTab k))), (3, .int (nI r)), (4, .ref (Z.ad (rVer v)))] [.ref (Z.ad (rVer v)), .ref (Z.ad (rPrg 0))] rfl ?_
                  refine pV_266 (v := .ref (Z.ad (rVal v))) rfl (kx_tk_dec rfl dV_choose) (hz2.is (rVer v) hv0) rfl ?_
                  have hng : ¬ Z.V v / 2 % 2 = 1 := by omega
                  have hx : lA (Z.ia (rVal v)) es = none := by
                    cases ex : lA (Z.ia (rVal v)) es with
                    | none => rfl
                    | some x =>
                      rw [show vdC Z es tn (24 * k + r) = if x = 0 then 0 else 1 from by unfold vdC; rw [if_neg hh, if_neg (fun y => by rw [← hv40.2] at y; rw [decide_eq_true (p := Z.st (v % 40 + 1) = 0 + 1) y.2] at e59; cases e59), ← hv, if_neg hng, ex]; rfl] at hvd
                      split at hvd <;> omega
                  have hpf : pFx G h2 (Z.ad (rPrg 0)) (Z.ad (rStp 0)) (Z.ad (rStk 0)) (Z.ad (rVal v)) (Z.ia (rStp 0)) (Z.ia (rVal v)) := by
                    have y := zpFx (Z := Z.wA sc2 ia2) (i := 0) (ρ := rVal v) hz2 ⟨by decide, hZ.wf.p0⟩ hv0 (tag_ne (by decide)) (tag_ne (by decide)) rfl
                    rw [show (Z.wA sc2 ia2).ia (rVal v) = Z.ia (rVal v) from hiv, show (Z.wA sc2 ia2).ia (rStp 0) = Z.ia (rStp 0) from hfr.2.2 (rStp 0) (tag_ne (by decide)) (tag_ne (by decide)) (fun i _ => tag_ne (by decide))] at y
                    exact y
                  have hid : h2 = pH h2 (Z.ad (rPrg 0)) (Z.ad (rStp 0)) (Z.ad (rStk 0)) (nI es.length) (ia2 (rStk 0)) (sc2 (rPrg 0) 3) := pH_id (by rw [← hp2]; exact hz2.is (rPrg 0) ⟨by decide, hZ.wf.p0⟩) (hz2.is (rStk 0) ⟨by decide, hZ.wf.p0⟩)
                  have hc := cP_holds1 (d := d) (K := ia2 (rStk 0)) (ht := sc2 (rPrg 0) 3) hst hpf hok hF hx
                  rw [← hid] at hc
                  refine cV_268 (as := [.ref (Z.ad (rVal v))]) (st := []) (mc := 1) (ms := 6) (kc := 0) (ks := 0) rfl (kx_tk_dec rfl dV_choose) (hz2.is (rPrg 0) ⟨by decide, hZ.wf.p0⟩) rfl rfl (Nat.le_of_ble_eq_true rfl) (hc) (fun o h' hq => ?_)
                  obtain ⟨K2, ht2, rfl, rfl⟩ := hq
                  have hz3 := cz_pH (Z := Z.wA sc2 ia2) (i := 0) (K := K2) (ht := ht2) hz2 ⟨by decide, hZ.wf.p0⟩ hp2
                  exact kx_out (fun q hq => by cases hq) ⟨_, rfl, cx_new hz3.b1 hz3.b2, upS sc2 (rPrg 0) 3 ht2, upI ia2 (rStk 0) K2, cz_new hz3 _, cFr_sP (cFr_iK hfr)⟩
              · skip
                replace e59 : ¬ b01 (decide (Z.st (v % 40 + 1) = 0 + 1)) = 0 := e59
                replace e59 : decide (Z.st (v % 40 + 1) = 0 + 1) = true := b01_t e59
                rw [show vdC Z es tn (24 * k + r) = 2 from by unfold vdC; rw [if_neg hh, if_pos ⟨fun y => e41 (by rw [hv40.2]; exact y), by rw [← hv40.2]; exact of_decide_eq_true e59⟩]] at hvd; omega
    | succ n ih =>
      intro r h2 sc2 ia2 hr hz2 hfr hch
      have hvd := hall r (by omega)
      have hj2 : 1 - Z.fi < 2 := by omega
      have hm2 : sc2 (rTab k) 2 = nI md := by rw [hfr.1 (rTab k) (tag_ne (by decide)) (tag_ne (by decide))]; exact hmd
      have hb2 : sc2 rTr 1 = nI bg := by rw [hfr.1 rTr (tag_ne (by decide)) (tag_ne (by decide))]; exact hbg
      have hp2 : sc2 (rPrg 0) 2 = nI es.length := by rw [hfr.2.1]; exact hpn
      have htr : kx_is G h2 (Z.ad rTr) (.inr (1, [.ref (Z.ad rSts), .int (nI bg), .int (sc2 rTr 2)])) := by rw [← hb2]; exact hz2.is rTr rfl
      have hrow : r < 24 → lvZ Z (rRow (24 * k + r)) := fun hr => ⟨by show 24 * k + r < 72; omega, by show Z.tb ((24 * k + r) / 24) = true; rw [show (24 * k + r) / 24 = k by omega]; exact ht⟩
      have hlen := selL_len (cMt Z es tn k) r
      have hcle := cnt_le (cMt Z es tn k) r
      refine kx_rn dV_choose 2 12 [(0, .ref (Z.ad rV)), (1, .int (nI tn)), (2, .ref (Z.ad (rTab k))), (3, .int (nI r))] [.ref (Z.ad (rTab k)), .int (nI r)] rfl ?_
      refine pV_131 (v := .int (sc2 (rTab k) 2)) rfl (kx_tk_dec rfl dV_choose) (hz2.is (rTab k) ⟨hk, ht⟩) rfl ?_
      rw [hm2]
      refine kx_ic (tgt := 115) (kx_tk_dec rfl dV_choose) rfl (fun e15 => ?_) (fun e15 => ?_)
      · skip
        replace e15 : nI md ≤ nI r := e15
        replace e15 : md ≤ r := (nI_leI (a := md) (b := r) (by omega) (by omega)).mp e15
        exfalso; omega
      · skip
        replace e15 : ¬ nI md ≤ nI r := e15
        replace e15 : ¬ md ≤ r := fun z => e15 ((nI_leI (a := md) (b := r) (by omega) (by omega)).mpr z)
        refine kx_rn dV_choose 1 19 [(0, .ref (Z.ad rV)), (1, .int (nI tn)), (2, .ref (Z.ad (rTab k))), (3, .int (nI r))] [.ref (Z.ad (rTab k))] rfl ?_
        refine pV_207 (v := .ref (Z.ad (rRws k))) rfl (kx_tk_dec rfl dV_choose) (hz2.is (rTab k) ⟨hk, ht⟩) rfl ?_
        refine kx_rn dV_choose 1 23 [(0, .ref (Z.ad rV)), (1, .int (nI tn)), (2, .ref (Z.ad (rTab k))), (3, .int (nI r))] [.int (nI r), .ref (Z.ad (rRws k))] rfl ?_
        refine kx_qldN (x := some (Z.ad (rRow (24 * k + r)))) (i := r) rfl rfl (kx_tk_dec rfl dV_choose) (hz2.is (rRws k) ⟨hk, ht⟩) (by show r < 24; omega) (by decide) (if_pos (show r < 24 by omega)) ?_
        refine kx_rn dV_choose 1 25 [(0, .ref (Z.ad rV)), (1, .int (nI tn)), (2, .ref (Z.ad (rTab k))), (3, .int (nI r))] [.int (nI tn), .ref (Z.ad (rRow (24 * k + r)))] rfl ?_
        refine cV_251 (as := [.int (nI tn)]) (st := []) (mc := 0) (ms := 0) (kc := 1) (ks := 6) rfl (kx_tk_dec rfl dV_choose) (hz2.is (rRow (24 * k + r)) (hrow (by omega))) rfl rfl (Nat.le_of_ble_eq_true rfl) (cR_hold (Z := Z.wA sc2 ia2) hst hz2 (hrow (by omega)) (by omega)) (fun o h' hq => ?_)
        obtain ⟨rfl, hhe⟩ := hq
        subst h'
        rw [show (Z.wA sc2 ia2).V = Z.V from rfl]
        by_cases hh : hwq Z.V tn (24 * k + r) = 0
        · rw [if_pos hh]
          show kx_w _ _ _ _ _ _ _ _ _ _ _
          refine kx_rn dV_choose 2 32 [(0, .ref (Z.ad rV)), (1, .int (nI tn)), (2, .ref (Z.ad (rTab k))), (3, .int (nI r)), (4, .null)] [.null] rfl ?_
          refine kx_nul (x := none) (tgt := 109) (kx_tk_dec rfl dV_choose) rfl (fun e32 => ?_) (fun a32 e32 => ?_)
          · skip
            refine kx_rn dV_choose 2 10 [(0, .ref (Z.ad rV)), (1, .int (nI tn)), (2, .ref (Z.ad (rTab k))), (3, .int ((nI r) + 1)), (4, .null)] [] rfl ?_
            rw [show (nI r) + 1 = nI (r + 1) from kn_ad rfl rfl]
            refine kx_lsub (lv' := [(0, .ref (Z.ad rV)), (1, .int (nI tn)), (2, .ref (Z.ad (rTab k))), (3, .int (nI (r + 1)))]) (.cons₂ _ (.cons₂ _ (.cons₂ _ (.cons₂ _ (.cons _ .slnil))))) ?_
            have hvd1 : cMt Z es tn k r = false := decide_eq_false (fun y => by rw [show vdC Z es tn (24 * k + r) = 0 from by unfold vdC; rw [if_pos hh]] at y; cases y)
            have hL : (selL (cMt Z es tn k) (r + 1)) = (selL (cMt Z es tn k) r) := by simp only [selL]; rw [if_neg (by rw [hvd1]; decide)]
            exact ih (r + 1) h2 sc2 ia2 (by omega) hz2 hfr (by rw [hL]; exact hch)
          · skip
            cases e32
        · rw [if_neg hh]
          show kx_w _ _ _ _ _ _ _ _ _ _ _
          obtain ⟨hv0, hv1⟩ := hwq_v hh
          obtain ⟨v, hv⟩ : ∃ v, v = 40 * (24 * k + r) + (hwq Z.V tn (24 * k + r) - 1) := ⟨_, rfl⟩
          rw [← hv] at hv0
          have hv40 : v / 40 = 24 * k + r ∧ v % 40 + 1 = hwq Z.V tn (24 * k + r) := by omega
          have hvlow := hZ.wf.low v
          replace hvlow : Z.V v < 256 := hvlow
          have hiv : ia2 (rVal v) = Z.ia (rVal v) := hfr.2.2 (rVal v) (tag_ne (by decide)) (tag_ne (by decide)) (fun i _ => tag_ne (by decide))
          rw [show (Z.wA sc2 ia2).ad (rVer (40 * (24 * k + r) + (hwq Z.V tn (24 * k + r) - 1))) = Z.ad (rVer v) by rw [hv]; rfl]
          refine kx_rn dV_choose 2 32 [(0, .ref (Z.ad rV)), (1, .int (nI tn)), (2, .ref (Z.ad (rTab k))), (3, .int (nI r)), (4, .ref (Z.ad (rVer v)))] [.ref (Z.ad (rVer v))] rfl ?_
          refine kx_nul (x := some (Z.ad (rVer v))) (tgt := 109) (kx_tk_dec rfl dV_choose) rfl (fun e32 => ?_) (fun a32 e32 => ?_)
          · skip
            cases e32
          · skip
            refine kx_rn dV_choose 1 37 [(0, .ref (Z.ad rV)), (1, .int (nI tn)), (2, .ref (Z.ad (rTab k))), (3, .int (nI r)), (4, .ref (Z.ad (rVer v)))] [.ref (Z.ad (rVer v))] rfl ?_
            refine pV_255 (v := .int (nI (v % 40 + 1))) rfl (kx_tk_dec rfl dV_choose) (hz2.is (rVer v) hv0) rfl ?_
            refine kx_rn dV_choose 1 41 [(0, .ref (Z.ad rV)), (1, .int (nI tn)), (2, .ref (Z.ad (rTab k))), (3, .int (nI r)), (4, .ref (Z.ad (rVer v)))] [.int (nI tn), .int (nI (v % 40 + 1))] rfl ?_
            refine kx_ic (tgt := 73) (kx_tk_dec rfl dV_choose) rfl (fun e41 => ?_) (fun e41 => ?_)
            · skip
              replace e41 : nI (v % 40 + 1) = nI tn := e41
              replace e41 : v % 40 + 1 = tn := (nI_eq (a := v % 40 + 1) (b := tn) (by omega) (by omega)).mp e41
              refine kx_rn dV_choose 1 75 [(0, .ref (Z.ad rV)), (1, .int (nI tn)), (2, .ref (Z.ad (rTab k))), (3, .int (nI r)), (4, .ref (Z.ad (rVer v)))] [.ref (Z.ad (rVer v))] rfl ?_
              refine pV_262 (v := .int (nI (Z.V v / 2 % 2))) rfl (kx_tk_dec rfl dV_choose) (hz2.is (rVer v) hv0) rfl ?_
              refine kx_if (tgt := 109) (kx_tk_dec rfl dV_choose) rfl (fun e78 => ?_) (fun e78 => ?_)
              · skip
                replace e78 : ¬ nI (Z.V v / 2 % 2) = 0 := e78
                replace e78 : ¬ Z.V v / 2 % 2 = 0 := fun z => e78 ((nI_eq (a := Z.V v / 2 % 2) (b := 0) (by omega) (by omega)).mpr z)
                refine kx_rn dV_choose 2 10 [(0, .ref (Z.ad rV)), (1, .int (nI tn)), (2, .ref (Z.ad (rTab k))), (3, .int ((nI r) + 1)), (4, .ref (Z.ad (rVer v)))] [] rfl ?_
                rw [show (nI r) + 1 = nI (r + 1) from kn_ad rfl rfl]
                refine kx_lsub (lv' := [(0, .ref (Z.ad rV)), (1, .int (nI tn)), (2, .ref (Z.ad (rTab k))), (3, .int (nI (r + 1)))]) (.cons₂ _ (.cons₂ _ (.cons₂ _ (.cons₂ _ (.cons _ .slnil))))) ?_
                have hvd1 : cMt Z es tn k r = false := decide_eq_false (fun y => by rw [show vdC Z es tn (24 * k + r) = 0 from by unfold vdC; rw [if_neg hh, if_neg (fun y => y.1 (by rw [← hv40.2]; exact e41)), ← hv, if_pos (by omega)]] at y; cases y)
                have hL : (selL (cMt Z es tn k) (r + 1)) = (selL (cMt Z es tn k) r) := by simp only [selL]; rw [if_neg (by rw [hvd1]; decide)]
                exact ih (r + 1) h2 sc2 ia2 (by omega) hz2 hfr (by rw [hL]; exact hch)
              · skip
                replace e78 : nI (Z.V v / 2 % 2) = 0 := e78
                replace e78 : Z.V v / 2 % 2 = 0 := (nI_eq (a := Z.V v / 2 % 2) (b := 0) (by omega) (by omega)).mp e78
                refine kx_rn dV_choose 1 82 [(0, .ref (Z.ad rV)), (1, .int (nI tn)), (2, .ref (Z.ad (rTab k))), (3, .int (nI r)), (4, .ref (Z.ad (rVer v)))] [.ref (Z.ad rV)] rfl ?_
                refine pV_36 (v := .ref (Z.ad (rPrg 0))) rfl (kx_tk_dec rfl dV_choose) (hz2.is rV rfl) rfl ?_
                refine kx_rn dV_choose 1 87 [(0, .ref (Z.ad rV)), (1, .int (nI tn)), (2, .ref (Z.ad (rTab k))), (3, .int (nI r)), (4, .ref (Z.ad (rVer v)))] [.ref (Z.ad (rVer v)), .ref (Z.ad (rPrg 0))] rfl ?_
                refine pV_266 (v := .ref (Z.ad (rVal v))) rfl (kx_tk_dec rfl dV_choose) (hz2.is (rVer v) hv0) rfl ?_
                have hng : ¬ Z.V v / 2 % 2 = 1 := by omega
                obtain ⟨x, hx⟩ : ∃ x, lA (Z.ia (rVal v)) es = some x := by
                  cases ex : lA (Z.ia (rVal v)) es with
                  | some x => exact ⟨x, rfl⟩
                  | none =>
                    rw [show vdC Z es tn (24 * k + r) = 3 from by unfold vdC; rw [if_neg hh, if_neg (fun y => y.1 (by rw [← hv40.2]; exact e41)), ← hv, if_neg hng, ex]; rfl] at hvd
                    omega
                have hpf : pFx G h2 (Z.ad (rPrg 0)) (Z.ad (rStp 0)) (Z.ad (rStk 0)) (Z.ad (rVal v)) (Z.ia (rStp 0)) (Z.ia (rVal v)) := by
                  have y := zpFx (Z := Z.wA sc2 ia2) (i := 0) (ρ := rVal v) hz2 ⟨by decide, hZ.wf.p0⟩ hv0 (tag_ne (by decide)) (tag_ne (by decide)) rfl
                  rw [show (Z.wA sc2 ia2).ia (rVal v) = Z.ia (rVal v) from hiv, show (Z.wA sc2 ia2).ia (rStp 0) = Z.ia (rStp 0) from hfr.2.2 (rStp 0) (tag_ne (by decide)) (tag_ne (by decide)) (fun i _ => tag_ne (by decide))] at y
                  exact y
                have hid : h2 = pH h2 (Z.ad (rPrg 0)) (Z.ad (rStp 0)) (Z.ad (rStk 0)) (nI es.length) (ia2 (rStk 0)) (sc2 (rPrg 0) 3) := pH_id (by rw [← hp2]; exact hz2.is (rPrg 0) ⟨by decide, hZ.wf.p0⟩) (hz2.is (rStk 0) ⟨by decide, hZ.wf.p0⟩)
                have hc := cP_holds0 (d := d) (K := ia2 (rStk 0)) (ht := sc2 (rPrg 0) 3) hst hpf hok hF hx
                rw [← hid] at hc
                refine cV_268 (as := [.ref (Z.ad (rVal v))]) (st := []) (mc := 0) (ms := 0) (kc := 1) (ks := 6) rfl (kx_tk_dec rfl dV_choose) (hz2.is (rPrg 0) ⟨by decide, hZ.wf.p0⟩) rfl rfl (Nat.le_of_ble_eq_true rfl) (hc) (fun o h' hq => ?_)
                obtain ⟨K2, ht2, rfl, rfl⟩ := hq
                show kx_w _ _ _ _ _ _ _ _ _ _ _
                refine cw_go (cz_pH (Z := Z.wA sc2 ia2) (i := 0) (K := K2) (ht := ht2) hz2 ⟨by decide, hZ.wf.p0⟩ hp2) (fun h3 hz3 => ?_)
                replace hz3 : cOk G m S A h3 (Z.wA (upS sc2 (rPrg 0) 3 ht2) (upI ia2 (rStk 0) K2)) := hz3
                have hfr3 : cFr Z (upS sc2 (rPrg 0) 3 ht2) (upI ia2 (rStk 0) K2) := cFr_sP (cFr_iK hfr)
                have hch3 := chs_h (K := K2) (x := ht2) hch
                refine kx_if (tgt := 109) (kx_tk_dec rfl dV_choose) rfl (fun e93 => ?_) (fun e93 => ?_)
                · skip
                  replace e93 : b01 (decide (¬ x = 0)) = 0 := e93
                  replace e93 : decide (¬ x = 0) = false := b01_f e93
                  refine kx_rn dV_choose 2 10 [(0, .ref (Z.ad rV)), (1, .int (nI tn)), (2, .ref (Z.ad (rTab k))), (3, .int ((nI r) + 1)), (4, .ref (Z.ad (rVer v)))] [] rfl ?_
                  rw [show (nI r) + 1 = nI (r + 1) from kn_ad rfl rfl]
                  refine kx_lsub (lv' := [(0, .ref (Z.ad rV)), (1, .int (nI tn)), (2, .ref (Z.ad (rTab k))), (3, .int (nI (r + 1)))]) (.cons₂ _ (.cons₂ _ (.cons₂ _ (.cons₂ _ (.cons _ .slnil))))) ?_
                  have hvd1 : cMt Z es tn k r = false := decide_eq_false (fun y => by rw [show vdC Z es tn (24 * k + r) = 0 from by unfold vdC; rw [if_neg hh, if_neg (fun y => y.1 (by rw [← hv40.2]; exact e41)), ← hv, if_neg hng, hx]; show (if x = 0 then 0 else 1) = 0; rw [if_pos (Classical.byContradiction (fun y => by rw [decide_eq_true (p := ¬ x = 0) y] at e93; cases e93))]] at y; cases y)
                  have hL : (selL (cMt Z es tn k) (r + 1)) = (selL (cMt Z es tn k) r) := by simp only [selL]; rw [if_neg (by rw [hvd1]; decide)]
                  exact ih (r + 1) h3 _ _ (by omega) hz3 hfr3 (by rw [hL]; exact hch3)
                · skip
                  replace e93 : ¬ b01 (decide (¬ x = 0)) = 0 := e93
                  replace e93 : decide (¬ x = 0) = true := b01_t e93
                  refine kx_rn dV_choose 1 97 [(0, .ref (Z.ad rV)), (1, .int (nI tn)), (2, .ref (Z.ad (rTab k))), (3, .int (nI r)), (4, .ref (Z.ad (rVer v)))] [.ref (Z.ad rV)] rfl ?_
                  refine pV_51 (v := .ref (Z.ad (rRs (1 - Z.fi)))) rfl (kx_tk_dec rfl dV_choose) (hz3.is rV rfl) rfl ?_
                  refine kx_rn dV_choose 2 103 [(0, .ref (Z.ad rV)), (1, .int (nI tn)), (2, .ref (Z.ad (rTab k))), (3, .int (nI r)), (4, .ref (Z.ad (rVer v)))] [.ref (Z.ad (rVer v)), .int (nI r), .ref (Z.ad (rRs (1 - Z.fi)))] rfl ?_
                  refine pV_266 (v := .ref (Z.ad (rVal v))) rfl (kx_tk_dec rfl dV_choose) (hz3.is (rVer v) hv0) rfl ?_
                  have hsz : (upS sc2 (rPrg 0) 3 ht2) (rRs (1 - Z.fi)) 2 = nI (selL (cMt Z es tn k) r).length := hch3.1
                  refine cV_272 (as := [.int (nI r), .ref (Z.ad (rVal v))]) (st := []) (mc := 0) (ms := 0) (kc := 1) (ks := 6) rfl (kx_tk_dec rfl dV_choose) (hz3.is (rRs (1 - Z.fi)) hj2) rfl rfl (Nat.le_of_ble_eq_true rfl) (cS_add (Z := Z.wA (upS sc2 (rPrg 0) 3 ht2) (upI ia2 (rStk 0) K2)) (j := 1 - Z.fi) (v := v) (r := r) hst hz3 hj2 hsz (by omega) hv0) (fun o h' hq => ?_)
                  obtain ⟨rfl, hz4⟩ := hq
                  show kx_w _ _ _ _ _ _ _ _ _ _ _
                  refine kx_rn dV_choose 2 10 [(0, .ref (Z.ad rV)), (1, .int (nI tn)), (2, .ref (Z.ad (rTab k))), (3, .int ((nI r) + 1)), (4, .ref (Z.ad (rVer v)))] [] rfl ?_
                  rw [show (nI r) + 1 = nI (r + 1) from kn_ad rfl rfl]
                  refine kx_lsub (lv' := [(0, .ref (Z.ad rV)), (1, .int (nI tn)), (2, .ref (Z.ad (rTab k))), (3, .int (nI (r + 1)))]) (.cons₂ _ (.cons₂ _ (.cons₂ _ (.cons₂ _ (.cons _ .slnil))))) ?_
                  have hvd1 : cMt Z es tn k r = true := decide_eq_true (by unfold vdC; rw [if_neg hh, if_neg (fun y => y.1 (by rw [← hv40.2]; exact e41)), ← hv, if_neg hng, hx]; show (if x = 0 then 0 else 1) = 1; rw [if_neg (of_decide_eq_true e93)])
                  have hL : (selL (cMt Z es tn k) (r + 1)) = (selL (cMt Z es tn k) r) ++ [r] := by simp only [selL]; rw [if_pos hvd1]
                  refine ih (r + 1) h' (upS (upS sc2 (rPrg 0) 3 ht2) (rRs (1 - Z.fi)) 2 (nI ((selL (cMt Z es tn k) r).length + 1))) (upI (upI (upI ia2 (rStk 0) K2) (rNum (1 - Z.fi)) (va_up ((upI ia2 (rStk 0) K2) (rNum (1 - Z.fi))) (selL (cMt Z es tn k) r).length (nI r))) (rInn (24 * (1 - Z.fi) + (selL (cMt Z es tn k) r).length)) (va_cpy ((upI ia2 (rStk 0) K2) (rVal v)) ((upI ia2 (rStk 0) K2) (rInn (24 * (1 - Z.fi) + (selL (cMt Z es tn k) r).length))) 0 0 4)) (by omega) hz4 (cFr_sR (cFr_iI (by omega) (cFr_iN hfr3))) ?_
                  rw [hL]
                  refine chs_add hch3 (by omega) (fun c hc => ?_)
                  show (if 0 ≤ c ∧ c < 0 + 4 then (upI ia2 (rStk 0) K2) (rVal v) (0 + (c - 0)) else _) = _
                  rw [if_pos (by omega), upI_ne (tag_ne (by decide)), hiv, show 0 + (c - 0) = c by omega]
                  unfold cVl
                  rw [← hv]
            · skip
              replace e41 : ¬ nI (v % 40 + 1) = nI tn := e41
              replace e41 : ¬ v % 40 + 1 = tn := fun z => e41 ((nI_eq (a := v % 40 + 1) (b := tn) (by omega) (by omega)).mpr z)
              refine kx_rn dV_choose 1 45 [(0, .ref (Z.ad rV)), (1, .int (nI tn)), (2, .ref (Z.ad (rTab k))), (3, .int (nI r)), (4, .ref (Z.ad (rVer v)))] [.ref (Z.ad rV)] rfl ?_
              refine pV_18 (v := .ref (Z.ad rTr)) rfl (kx_tk_dec rfl dV_choose) (hz2.is rV rfl) rfl ?_
              refine kx_rn dV_choose 1 50 [(0, .ref (Z.ad rV)), (1, .int (nI tn)), (2, .ref (Z.ad (rTab k))), (3, .int (nI r)), (4, .ref (Z.ad (rVer v)))] [.ref (Z.ad (rVer v)), .ref (Z.ad rTr)] rfl ?_
              refine pV_255 (v := .int (nI (v % 40 + 1))) rfl (kx_tk_dec rfl dV_choose) (hz2.is (rVer v) hv0) rfl ?_
              refine pV_215 rfl (kx_tk_dec rfl dV_choose) ?_
              refine cV_236 (as := [.int (nI (v % 40 + 1)), .ref (G.2.2.2.1 0)]) (st := []) (mc := 0) (ms := 0) (kc := 1) (ks := 6) rfl (kx_tk_dec rfl dV_choose) (hz2.is rTr rfl) rfl rfl (Nat.le_of_ble_eq_true rfl) (cT_is (k := 0) (S6 := Z.st) hst htr (hz2.is rSts rfl) hz2.wf.stc hb40 (by decide)) (fun o h' hq => ?_)
              obtain ⟨z, rfl, hhe, hzz⟩ := hq
              subst h'
              show kx_w _ _ _ _ _ _ _ _ _ _ _
              rw [isx (Z := Z) hzz (by omega) (by omega) hb40]
              refine kx_if (tgt := 73) (kx_tk_dec rfl dV_choose) rfl (fun e59 => ?_) (fun e59 => ?_)
              · skip
                replace e59 : b01 (decide (Z.st (v % 40 + 1) = 0 + 1)) = 0 := e59
                replace e59 : decide (Z.st (v % 40 + 1) = 0 + 1) = false := b01_f e59
                refine kx_rn dV_choose 1 75 [(0, .ref (Z.ad rV)), (1, .int (nI tn)), (2, .ref (Z.ad (rTab k))), (3, .int (nI r)), (4, .ref (Z.ad (rVer v)))] [.ref (Z.ad (rVer v))] rfl ?_
                refine pV_262 (v := .int (nI (Z.V v / 2 % 2))) rfl (kx_tk_dec rfl dV_choose) (hz2.is (rVer v) hv0) rfl ?_
                refine kx_if (tgt := 109) (kx_tk_dec rfl dV_choose) rfl (fun e78 => ?_) (fun e78 => ?_)
                · skip
                  replace e78 : ¬ nI (Z.V v / 2 % 2) = 0 := e78
                  replace e78 : ¬ Z.V v / 2 % 2 = 0 := fun z => e78 ((nI_eq (a := Z.V v / 2 % 2) (b := 0) (by omega) (by omega)).mpr z)
                  refine kx_rn dV_choose 2 10 [(0, .ref (Z.ad rV)), (1, .int (nI tn)), (2, .ref (Z.ad (rTab k))), (3, .int ((nI r) + 1)), (4, .ref (Z.ad (rVer v)))] [] rfl ?_
                  rw [show (nI r) + 1 = nI (r + 1) from kn_ad rfl rfl]
                  refine kx_lsub (lv' := [(0, .ref (Z.ad rV)), (1, .int (nI tn)), (2, .ref (Z.ad (rTab k))), (3, .int (nI (r + 1)))]) (.cons₂ _ (.cons₂ _ (.cons₂ _ (.cons₂ _ (.cons _ .slnil))))) ?_
                  have hvd1 : cMt Z es tn k r = false := decide_eq_false (fun y => by rw [show vdC Z es tn (24 * k + r) = 0 from by unfold vdC; rw [if_neg hh, if_neg (fun y => by rw [← hv40.2] at y; rw [decide_eq_true (p := Z.st (v % 40 + 1) = 0 + 1) y.2] at e59; cases e59), ← hv, if_pos (by omega)]] at y; cases y)
                  have hL : (selL (cMt Z es tn k) (r + 1)) = (selL (cMt Z es tn k) r) := by simp only [selL]; rw [if_neg (by rw [hvd1]; decide)]
                  exact ih (r + 1) h2 sc2 ia2 (by omega) hz2 hfr (by rw [hL]; exact hch)
                · skip
                  replace e78 : nI (Z.V v / 2 % 2) = 0 := e78
                  replace e78 : Z.V v / 2 % 2 = 0 := (nI_eq (a := Z.V v / 2 % 2) (b := 0) (by omega) (by omega)).mp e78
                  refine kx_rn dV_choose 1 82 [(0, .ref (Z.ad rV)), (1, .int (nI tn)), (2, .ref (Z.ad (rTab k))), (3, .int (nI r)), (4, .ref (Z.ad (rVer v)))] [.ref (Z.ad rV)] rfl ?_
                  refine pV_36 (v := .ref (Z.ad (rPrg 0))) rfl (kx_tk_dec rfl dV_choose) (hz2.is rV rfl) rfl ?_
                  refine kx_rn dV_choose 1 87 [(0, .ref (Z.ad rV)), (1, .int (nI tn)), (2, .ref (Z.ad (rTab k))), (3, .int (nI r)), (4, .ref (Z.ad (rVer v)))] [.ref (Z.ad (rVer v)), .ref (Z.ad (rPrg 0))] rfl ?_
                  refine pV_266 (v := .ref (Z.ad (rVal v))) rfl (kx_tk_dec rfl dV_choose) (hz2.is (rVer v) hv0) rfl ?_
                  have hng : ¬ Z.V v / 2 % 2 = 1 := by omega
                  obtain ⟨x, hx⟩ : ∃ x, lA (Z.ia (rVal v)) es = some x := by
                    cases ex : lA (Z.ia (rVal v)) es with
                    | some x => exact ⟨x, rfl⟩
                    | none =>
                      rw [show vdC Z es tn (24 * k + r) = 3 from by unfold vdC; rw [if_neg hh, if_neg (fun y => by rw [← hv40.2] at y; rw [decide_eq_true (p := Z.st (v % 40 + 1) = 0 + 1) y.2] at e59; cases e59), ← hv, if_neg hng, ex]; rfl] at hvd
                      omega
                  have hpf : pFx G h2 (Z.ad (rPrg 0)) (Z.ad (rStp 0)) (Z.ad (rStk 0)) (Z.ad (rVal v)) (Z.ia (rStp 0)) (Z.ia (rVal v)) := by
                    have y := zpFx (Z := Z.wA sc2 ia2) (i := 0) (ρ := rVal v) hz2 ⟨by decide, hZ.wf.p0⟩ hv0 (tag_ne (by decide)) (tag_ne (by decide)) rfl
                    rw [show (Z.wA sc2 ia2).ia (rVal v) = Z.ia (rVal v) from hiv, show (Z.wA sc2 ia2).ia (rStp 0) = Z.ia (rStp 0) from hfr.2.2 (rStp 0) (tag_ne (by decide)) (tag_ne (by decide)) (fun i _ => tag_ne (by decide))] at y
                    exact y
                  have hid : h2 = pH h2 (Z.ad (rPrg 0)) (Z.ad (rStp 0)) (Z.ad (rStk 0)) (nI es.length) (ia2 (rStk 0)) (sc2 (rPrg 0) 3) := pH_id (by rw [← hp2]; exact hz2.is (rPrg 0) ⟨by decide, hZ.wf.p0⟩) (hz2.is (rStk 0) ⟨by decide, hZ.wf.p0⟩)
                  have hc := cP_holds0 (d := d) (K := ia2 (rStk 0)) (ht := sc2 (rPrg 0) 3) hst hpf hok hF hx
                  rw [← hid] at hc
                  refine cV_268 (as := [.ref (Z.ad (rVal v))]) (st := []) (mc := 0) (ms := 0) (kc := 1) (ks := 6) rfl (kx_tk_dec rfl dV_choose) (hz2.is (rPrg 0) ⟨by decide, hZ.wf.p0⟩) rfl rfl (Nat.le_of_ble_eq_true rfl) (hc) (fun o h' hq => ?_)
                  obtain ⟨K2, ht2, rfl, rfl⟩ := hq
                  show kx_w _ _ _ _ _ _ _ _ _ _ _
                  refine cw_go (cz_pH (Z := Z.wA sc2 ia2) (i := 0) (K := K2) (ht := ht2) hz2 ⟨by decide, hZ.wf.p0⟩ hp2) (fun h3 hz3 => ?_)
                  replace hz3 : cOk G m S A h3 (Z.wA (upS sc2 (rPrg 0) 3 ht2) (upI ia2 (rStk 0) K2)) := hz3
                  have hfr3 : cFr Z (upS sc2 (rPrg 0) 3 ht2) (upI ia2 (rStk 0) K2) := cFr_sP (cFr_iK hfr)
                  have hch3 := chs_h (K := K2) (x := ht2) hch
                  refine kx_if (tgt := 109) (kx_tk_dec rfl dV_choose) rfl (fun e93 => ?_) (fun e93 => ?_)
                  · skip
                    replace e93 : b01 (decide (¬ x = 0)) = 0 := e93
                    replace e93 : decide (¬ x = 0) = false := b01_f e93
                    refine kx_rn dV_choose 2 10 [(0, .ref (Z.ad rV)), (1, .int (nI tn)), (2, .ref (Z.ad (rTab k))), (3, .int ((nI r) + 1)), (4, .ref (Z.ad (rVer v)))] [] rfl ?_
                    rw [show (nI r) + 1 = nI (r + 1) from kn_ad rfl rfl]
                    refine kx_lsub (lv' := [(0, .ref (Z.ad rV)), (1, .int (nI tn)), (2, .ref (Z.ad (rTab k))), (3, .int (nI (r + 1)))]) (.cons₂ _ (.cons₂ _ (.cons₂ _ (.cons₂ _ (.cons _ .slnil))))) ?_
                    have hvd1 : cMt Z es tn k r = false := decide_eq_false (fun y => by rw [show vdC Z es tn (24 * k + r) = 0 from by unfold vdC; rw [if_neg hh, if_neg (fun y => by rw [← hv40.2] at y; rw [decide_eq_true (p := Z.st (v % 40 + 1) = 0 + 1) y.2] at e59; cases e59), ← hv, if_neg hng, hx]; show (if x = 0 then 0 else 1) = 0; rw [if_pos (Classical.byContradiction (fun y => by rw [decide_eq_true (p := ¬ x = 0) y] at e93; cases e93))]] at y; cases y)
                    have hL : (selL (cMt Z es tn k) (r + 1)) = (selL (cMt Z es tn k) r) := by simp only [selL]; rw [if_neg (by rw [hvd1]; decide)]
                    exact ih (r + 1) h3 _ _ (by omega) hz3 hfr3 (by rw [hL]; exact hch3)
                  · skip
                    replace e93 : ¬ b01 (decide (¬ x = 0)) = 0 := e93
                    replace e93 : decide (¬ x = 0) = true := b01_t e93
                    refine kx_rn dV_choose 1 97 [(0, .ref (Z.ad rV)), (1, .int (nI tn)), (2, .ref (Z.ad (rTab k))), (3, .int (nI r)), (4, .ref (Z.ad (rVer v)))] [.ref (Z.ad rV)] rfl ?_
                    refine pV_51 (v := .ref (Z.ad (rRs (1 - Z.fi)))) rfl (kx_tk_dec rfl dV_choose) (hz3.is rV rfl) rfl ?_
                    refine kx_rn dV_choose 2 103 [(0, .ref (Z.ad rV)), (1, .int (nI tn)), (2, .ref (Z.ad (rTab k))), (3, .int (nI r)), (4, .ref (Z.ad (rVer v)))] [.ref (Z.ad (rVer v)), .int (nI r), .ref (Z.ad (rRs (1 - Z.fi)))] rfl ?_
                    refine pV_266 (v := .ref (Z.ad (rVal v))) rfl (kx_tk_dec rfl dV_choose) (hz3.is (rVer v) hv0) rfl ?_
                    have hsz : (upS sc2 (rPrg 0) 3 ht2) (rRs (1 - Z.fi)) 2 = nI (selL (cMt Z es tn k) r).length := hch3.1
                    refine cV_272 (as := [.int (nI r), .ref (Z.ad (rVal v))]) (st := []) (mc := 0) (ms := 0) (kc := 1) (ks := 6) rfl (kx_tk_dec rfl dV_choose) (hz3.is (rRs (1 - Z.fi)) hj2) rfl rfl (Nat.le_of_ble_eq_true rfl) (cS_add (Z := Z.wA (upS sc2 (rPrg 0) 3 ht2) (upI ia2 (rStk 0) K2)) (j := 1 - Z.fi) (v := v) (r := r) hst hz3 hj2 hsz (by omega) hv0) (fun o h' hq => ?_)
                    obtain ⟨rfl, hz4⟩ := hq
                    show kx_w _ _ _ _ _ _ _ _ _ _ _
                    refine kx_rn dV_choose 2 10 [(0, .ref (Z.ad rV)), (1, .int (nI tn)), (2, .ref (Z.ad (rTab k))), (3, .int ((nI r) + 1)), (4, .ref (Z.ad (rVer v)))] [] rfl ?_
                    rw [show (nI r) + 1 = nI (r + 1) from kn_ad rfl rfl]
                    refine kx_lsub (lv' := [(0, .ref (Z.ad rV)), (1, .int (nI tn)), (2, .ref (Z.ad (rTab k))), (3, .int (nI (r + 1)))]) (.cons₂ _ (.cons₂ _ (.cons₂ _ (.cons₂ _ (.cons _ .slnil))))) ?_
                    have hvd1 : cMt Z es tn k r = true := decide_eq_true (by unfold vdC; rw [if_neg hh, if_neg (fun y => by rw [← hv40.2] at y; rw [decide_eq_true (p := Z.st (v % 40 + 1) = 0 + 1) y.2] at e59; cases e59), ← hv, if_neg hng, hx]; show (if x = 0 then 0 else 1) = 1; rw [if_neg (of_decide_eq_true e93)])
                    have hL : (selL (cMt Z es tn k) (r + 1)) = (selL (cMt Z es tn k) r) ++ [r] := by simp only [selL]; rw [if_pos hvd1]
                    refine ih (r + 1) h' (upS (upS sc2 (rPrg 0) 3 ht2) (rRs (1 - Z.fi)) 2 (nI ((selL (cMt Z es tn k) r).length + 1))) (upI (upI (upI ia2 (rStk 0) K2) (rNum (1 - Z.fi)) (va_up ((upI ia2 (rStk 0) K2) (rNum (1 - Z.fi))) (selL (cMt Z es tn k) r).length (nI r))) (rInn (24 * (1 - Z.fi) + (selL (cMt Z es tn k) r).length)) (va_cpy ((upI ia2 (rStk 0) K2) (rVal v)) ((upI ia2 (rStk 0) K2) (rInn (24 * (1 - Z.fi) + (selL (cMt Z es tn k) r).length))) 0 0 4)) (by omega) hz4 (cFr_sR (cFr_iI (by omega) (cFr_iN hfr3))) ?_
                    rw [hL]
                    refine chs_add hch3 (by omega) (fun c hc => ?_)
                    show (if 0 ≤ c ∧ c < 0 + 4 then (upI ia2 (rStk 0) K2) (rVal v) (0 + (c - 0)) else _) = _
                    rw [if_pos (by omega), upI_ne (tag_ne (by decide)), hiv, show 0 + (c - 0) = c by omega]
                    unfold cVl
                    rw [← hv]
              · skip
                replace e59 : ¬ b01 (decide (Z.st (v % 40 + 1) = 0 + 1)) = 0 := e59
                replace e59 : decide (Z.st (v % 40 + 1) = 0 + 1) = true := b01_t e59
                rw [show vdC Z es tn (24 * k + r) = 2 from by unfold vdC; rw [if_neg hh, if_pos ⟨fun y => e41 (by rw [hv40.2]; exact y), by rw [← hv40.2]; exact of_decide_eq_true e59⟩]] at hvd; omega
  refine kx_rn dV_choose 1 1 [(0, .ref (Z.ad rV)), (1, .int (nI tn)), (2, .ref (Z.ad (rTab k)))] [.ref (Z.ad rV)] rfl ?_
  refine pV_51 (v := .ref (Z.ad (rRs (1 - Z.fi)))) rfl (kx_tk_dec rfl dV_choose) (hZ.is rV rfl) rfl ?_
  refine kx_rn dV_choose 1 5 [(0, .ref (Z.ad rV)), (1, .int (nI tn)), (2, .ref (Z.ad (rTab k)))] [.int 0, .ref (Z.ad (rRs (1 - Z.fi)))] rfl ?_
  refine qV_158 rfl (kx_tk_dec rfl dV_choose) (hZ.is (rRs (1 - Z.fi)) (show 1 - Z.fi < 2 by omega)) rfl rfl (Nat.le_of_ble_eq_true rfl) ?_
  refine cw_go (cz_sS (ρ := (rRs (1 - Z.fi))) hZ (show 1 - Z.fi < 2 by omega) 2 0 rfl) (fun h3 hz3 => ?_)
  refine kx_rn dV_choose 2 10 [(0, .ref (Z.ad rV)), (1, .int (nI tn)), (2, .ref (Z.ad (rTab k))), (3, .int 0)] [] rfl ?_
  exact loop r0 0 _ (upS Z.sc (rRs (1 - Z.fi)) 2 0) Z.ia (by omega) hz3 (cFr_sR (cFr_r Z)) ⟨upS_eq, fun i r hr => by simp [selL] at hr⟩
end KC37
