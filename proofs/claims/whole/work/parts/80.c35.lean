/-! ===== the other side: versions written ===== -/
section KC35
variable {G : kx_G} {l : Launch} {d : Nat} {h : kx_H} {m : Nat} {S : Nat → Int32} {A : Nat → Nat → Int32} {Z : cZ}
set_option maxRecDepth 100000 in
theorem cN_init {a t : Nat} (hst : l.stackTraces = false) (ha : kx_is G h a (.inr (7, [.int 0, .null, .int 0, .int 0]))) :
    kx_c G l mN_init d 1 4 [.ref a, .int (nI t)] h (fun o h' => o = .returned none ∧ h' = kx_set (kx_new h (kIa 4 (fun _ => 0))) a (.inr (7, [.int (nI t), .ref h.1, .int (nI t), .int 0]))) := by
  refine kx_in (by decide +kernel) (Nat.le_of_ble_eq_true rfl) hst ?_
  refine kx_rn dN_init 1 1 [(0, .ref a), (1, .int (nI t))] [.ref a] rfl ?_
  refine cN_3 rfl (kx_tk_dec rfl dN_init) (Nat.le_of_ble_eq_true rfl) ?_
  refine kx_rn dN_init 2 6 [(0, .ref a), (1, .int (nI t))] [.int 4, .ref a] rfl ?_
  refine kx_nwi (kc := 0) (ks := 0) (N := 4) (by decide) rfl (by decide) (kx_tk_dec rfl dN_init) ?_
  refine qN_9 rfl rfl (kx_tk_dec rfl dN_init) (kx_is_new ha) rfl rfl (Nat.le_of_ble_eq_true rfl) ?_
  refine kx_rn dN_init 2 13 [(0, .ref a), (1, .int (nI t))] [.int 0, .ref a] rfl ?_
  refine qN_15 rfl (kx_tk_dec rfl dN_init) (kx_is_eq (kx_is_new ha)) rfl rfl (Nat.le_of_ble_eq_true rfl) ?_
  refine kx_heq (kx_set_set _ _) ?_
  refine kx_rn dN_init 2 18 [(0, .ref a), (1, .int (nI t))] [.int (nI t), .ref a] rfl ?_
  refine qN_19 rfl rfl (kx_tk_dec rfl dN_init) (kx_is_eq (kx_is_new ha)) rfl rfl (Nat.le_of_ble_eq_true rfl) ?_
  refine kx_heq (kx_set_set _ _) ?_
  refine kx_rn dN_init 2 23 [(0, .ref a), (1, .int (nI t))] [.int (nI t), .ref a] rfl ?_
  refine qN_23 rfl (kx_tk_dec rfl dN_init) (kx_is_eq (kx_is_new ha)) rfl rfl (Nat.le_of_ble_eq_true rfl) ?_
  refine kx_heq (kx_set_set _ _) ?_
  refine kx_retv (kx_tk_dec rfl dN_init) rfl ?_
  exact ⟨rfl, rfl⟩
set_option maxRecDepth 100000 in
theorem cR_writeA {r w0 t a b va mc ms : Nat} {f : Nat → Option Nat} {x0 x2 x3 : Int32} {fv g : Nat → Int32} {gn : Bool} (hst : l.stackTraces = false) (hr : kx_is G h r (.inr (5, [.ref w0]))) (hw : kx_is G h w0 (kQa 5 41 f)) (ht : t < 41) (hf : f t = some a) (ha : kx_is G h a (.inr (7, [.int x0, .ref b, .int x2, .int x3]))) (hb : kx_is G h b (kIa 4 g)) (hv : kx_is G h va (kIa 4 fv)) (hne : a ≠ b) :
    kx_c G l mR_write (d + 1) mc ms [.ref r, .int (nI t), .ref va, .int (b01 gn)] h (fun o h' => o = .returned none ∧ h' = kx_set (kx_set h b (kIa 4 (va_cpy fv g 0 0 4))) a (.inr (7, [.int x0, .ref b, .int x2, .int (b01 gn)]))) := by
  refine kx_in (by decide +kernel) (Nat.le_of_ble_eq_true rfl) hst ?_
  refine kx_rn dR_write 1 1 [(0, .ref r), (1, .int (nI t)), (2, .ref va), (3, .int (b01 gn))] [.ref r] rfl ?_
  refine pR_11 (v := .ref w0) rfl (kx_tk_dec rfl dR_write) hr rfl ?_
  refine kx_rn dR_write 1 5 [(0, .ref r), (1, .int (nI t)), (2, .ref va), (3, .int (b01 gn))] [.int (nI t), .ref w0] rfl ?_
  refine kx_qldN (x := some a) (i := t) rfl rfl (kx_tk_dec rfl dR_write) hw (by show t < 41; omega) (by decide) hf ?_
  refine kx_nnl (x := some a) (tgt := 23) (kx_tk_dec rfl dR_write) rfl (fun a6 e6 => ?_) (fun e6 => ?_)
  · skip
    refine kx_rn dR_write 1 24 [(0, .ref r), (1, .int (nI t)), (2, .ref va), (3, .int (b01 gn))] [.ref r] rfl ?_
    refine pR_11 (v := .ref w0) rfl (kx_tk_dec rfl dR_write) hr rfl ?_
    refine kx_rn dR_write 1 28 [(0, .ref r), (1, .int (nI t)), (2, .ref va), (3, .int (b01 gn))] [.int (nI t), .ref w0] rfl ?_
    refine kx_qldN (x := some a) (i := t) rfl rfl (kx_tk_dec rfl dR_write) hw (by show t < 41; omega) (by decide) hf ?_
    refine kx_rn dR_write 2 31 [(0, .ref r), (1, .int (nI t)), (2, .ref va), (3, .int (b01 gn))] [.int (b01 gn), .ref va, .ref a] rfl ?_
    refine cR_20 (as := [.ref va, .int (b01 gn)]) (st := []) (mc := 0) (ms := 0) (kc := mc) (ks := ms) rfl (kx_tk_dec rfl dR_write) ha rfl rfl (Nat.le_of_ble_eq_true rfl) (cN_put hst ha hb hv hne) (fun o h' hq => ?_)
    obtain ⟨rfl, rfl⟩ := hq
    show kx_w _ _ _ _ _ _ _ _ _ _ _
    refine kx_retv (kx_tk_dec rfl dR_write) rfl ?_
    exact ⟨rfl, rfl⟩
  · skip
    cases e6
/-- the heap with a new version -/
def nvH (h : kx_H) (t : Nat) : kx_H := kx_set (kx_new (kx_new h (.inr (7, [.int 0, .null, .int 0, .int 0]))) (kIa 4 (fun _ => 0))) h.1 (.inr (7, [.int (nI t), .ref (h.1 + 1), .int (nI t), .int 0]))
theorem nv_1 {t : Nat} (hG : G.1 ≤ h.1) : kx_is G (nvH h t) h.1 (.inr (7, [.int (nI t), .ref (h.1 + 1), .int (nI t), .int 0])) := ⟨hG, by show h.1 < h.1 + 1 + 1; omega, va_up_self _ _ _⟩
theorem nv_2 {t : Nat} (hG : G.1 ≤ h.1) : kx_is G (nvH h t) (h.1 + 1) (kIa 4 (fun _ => 0)) := ⟨by omega, by show h.1 + 1 < h.1 + 1 + 1; omega, by
  show va_up _ _ _ _ = _
  rw [va_up_ne _ _ (by omega)]
  exact va_up_self _ _ _⟩
theorem nv_o {t a : Nat} (ha : a < h.1) : (nvH h t).2 a = h.2 a := by
  show va_up (va_up (va_up h.2 h.1 _) (h.1 + 1) _) h.1 _ a = _
  rw [va_up_ne _ _ (by omega), va_up_ne _ _ (by omega), va_up_ne _ _ (by omega)]
theorem nv_is {t a : Nat} {c : kx_C} (hc : kx_is G h a c) : kx_is G (nvH h t) a c := ⟨hc.1, by show a < h.1 + 1 + 1; have := hc.2.1; omega, by rw [nv_o hc.2.1]; exact hc.2.2⟩
set_option maxRecDepth 100000 in
theorem cR_writeB {r w0 t va : Nat} {f : Nat → Option Nat} {fv : Nat → Int32} {gn : Bool} (hst : l.stackTraces = false) (hr : kx_is G h r (.inr (5, [.ref w0]))) (hw : kx_is G h w0 (kQa 5 41 f)) (ht : t < 41) (hf : f t = none) (hv : kx_is G h va (kIa 4 fv)) (hG : G.1 ≤ h.1) (hrw : r ≠ w0) (hvw : va ≠ w0) :
    kx_c G l mR_write (d + 1) 2 8 [.ref r, .int (nI t), .ref va, .int (b01 gn)] h (fun o h' => o = .returned none ∧ h' = kx_set (kx_set (kx_set (nvH h t) w0 (kQa 5 41 (va_up f t (some h.1)))) (h.1 + 1) (kIa 4 (va_cpy fv (fun _ => 0) 0 0 4))) h.1 (.inr (7, [.int (nI t), .ref (h.1 + 1), .int (nI t), .int (b01 gn)]))) := by
  have hn1 : h.1 ≠ w0 := by have := hw.2.1; omega
  have hn2 : h.1 + 1 ≠ w0 := by have := hw.2.1; omega
  refine kx_in (by decide +kernel) (Nat.le_of_ble_eq_true rfl) hst ?_
  refine kx_rn dR_write 1 1 [(0, .ref r), (1, .int (nI t)), (2, .ref va), (3, .int (b01 gn))] [.ref r] rfl ?_
  refine pR_11 (v := .ref w0) rfl (kx_tk_dec rfl dR_write) hr rfl ?_
  refine kx_rn dR_write 1 5 [(0, .ref r), (1, .int (nI t)), (2, .ref va), (3, .int (b01 gn))] [.int (nI t), .ref w0] rfl ?_
  refine kx_qldN (x := none) (i := t) rfl rfl (kx_tk_dec rfl dR_write) hw (by show t < 41; omega) (by decide) hf ?_
  refine kx_nnl (x := none) (tgt := 23) (kx_tk_dec rfl dR_write) rfl (fun a6 e6 => ?_) (fun e6 => ?_)
  · skip
    cases e6
  · skip
    refine kx_rn dR_write 1 10 [(0, .ref r), (1, .int (nI t)), (2, .ref va), (3, .int (b01 gn))] [.ref r] rfl ?_
    refine pR_11 (v := .ref w0) rfl (kx_tk_dec rfl dR_write) hr rfl ?_
    refine kx_rn dR_write 1 14 [(0, .ref r), (1, .int (nI t)), (2, .ref va), (3, .int (b01 gn))] [.int (nI t), .ref w0] rfl ?_
    refine nR_9 (kc := 1) (ks := 4) rfl (kx_tk_dec rfl dR_write) ?_
    refine kx_rn dR_write 2 19 [(0, .ref r), (1, .int (nI t)), (2, .ref va), (3, .int (b01 gn))] [.int (nI t), .ref h.1, .ref h.1, .int (nI t), .ref w0] rfl ?_
    refine cR_17 (as := [.int (nI t)]) (st := [.ref h.1, .int (nI t), .ref w0]) (mc := 1) (ms := 4) (kc := 0) (ks := 0) rfl (kx_tk_dec rfl dR_write) rfl rfl (Nat.le_of_ble_eq_true rfl) (cN_init (t := t) hst (show kx_is G (kx_new h (.inr (7, [.int 0, .null, .int 0, .int 0]))) h.1 _ from ⟨hG, Nat.lt_succ_self _, va_up_self _ _ _⟩)) (fun o h' hq => ?_)
    obtain ⟨rfl, hhe⟩ := hq
    replace hhe : h' = nvH h t := hhe
    subst hhe
    show kx_w _ _ _ _ _ _ _ _ _ _ _
    refine kx_qstO (i := t) rfl rfl (kx_tk_dec rfl dR_write) (nv_is hw) (nv_1 (t := t) hG) (by show t < 41; omega) (by decide) ?_
    refine kx_rn dR_write 1 24 [(0, .ref r), (1, .int (nI t)), (2, .ref va), (3, .int (b01 gn))] [.ref r] rfl ?_
    refine pR_11 (v := .ref w0) rfl (kx_tk_dec rfl dR_write) (kx_is_ne (nv_is hr) hrw) rfl ?_
    refine kx_rn dR_write 1 28 [(0, .ref r), (1, .int (nI t)), (2, .ref va), (3, .int (b01 gn))] [.int (nI t), .ref w0] rfl ?_
    refine kx_qldN (x := some h.1) (i := t) rfl rfl (kx_tk_dec rfl dR_write) (kx_is_eq (nv_is hw)) (by show t < 41; omega) (by decide) (va_up_self _ _ _) ?_
    refine kx_rn dR_write 2 31 [(0, .ref r), (1, .int (nI t)), (2, .ref va), (3, .int (b01 gn))] [.int (b01 gn), .ref va, .ref h.1] rfl ?_
    refine cR_20 (as := [.ref va, .int (b01 gn)]) (st := []) (mc := 0) (ms := 0) (kc := 0) (ks := 0) rfl (kx_tk_dec rfl dR_write) (kx_is_ne (nv_1 (t := t) hG) hn1) rfl rfl (Nat.le_of_ble_eq_true rfl) (cN_put (gn := gn) hst (kx_is_ne (nv_1 (t := t) hG) hn1) (kx_is_ne (nv_2 (t := t) hG) hn2) (kx_is_ne (nv_is hv) hvw) (by omega)) (fun o h' hq => ?_)
    obtain ⟨rfl, rfl⟩ := hq
    show kx_w _ _ _ _ _ _ _ _ _ _ _
    refine kx_retv (kx_tk_dec rfl dR_write) rfl ?_
    exact ⟨rfl, rfl⟩
/-- two states that differ in their versions alone -/
def zW (Z Z' : cZ) : Prop := (∀ a b, a ≠ 18 → a ≠ 19 → Z'.ad (a, b) = Z.ad (a, b)) ∧ Z'.sc = Z.sc ∧ (∀ a b, a ≠ 19 → Z'.ia (a, b) = Z.ia (a, b)) ∧ Z'.tb = Z.tb ∧ Z'.pl = Z.pl ∧ Z'.st = Z.st ∧ Z'.fi = Z.fi
theorem zW_r (Z : cZ) : zW Z Z := ⟨fun _ _ _ _ => rfl, rfl, fun _ _ _ => rfl, rfl, rfl, rfl, rfl⟩
theorem zW_t {Z Z1 Z2 : cZ} (h1 : zW Z Z1) (h2 : zW Z1 Z2) : zW Z Z2 := ⟨fun a b y z => (h2.1 a b y z).trans (h1.1 a b y z), h2.2.1.trans h1.2.1, fun a b y => (h2.2.2.1 a b y).trans (h1.2.2.1 a b y), h2.2.2.2.1.trans h1.2.2.2.1, h2.2.2.2.2.1.trans h1.2.2.2.2.1, h2.2.2.2.2.2.1.trans h1.2.2.2.2.2.1, h2.2.2.2.2.2.2.trans h1.2.2.2.2.2.2⟩
theorem zW_V (Z : cZ) (V : Nat → Nat) : zW Z (Z.wV V) := ⟨fun _ _ _ _ => rfl, rfl, fun _ _ _ => rfl, rfl, rfl, rfl, rfl⟩
theorem zW_lv {Z Z' : cZ} (h : zW Z Z') {a b : Nat} (h1 : a ≠ 18) (h2 : a ≠ 19) : lvZ Z' (a, b) ↔ lvZ Z (a, b) := by
  show lvT Z' a b ↔ lvT Z a b
  simp only [lvT, if_neg h1, if_neg h2, h.2.2.2.1, h.2.2.2.2.1]
theorem zW_is {Z Z' : cZ} {h : kx_H} (hz : cOk G m S A h Z') (hw : zW Z Z') {a b : Nat} (h1 : a ≠ 17) (h2 : a ≠ 18) (h3 : a ≠ 19) (hl : lvZ Z (a, b)) : kx_is G h (Z.ad (a, b)) (pic G Z (a, b)) := by
  have := hz.is (a, b) ((zW_lv hw h2 h3).mpr hl)
  rw [hw.1 a b h2 h3] at this
  have e : pic G Z' (a, b) = pic G Z (a, b) := by
    show picT G Z'.ad (Z'.sc (a, b)) (Z'.ia (a, b)) Z'.tb Z'.V Z'.pl Z'.st Z'.fi a b = picT G Z.ad (Z.sc (a, b)) (Z.ia (a, b)) Z.tb Z.V Z.pl Z.st Z.fi a b
    rw [hw.2.1, hw.2.2.1 a b h3, hw.2.2.2.1, hw.2.2.2.2.1, hw.2.2.2.2.2.1, hw.2.2.2.2.2.2, picT_V (V' := Z.V) h1 h2, picT_ad hw.1 h1 h2]
  rw [e] at this
  exact this
theorem bn_2 (b : Bool) : bn b = if b then 1 else 0 := rfl
/-- a version written -/
theorem cR_write {q t va : Nat} {fv : Nat → Int32} {gn : Bool} (hst : l.stackTraces = false) (hZ : cOk G m S A h Z) (hq : lvZ Z (rByw q)) (ht1 : 1 ≤ t) (ht2 : t ≤ 40) (hv : kx_is G h va (kIa 4 fv)) :
    kx_c G l mR_write (d + 1) 2 8 [.ref (Z.ad (rRow q)), .int (nI t), .ref va, .int (b01 gn)] h (fun o h' => o = .returned none ∧ ∃ Z', cOk G m S A h' Z' ∧ zW Z Z' ∧ Z'.V = va_up Z.V (40 * q + (t - 1)) (vWr (Z.V (40 * q + (t - 1))) t gn) ∧ (∀ c, c < 4 → Z'.ia (rVal (40 * q + (t - 1))) c = fv c) ∧ (∀ v, v ≠ 40 * q + (t - 1) → Z'.ia (rVal v) = Z.ia (rVal v))) := by
  obtain ⟨v, hvq⟩ : ∃ v, v = 40 * q + (t - 1) := ⟨_, rfl⟩
  have hq0 : q < 72 := hq.1
  have hv40 : v % 40 + 1 = t := by omega
  have hcp : ∀ g : Nat → Int32, ∀ c, c < 4 → va_cpy fv g 0 0 4 c = fv c := fun g c hc => by
    show (if 0 ≤ c ∧ c < 0 + 4 then fv (0 + (c - 0)) else g c) = fv c
    rw [if_pos (by omega)]
    congr 1
    omega
  by_cases e : Z.V v = 0
  · have hne : Z.ad (rRow q) ≠ Z.ad (rByw q) := fun z => absurd (congrArg Prod.fst (hZ.inj (rRow q) (rByw q) hq hq z)) (by show ¬ ((16 : Nat) = 17); decide)
    have hvb : va ≠ Z.ad (rByw q) := fun z => by
      have h1 := hv.2.2
      rw [z, (hZ.is (rByw q) hq).2.2] at h1
      cases h1
    have hG : G.1 ≤ h.1 := by have := hZ.b1; have := hZ.b2; omega
    refine kx_cc (fun o h' hq2 => ?_) (cR_writeB (f := vrF Z q) (gn := gn) hst (hZ.is (rRow q) hq) (hZ.is (rByw q) hq) (by omega) (by unfold vrF; rw [if_neg (fun z => z.2.2 (by rw [← hvq]; exact e))]) hv hG hne hvb)
    obtain ⟨rfl, rfl⟩ := hq2
    refine ⟨rfl, ?_⟩
    have hz1 : cOk G m S A (nvH h t) Z := cz_ext hZ (by show h.1 ≤ h.1 + 1 + 1; omega) (fun a ha => nv_o ha)
    have hx4 : (1 + 4 * t) / 4 = t := by omega
    have hx2 : (1 + 4 * t) / 2 % 2 = 0 := by omega
    have hz2 := cz_nV (x := 1 + 4 * t) (w := t) hz1 hq ⟨ht1, ht2⟩ (by rw [← hvq]; exact e) (by omega) (by omega) (by rw [hx4, hx2]; exact nv_1 (t := t) hG) (nv_2 (t := t) hG) (cz_fr hZ (Nat.le_refl _)) (cz_fr hZ (Nat.le_succ _)) (by omega) rfl
    rw [← hvq] at hz2
    have ea : (Z.nV v (1 + 4 * t) h.1 (h.1 + 1) (fun _ => 0)).ad (rVer v) = h.1 := if_pos rfl
    have eb : (Z.nV v (1 + 4 * t) h.1 (h.1 + 1) (fun _ => 0)).ad (rVal v) = h.1 + 1 := by simp [cZ.nV, cZ.ad]
    have eV : (Z.nV v (1 + 4 * t) h.1 (h.1 + 1) (fun _ => 0)).V v = 1 + 4 * t := va_up_self _ _ _
    have hz3 := cz_sI (ρ := rVal v) hz2 (show ¬ (Z.nV v (1 + 4 * t) h.1 (h.1 + 1) (fun _ => 0)).V v = 0 by rw [eV]; omega) (va_cpy fv (fun _ => 0) 0 0 4) rfl
    rw [eb] at hz3
    have hy4 : (1 + 2 * bn gn + 4 * t) / 4 = t := by have := bn_le gn; omega
    have hy2 : (1 + 2 * bn gn + 4 * t) / 2 % 2 = bn gn := by have := bn_le gn; omega
    have hz4 := cz_sV (v := v) (x := 1 + 2 * bn gn + 4 * t) hz3 (show ¬ (Z.nV v (1 + 4 * t) h.1 (h.1 + 1) (fun _ => 0)).V v = 0 by rw [eV]; omega) (by omega) (by have := bn_le gn; omega) (c := .inr (7, [.int (nI t), .ref (h.1 + 1), .int (nI t), .int (b01 gn)])) (by
      show vO v ((Z.nV v (1 + 4 * t) h.1 (h.1 + 1) (fun _ => 0)).ad (rVal v)) _ = _
      unfold vO
      rw [eb, hy4, hy2, hv40, b01_bn])
    rw [show ((Z.nV v (1 + 4 * t) h.1 (h.1 + 1) (fun _ => 0)).sI (rVal v) (va_cpy fv (fun _ => 0) 0 0 4)).ad (rVer v) = h.1 from ea] at hz4
    refine ⟨_, hz4, ⟨fun a b z1 z2 => ad_nV (x := 1 + 4 * t) (f := fun _ => 0) (fun y => z1 (congrArg Prod.fst y)) (fun y => z2 (congrArg Prod.fst y)), rfl, fun a b z1 => ?_, rfl, rfl, rfl, rfl⟩, ?_, fun c hc => ?_, fun u hu => ?_⟩
    · show (if (a, b) = rVal v then _ else if (a, b) = rVal v then _ else Z.ia (a, b)) = _
      rw [if_neg (fun y => z1 (congrArg Prod.fst y)), if_neg (fun y => z1 (congrArg Prod.fst y))]
    · rw [← hvq]
      show va_up (va_up Z.V v (1 + 4 * t)) v (1 + 2 * bn gn + 4 * t) = _
      rw [va_upup, e]
      congr 1
      unfold vWr
      rw [if_pos rfl]
      cases gn <;> (simp [bn])
    · rw [← hvq]
      show ((Z.nV v (1 + 4 * t) h.1 (h.1 + 1) (fun _ => 0)).sI (rVal v) (va_cpy fv (fun _ => 0) 0 0 4)).ia (rVal v) c = _
      rw [zi_eq]; exact hcp _ c hc
    · rw [← hvq] at hu
      show (if rVal u = rVal v then _ else if rVal u = rVal v then _ else Z.ia (rVal u)) = _
      rw [if_neg (fun y => hu (congrArg Prod.snd y)), if_neg (fun y => hu (congrArg Prod.snd y))]
  · have hne : Z.ad (rVer v) ≠ Z.ad (rVal v) := fun z => absurd (congrArg Prod.fst (hZ.inj (rVer v) (rVal v) e e z)) (by show ¬ ((18 : Nat) = 19); decide)
    refine kx_cc (fun o h' hq2 => ?_) (cR_writeA (f := vrF Z q) (gn := gn) hst (hZ.is (rRow q) hq) (hZ.is (rByw q) hq) (by omega) (by unfold vrF; rw [← hvq, if_pos ⟨ht1, ht2, e⟩]) (hZ.is (rVer v) e) (hZ.is (rVal v) e) hv hne)
    obtain ⟨rfl, rfl⟩ := hq2
    refine ⟨rfl, ?_⟩
    have hlow := hZ.wf.low v
    have hodd := (hZ.wf.odd v).resolve_left e
    have hz3 := cz_sI (ρ := rVal v) hZ e (va_cpy fv (Z.ia (rVal v)) 0 0 4) rfl
    have hy4 : (1 + 2 * bn gn + 4 * (Z.V v / 4)) / 4 = Z.V v / 4 := by have := bn_le gn; omega
    have hy2 : (1 + 2 * bn gn + 4 * (Z.V v / 4)) / 2 % 2 = bn gn := by have := bn_le gn; omega
    have hz4 := cz_sV (v := v) (x := 1 + 2 * bn gn + 4 * (Z.V v / 4)) hz3 e (by omega) (by have := bn_le gn; omega) (c := .inr (7, [.int (nI (v % 40 + 1)), .ref (Z.ad (rVal v)), .int (nI (Z.V v / 4)), .int (b01 gn)])) (by
      show vO v (Z.ad (rVal v)) _ = _
      unfold vO
      rw [hy4, hy2, b01_bn])
    refine ⟨_, hz4, ⟨fun a b z1 z2 => rfl, rfl, fun a b z1 => ?_, rfl, rfl, rfl, rfl⟩, ?_, fun c hc => ?_, fun u hu => ?_⟩
    · show (if (a, b) = rVal v then _ else Z.ia (a, b)) = _
      rw [if_neg (fun y => z1 (congrArg Prod.fst y))]
    · rw [← hvq]
      show va_up Z.V v (1 + 2 * bn gn + 4 * (Z.V v / 4)) = _
      congr 1
      unfold vWr
      rw [if_neg e]
      cases gn <;> (simp [bn])
    · rw [← hvq]
      show (Z.sI (rVal v) (va_cpy fv (Z.ia (rVal v)) 0 0 4)).ia (rVal v) c = _
      rw [zi_eq]; exact hcp _ c hc
    · rw [← hvq] at hu
      show (if rVal u = rVal v then _ else Z.ia (rVal u)) = _
      rw [if_neg (fun y => hu (congrArg Prod.snd y))]
end KC35
