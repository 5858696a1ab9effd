/-! ===== the other side: a new one ===== -/
section KC46
variable {G : kx_G} {l : Launch} {d : Nat} {h : kx_H} {m : Nat} {S : Nat → Int32} {A : Nat → Nat → Int32} {Z : cZ}
set_option maxRecDepth 100000 in
theorem cT_init {t : Nat} (hst : l.stackTraces = false) (ht : kx_is G h t (.inr (1, [.null, .int 0, .int 0]))) :
    kx_c G l mT_init d 1 41 [.ref t] h (fun o h' => o = .returned none ∧ h'.1 = h.1 + 1 ∧ (∀ a, a < h.1 → a ≠ t → h'.2 a = h.2 a) ∧ h'.2 t = .inr (1, [.ref h.1, .int 0, .int 0]) ∧ h'.2 h.1 = kQa 2 41 (fun _ => none)) := by
  have htl := ht.2.1
  refine kx_in (by decide +kernel) (Nat.le_of_ble_eq_true rfl) hst ?_
  refine kx_rn dT_init 1 1 [(0, .ref t)] [.ref t] rfl ?_
  refine cT_3 rfl (kx_tk_dec rfl dT_init) (Nat.le_of_ble_eq_true rfl) ?_
  refine kx_rn dT_init 2 7 [(0, .ref t)] [.int 41, .ref t] rfl ?_
  refine aT_9 (kc := 0) (ks := 0) (N := 41) rfl (kx_tk_dec rfl dT_init) (by decide) rfl (by decide) ?_
  refine qT_11 rfl rfl (kx_tk_dec rfl dT_init) (kx_is_new ht) rfl rfl (Nat.le_of_ble_eq_true rfl) ?_
  refine kx_rn dT_init 2 15 [(0, .ref t)] [.int 0, .ref t] rfl ?_
  refine qT_17 rfl (kx_tk_dec rfl dT_init) (kx_is_eq (kx_is_new ht)) rfl rfl (Nat.le_of_ble_eq_true rfl) ?_
  refine kx_rn dT_init 2 20 [(0, .ref t)] [.int 0, .ref t] rfl ?_
  refine qT_21 rfl (kx_tk_dec rfl dT_init) (kx_is_eq (kx_is_eq (kx_is_new ht))) rfl rfl (Nat.le_of_ble_eq_true rfl) ?_
  refine kx_retv (kx_tk_dec rfl dT_init) rfl ?_
  refine ⟨rfl, rfl, fun a ha hne => ?_, ?_, ?_⟩
  · show va_up (va_up (va_up (va_up (h.2) (h.1) _) (t) _) (t) _) (t) _ a = _
    rw [va_up_ne _ _ (by omega), va_up_ne _ _ (by omega), va_up_ne _ _ (by omega), va_up_ne _ _ (by omega)]
  · show va_up (va_up (va_up (va_up (h.2) (h.1) _) (t) _) (t) _) (t) _ t = _
    exact va_up_self _ _ _
  · show va_up (va_up (va_up (va_up (h.2) (h.1) _) (t) _) (t) _) (t) _ h.1 = _
    rw [va_up_ne _ _ (by omega), va_up_ne _ _ (by omega), va_up_ne _ _ (by omega)]
    exact va_up_self _ _ _
set_option maxRecDepth 100000 in
theorem cS_init {s : Nat} (hst : l.stackTraces = false) (hs : kx_is G h s (.inr (3, [.null, .null, .int 0]))) :
    kx_c G l mS_init d 26 144 [.ref s] h (fun o h' => o = .returned none ∧ h'.1 = h.1 + 26 ∧ (∀ a, a < h.1 → a ≠ s → h'.2 a = h.2 a) ∧ h'.2 s = .inr (3, [.ref h.1, .ref (h.1 + 1), .int 0]) ∧ h'.2 h.1 = kIa 24 (fun _ => 0) ∧ h'.2 (h.1 + 1) = kQa 6 24 (fun j => if j < 24 then some (h.1 + 2 + j) else none) ∧ ∀ i, i < 24 → h'.2 (h.1 + 2 + i) = kIa 4 (fun _ => 0)) := by
  have hsl := hs.2.1
  refine kx_in (by decide +kernel) (Nat.le_of_ble_eq_true rfl) hst ?_
  refine kx_rn dS_init 1 1 [(0, .ref s)] [.ref s] rfl ?_
  refine cS_3 rfl (kx_tk_dec rfl dS_init) (Nat.le_of_ble_eq_true rfl) ?_
  refine kx_rn dS_init 2 7 [(0, .ref s)] [.int 24, .ref s] rfl ?_
  refine kx_nwi (kc := 25) (ks := 120) (N := 24) (by decide) rfl (by decide) (kx_tk_dec rfl dS_init) ?_
  refine qS_9 rfl rfl (kx_tk_dec rfl dS_init) (kx_is_new hs) rfl rfl (Nat.le_of_ble_eq_true rfl) ?_
  refine kx_rn dS_init 3 16 [(0, .ref s)] [.int 4, .int 24, .ref s] rfl ?_
  refine uS_15 (kc := 0) (ks := 0) (N := 24) (K := 4) rfl (kx_tk_dec rfl dS_init) (by decide) (by decide) rfl rfl (by decide) (by decide) ?_
  obtain ⟨hm, hhm⟩ : ∃ hm, hm = kx_mh (kx_set (kx_new h (kIa 24 (fun _ => 0))) s (.inr (3, [.ref h.1, .null, .int 0]))) 6 0 24 4 := ⟨_, rfl⟩
  have m1 : hm.1 = h.1 + 26 := by rw [hhm]; rfl
  have m2 : hm.2 (h.1 + 1) = kQa 6 24 (fun j => if j < 24 then some (h.1 + 2 + j) else none) := by
    rw [hhm]
    show (if h.1 + 1 = h.1 + 1 then _ else _) = _
    rw [if_pos rfl]; rfl
  have m3 : ∀ i, i < 24 → hm.2 (h.1 + 2 + i) = kIa 4 (fun _ => 0) := fun i hi => by
    rw [hhm]
    show (if h.1 + 2 + i = h.1 + 1 then _ else if h.1 + 1 < h.1 + 2 + i ∧ h.1 + 2 + i ≤ h.1 + 1 + 24 then _ else _) = _
    rw [if_neg (by omega), if_pos (by omega)]
  have m4 : ∀ a, a < h.1 + 1 → hm.2 a = ((kx_set (kx_new h (kIa 24 (fun _ => 0))) s (.inr (3, [.ref h.1, .null, .int 0])))).2 a := fun a ha => by
    rw [hhm]
    show (if a = h.1 + 1 then _ else if h.1 + 1 < a ∧ a ≤ h.1 + 1 + 24 then _ else _) = _
    rw [if_neg (by omega), if_neg (by omega)]
  refine kx_heq (show _ = hm from hhm.symm) ?_
  have hs2 : kx_is G hm s (.inr (3, [.ref h.1, .null, .int 0])) := ⟨hs.1, by omega, by
    rw [m4 s (by omega)]
    exact va_up_self _ _ _⟩
  refine qS_17 rfl rfl (kx_tk_dec rfl dS_init) hs2 rfl rfl (Nat.le_of_ble_eq_true rfl) ?_
  refine kx_rn dS_init 2 25 [(0, .ref s)] [.int 0, .ref s] rfl ?_
  refine qS_20 rfl (kx_tk_dec rfl dS_init) (kx_is_eq hs2) rfl rfl (Nat.le_of_ble_eq_true rfl) ?_
  refine kx_retv (kx_tk_dec rfl dS_init) rfl ?_
  refine ⟨rfl, m1, fun a ha hne => ?_, ?_, ?_, ?_, fun i hi => ?_⟩
  · show va_up (va_up (hm.2) (s) _) (s) _ a = _
    rw [va_up_ne _ _ (by omega), va_up_ne _ _ (by omega)]
    rw [m4 a (by omega)]
    show va_up (va_up (h.2) (h.1) _) (s) _ a = _
    rw [va_up_ne _ _ (by omega), va_up_ne _ _ (by omega)]
  · show va_up (va_up (hm.2) (s) _) (s) _ s = _
    exact va_up_self _ _ _
  · show va_up (va_up (hm.2) (s) _) (s) _ h.1 = _
    rw [va_up_ne _ _ (by omega), va_up_ne _ _ (by omega)]
    rw [m4 h.1 (by omega)]
    show va_up (va_up (h.2) (h.1) _) (s) _ h.1 = _
    rw [va_up_ne _ _ (by omega)]
    exact va_up_self _ _ _
  · show va_up (va_up (hm.2) (s) _) (s) _ (h.1 + 1) = _
    rw [va_up_ne _ _ (by omega), va_up_ne _ _ (by omega)]
    exact m2
  · show va_up (va_up (hm.2) (s) _) (s) _ (h.1 + 2 + i) = _
    rw [va_up_ne _ _ (by omega), va_up_ne _ _ (by omega)]
    exact m3 i hi
/-- the addresses of a new one -/
def ad0 (v b : Nat) (σ : cR) : Nat := if σ.1 = 0 then v else if σ.1 = 1 then b else if σ.1 = 2 then b + 1 else if σ.1 = 3 then b + 2 else if σ.1 = 4 then b + 3 else if σ.1 = 7 then b + 4 else if σ.1 = 8 then b + 5 else if σ.1 = 9 then b + 6 else if σ.1 = 5 then b + 7 else if σ.1 = 10 then b + 8 + 27 * σ.2 else if σ.1 = 11 then b + 9 + 27 * σ.2 else if σ.1 = 12 then b + 10 + 27 * σ.2 else if σ.1 = 13 then b + 11 + σ.2 + 3 * (σ.2 / 24) else b + 62
def z0 (v b : Nat) : cZ := (ad0 v b, fun σ j => if σ.1 = 0 ∧ j = 4 then -1 else 0, fun _ _ => 0, fun _ => false, fun _ => 0, fun i => decide (i = 0), fun _ => 0, 0)
theorem z0_wf (v b : Nat) : cWf (z0 v b) := ⟨fun _ => Or.inl rfl, fun _ => (by show 0 < 256; omega), fun _ h => absurd rfl h, rfl, (by show 0 < 2; omega), (fun _ h => by cases h), (fun i h => by have : i = 0 := of_decide_eq_true h; omega), fun _ => (by show 0 < 4; omega)⟩
theorem z0_lv {v b : Nat} {σ : cR} (h : lvZ (z0 v b) σ) : (σ.1 ≤ 6 ∧ σ.2 = 0) ∨ ((σ.1 = 7 ∨ σ.1 = 8 ∨ σ.1 = 9) ∧ σ.2 = 0) ∨ ((σ.1 = 10 ∨ σ.1 = 11 ∨ σ.1 = 12) ∧ σ.2 < 2) ∨ (σ.1 = 13 ∧ σ.2 < 48) := by
  obtain ⟨t, i⟩ := σ
  show (t ≤ 6 ∧ i = 0) ∨ ((t = 7 ∨ t = 8 ∨ t = 9) ∧ i = 0) ∨ ((t = 10 ∨ t = 11 ∨ t = 12) ∧ i < 2) ∨ (t = 13 ∧ i < 48)
  rcases lv_cs h with e | e | e | e | e | e | e | e | e | e | e | e | e | e | e | e | e | e | e | e <;> (replace e : t = _ := e; subst e)
  · have : i = 0 := h; omega
  · have : i = 0 := h; omega
  · have : i = 0 := h; omega
  · have : i = 0 := h; omega
  · have : i = 0 := h; omega
  · have : i = 0 := h; omega
  · have : i = 0 := h; omega
  · have : i = 0 := of_decide_eq_true h.2; omega
  · have : i = 0 := of_decide_eq_true h.2; omega
  · have : i = 0 := of_decide_eq_true h.2; omega
  · have : i < 2 := h; omega
  · have : i < 2 := h; omega
  · have : i < 2 := h; omega
  · have : i < 48 := h; omega
  · exact absurd h.2 (by show ¬ (false = true); decide)
  · exact absurd h.2 (by show ¬ (false = true); decide)
  · exact absurd h.2 (by show ¬ (false = true); decide)
  · exact absurd h.2 (by show ¬ (false = true); decide)
  · exact absurd rfl h
  · exact absurd rfl h
theorem z0_inj {v b : Nat} (hv : v < b) {σ τ : cR} (h1 : lvZ (z0 v b) σ) (h2 : lvZ (z0 v b) τ) (h3 : (z0 v b).ad σ = (z0 v b).ad τ) : σ = τ := by
  have g1 := z0_lv h1
  have g2 := z0_lv h2
  obtain ⟨t, i⟩ := σ
  obtain ⟨u, j⟩ := τ
  replace g1 : (t ≤ 6 ∧ i = 0) ∨ ((t = 7 ∨ t = 8 ∨ t = 9) ∧ i = 0) ∨ ((t = 10 ∨ t = 11 ∨ t = 12) ∧ i < 2) ∨ (t = 13 ∧ i < 48) := g1
  replace g2 : (u ≤ 6 ∧ j = 0) ∨ ((u = 7 ∨ u = 8 ∨ u = 9) ∧ j = 0) ∨ ((u = 10 ∨ u = 11 ∨ u = 12) ∧ j < 2) ∨ (u = 13 ∧ j < 48) := g2
  replace h3 : ad0 v b (t, i) = ad0 v b (u, j) := h3
  have ev : ∀ t i, ad0 v b (t, i) = if t = 0 then v else if t = 1 then b else if t = 2 then b + 1 else if t = 3 then b + 2 else if t = 4 then b + 3 else if t = 7 then b + 4 else if t = 8 then b + 5 else if t = 9 then b + 6 else if t = 5 then b + 7 else if t = 10 then b + 8 + 27 * i else if t = 11 then b + 9 + 27 * i else if t = 12 then b + 10 + 27 * i else if t = 13 then b + 11 + i + 3 * (i / 24) else b + 62 := fun t i => rfl
  rw [ev t i, ev u j] at h3
  have : t = u ∧ i = j := by
    have c1 : t = 0 ∨ t = 1 ∨ t = 2 ∨ t = 3 ∨ t = 4 ∨ t = 5 ∨ t = 6 ∨ t = 7 ∨ t = 8 ∨ t = 9 ∨ t = 10 ∨ t = 11 ∨ t = 12 ∨ t = 13 := by omega
    have c2 : u = 0 ∨ u = 1 ∨ u = 2 ∨ u = 3 ∨ u = 4 ∨ u = 5 ∨ u = 6 ∨ u = 7 ∨ u = 8 ∨ u = 9 ∨ u = 10 ∨ u = 11 ∨ u = 12 ∨ u = 13 := by omega
    rcases c1 with e | e | e | e | e | e | e | e | e | e | e | e | e | e <;> subst e <;> rcases c2 with e | e | e | e | e | e | e | e | e | e | e | e | e | e <;> subst e <;> simp at h3 <;> omega
  rw [this.1, this.2]
end KC46
