/-! ===== a new reference ===== -/
section KM17
variable {G : kx_G} {l : Launch} {M : kx_M} {d : Nat} {Q : Outcome → kx_H → Prop} {kc ks pc : Nat} {lv : kx_L} {st : List Value} {h : kx_H} {m : Nat}
theorem kW_ai : Cond.arrayClass .int ∈ kx_ws := kx_all (l := [Cond.arrayClass .int]) (by decide +kernel) _ (List.mem_singleton.mpr rfl)
theorem kW_az : Cond.arrayClass .boolean ∈ kx_ws := kx_all (l := [Cond.arrayClass .boolean]) (by decide +kernel) _ (List.mem_singleton.mpr rfl)
theorem kx_nwi {n : Int32} {N : Nat} (hn : ¬ n < 0) (hN : n.toNatClampNeg = N) (hby : N ≤ 100000) (hd : decode M.2.1 pc = .ok (.newarray .int, 2)) (kk : kx_w G l M d Q kc ks (pc + 2) lv (.ref h.1 :: st) (kx_new h (.inl (0, N, .inl (fun _ => 0))))) : kx_w G l M d Q (kc + 1) (ks + N) pc lv (.int n :: st) h := kx_newi (t := 0) (ty := .int) rfl rfl kW_ai ⟨rfl, rfl⟩ (fun cA => by rw [vp_cell_i]; rfl) hn hN (by show N * 4 ≤ _; omega) hd kk
theorem kx_nwz {n : Int32} {N : Nat} (hn : ¬ n < 0) (hN : n.toNatClampNeg = N) (hby : N ≤ 100000) (hd : decode M.2.1 pc = .ok (.newarray .boolean, 2)) (kk : kx_w G l M d Q kc ks (pc + 2) lv (.ref h.1 :: st) (kx_new h (.inl (7, N, .inl (fun _ => 0))))) : kx_w G l M d Q (kc + 1) (ks + N) pc lv (.int n :: st) h := kx_newi (t := 7) (ty := .boolean) rfl rfl kW_az ⟨rfl, rfl⟩ (fun cA => by rw [vp_cell_i]; rfl) hn hN (by show N * 1 ≤ _; omega) hd kk
def mS0 : Nat → Int32 := va_up (fun _ => 0) 11 (-1)
def mA0 : Nat → Nat → Int32 := fun _ _ => 0
/-- a reference under way -/
def mHp (h : kx_H) (m : Nat) (fs : List Value) (j : Nat) : kx_H := (m + 1 + j, fun a => if a = m then .inr (8, fs) else if m < a ∧ a ≤ m + j then mC m mS0 mA0 (a - m) else h.2 a)
theorem mHp_new (fs : List Value) (j : Nat) {c : kx_C} (hc : c = mC m mS0 mA0 (j + 1)) : kx_new (mHp h m fs j) c = mHp h m fs (j + 1) := by
  refine Prod.ext rfl ?_
  funext a
  show va_up _ (m + 1 + j) _ a = _
  simp only [va_up, mHp]
  by_cases e : a = m + 1 + j
  · rw [if_pos e, if_neg (show ¬ a = m by omega), if_pos (show m < a ∧ a ≤ m + (j + 1) by omega), hc, show a - m = j + 1 by omega]
  · rw [if_neg e]
    by_cases e1 : a = m
    · rw [if_pos e1, if_pos e1]
    · rw [if_neg e1, if_neg e1]
      by_cases e2 : m < a ∧ a ≤ m + j
      · rw [if_pos e2, if_pos (by omega)]
      · rw [if_neg e2, if_neg (by omega)]
theorem mHp_set {fs' : List Value} (fs : List Value) (j : Nat) : kx_set (mHp h m fs j) m (.inr (8, fs')) = mHp h m fs' j := by
  refine Prod.ext rfl ?_
  funext a
  show va_up _ m _ a = _
  simp only [va_up, mHp]
  by_cases e1 : a = m
  · rw [if_pos e1, if_pos e1]
  · rw [if_neg e1, if_neg e1, if_neg e1]
theorem mHp_is (hG : G.1 ≤ m) (fs : List Value) (j : Nat) : kx_is G (mHp h m fs j) m (.inr (8, fs)) := ⟨hG, by show m < m + 1 + j; omega, if_pos rfl⟩
theorem mHp_end : mHp h m (mF m mS0) 18 = mH (m + 19, h.2) m mS0 mA0 := by
  refine Prod.ext rfl ?_
  funext a
  simp only [mHp, mH]
  by_cases e1 : a = m
  · rw [if_pos e1, if_pos (by omega), e1, Nat.sub_self]; rfl
  · rw [if_neg e1]
    by_cases e2 : m < a ∧ a ≤ m + 18
    · rw [if_pos e2, if_pos (by omega)]
    · rw [if_neg e2, if_neg (by omega)]
def mF0 : List Value := [.int 0, .null, .null, .null, .null, .null, .null, .int 0, .int 0, .null, .int 0, .int 0, .null, .null, .null, .null, .null, .int 0, .int 0, .int 0, .int 0, .null, .int 0, .null, .null, .int 0, .null, .null, .null]
theorem mHp_start (h1 : h.1 = m + 1) (h2 : h.2 m = .inr (8, mF0)) : h = mHp h m mF0 0 := by
  refine Prod.ext h1 ?_
  funext a
  simp only [mHp]
  by_cases e1 : a = m
  · rw [if_pos e1, e1, h2]
  · rw [if_neg e1, if_neg (by omega)]
set_option maxRecDepth 100000 in
theorem cM_init (hst : l.stackTraces = false) (hG : G.1 ≤ m) (h1 : h.1 = m + 1) (h2 : h.2 m = .inr (8, mF0)) :
    kx_c G l mM_init d 18 15124 [.ref m] h (fun o h' => o = .returned none ∧ h' = mH (m + 19, h.2) m mS0 mA0) := by
  refine kx_in (by decide +kernel) (Nat.le_of_ble_eq_true rfl) hst ?_
  refine kx_heq (mHp_start h1 h2) ?_
  refine kx_rn dM_init 1 1 [(0, .ref m)] [.ref m] rfl ?_
  refine cM_1 rfl (kx_tk_dec rfl dM_init) (Nat.le_of_ble_eq_true rfl) ?_
  refine kx_rn dM_init 2 6 [(0, .ref m)] [.int 3, .ref m] rfl ?_
  refine kx_nwi (kc := 17) (ks := 15121) (N := 3) (by decide) rfl (by decide) (kx_tk_dec rfl dM_init) ?_
  refine kx_heq (mHp_new mF0 0 rfl) ?_
  refine qM_7 (v := .ref (m + 1)) rfl rfl (kx_tk_dec rfl dM_init) (mHp_is hG _ _) rfl rfl (Nat.le_of_ble_eq_true rfl) ?_
  refine kx_heq (mHp_set (fs' := [.int 0, .ref (m + 1), .null, .null, .null, .null, .null, .int 0, .int 0, .null, .int 0, .int 0, .null, .null, .null, .null, .null, .int 0, .int 0, .int 0, .int 0, .null, .int 0, .null, .null, .int 0, .null, .null, .null]) _ _) ?_
  refine kx_rn dM_init 2 13 [(0, .ref m)] [.int 3, .ref m] rfl ?_
  refine kx_nwi (kc := 16) (ks := 15118) (N := 3) (by decide) rfl (by decide) (kx_tk_dec rfl dM_init) ?_
  refine kx_heq (mHp_new ([.int 0, .ref (m + 1), .null, .null, .null, .null, .null, .int 0, .int 0, .null, .int 0, .int 0, .null, .null, .null, .null, .null, .int 0, .int 0, .int 0, .int 0, .null, .int 0, .null, .null, .int 0, .null, .null, .null]) 1 rfl) ?_
  refine qM_13 (v := .ref (m + 2)) rfl rfl (kx_tk_dec rfl dM_init) (mHp_is hG _ _) rfl rfl (Nat.le_of_ble_eq_true rfl) ?_
  refine kx_heq (mHp_set (fs' := [.int 0, .ref (m + 1), .ref (m + 2), .null, .null, .null, .null, .int 0, .int 0, .null, .int 0, .int 0, .null, .null, .null, .null, .null, .int 0, .int 0, .int 0, .int 0, .null, .int 0, .null, .null, .int 0, .null, .null, .null]) _ _) ?_
  refine kx_rn dM_init 2 20 [(0, .ref m)] [.int 3, .ref m] rfl ?_
  refine kx_nwi (kc := 15) (ks := 15115) (N := 3) (by decide) rfl (by decide) (kx_tk_dec rfl dM_init) ?_
  refine kx_heq (mHp_new ([.int 0, .ref (m + 1), .ref (m + 2), .null, .null, .null, .null, .int 0, .int 0, .null, .int 0, .int 0, .null, .null, .null, .null, .null, .int 0, .int 0, .int 0, .int 0, .null, .int 0, .null, .null, .int 0, .null, .null, .null]) 2 rfl) ?_
  refine qM_16 (v := .ref (m + 3)) rfl rfl (kx_tk_dec rfl dM_init) (mHp_is hG _ _) rfl rfl (Nat.le_of_ble_eq_true rfl) ?_
  refine kx_heq (mHp_set (fs' := [.int 0, .ref (m + 1), .ref (m + 2), .ref (m + 3), .null, .null, .null, .int 0, .int 0, .null, .int 0, .int 0, .null, .null, .null, .null, .null, .int 0, .int 0, .int 0, .int 0, .null, .int 0, .null, .null, .int 0, .null, .null, .null]) _ _) ?_
  refine kx_rn dM_init 2 29 [(0, .ref m)] [.int 2880, .ref m] rfl ?_
  refine kx_nwi (kc := 14) (ks := 12235) (N := 2880) (by decide) rfl (by decide) (kx_tk_dec rfl dM_init) ?_
  refine kx_heq (mHp_new ([.int 0, .ref (m + 1), .ref (m + 2), .ref (m + 3), .null, .null, .null, .int 0, .int 0, .null, .int 0, .int 0, .null, .null, .null, .null, .null, .int 0, .int 0, .int 0, .int 0, .null, .int 0, .null, .null, .int 0, .null, .null, .null]) 3 rfl) ?_
  refine qM_19 (v := .ref (m + 4)) rfl rfl (kx_tk_dec rfl dM_init) (mHp_is hG _ _) rfl rfl (Nat.le_of_ble_eq_true rfl) ?_
  refine kx_heq (mHp_set (fs' := [.int 0, .ref (m + 1), .ref (m + 2), .ref (m + 3), .ref (m + 4), .null, .null, .int 0, .int 0, .null, .int 0, .int 0, .null, .null, .null, .null, .null, .int 0, .int 0, .int 0, .int 0, .null, .int 0, .null, .null, .int 0, .null, .null, .null]) _ _) ?_
  refine kx_rn dM_init 2 38 [(0, .ref m)] [.int 11520, .ref m] rfl ?_
  refine kx_nwi (kc := 13) (ks := 715) (N := 11520) (by decide) rfl (by decide) (kx_tk_dec rfl dM_init) ?_
  refine kx_heq (mHp_new ([.int 0, .ref (m + 1), .ref (m + 2), .ref (m + 3), .ref (m + 4), .null, .null, .int 0, .int 0, .null, .int 0, .int 0, .null, .null, .null, .null, .null, .int 0, .int 0, .int 0, .int 0, .null, .int 0, .null, .null, .int 0, .null, .null, .null]) 4 rfl) ?_
  refine qM_22 (v := .ref (m + 5)) rfl rfl (kx_tk_dec rfl dM_init) (mHp_is hG _ _) rfl rfl (Nat.le_of_ble_eq_true rfl) ?_
  refine kx_heq (mHp_set (fs' := [.int 0, .ref (m + 1), .ref (m + 2), .ref (m + 3), .ref (m + 4), .ref (m + 5), .null, .int 0, .int 0, .null, .int 0, .int 0, .null, .null, .null, .null, .null, .int 0, .int 0, .int 0, .int 0, .null, .int 0, .null, .null, .int 0, .null, .null, .null]) _ _) ?_
  refine kx_rn dM_init 2 46 [(0, .ref m)] [.int 41, .ref m] rfl ?_
  refine kx_nwi (kc := 12) (ks := 674) (N := 41) (by decide) rfl (by decide) (kx_tk_dec rfl dM_init) ?_
  refine kx_heq (mHp_new ([.int 0, .ref (m + 1), .ref (m + 2), .ref (m + 3), .ref (m + 4), .ref (m + 5), .null, .int 0, .int 0, .null, .int 0, .int 0, .null, .null, .null, .null, .null, .int 0, .int 0, .int 0, .int 0, .null, .int 0, .null, .null, .int 0, .null, .null, .null]) 5 rfl) ?_
  refine qM_25 (v := .ref (m + 6)) rfl rfl (kx_tk_dec rfl dM_init) (mHp_is hG _ _) rfl rfl (Nat.le_of_ble_eq_true rfl) ?_
  refine kx_heq (mHp_set (fs' := [.int 0, .ref (m + 1), .ref (m + 2), .ref (m + 3), .ref (m + 4), .ref (m + 5), .ref (m + 6), .int 0, .int 0, .null, .int 0, .int 0, .null, .null, .null, .null, .null, .int 0, .int 0, .int 0, .int 0, .null, .int 0, .null, .null, .int 0, .null, .null, .null]) _ _) ?_
  refine kx_rn dM_init 2 54 [(0, .ref m)] [.int 40, .ref m] rfl ?_
  refine kx_nwi (kc := 11) (ks := 634) (N := 40) (by decide) rfl (by decide) (kx_tk_dec rfl dM_init) ?_
  refine kx_heq (mHp_new ([.int 0, .ref (m + 1), .ref (m + 2), .ref (m + 3), .ref (m + 4), .ref (m + 5), .ref (m + 6), .int 0, .int 0, .null, .int 0, .int 0, .null, .null, .null, .null, .null, .int 0, .int 0, .int 0, .int 0, .null, .int 0, .null, .null, .int 0, .null, .null, .null]) 6 rfl) ?_
  refine qM_28 (v := .ref (m + 7)) rfl rfl (kx_tk_dec rfl dM_init) (mHp_is hG _ _) rfl rfl (Nat.le_of_ble_eq_true rfl) ?_
  refine kx_heq (mHp_set (fs' := [.int 0, .ref (m + 1), .ref (m + 2), .ref (m + 3), .ref (m + 4), .ref (m + 5), .ref (m + 6), .int 0, .int 0, .ref (m + 7), .int 0, .int 0, .null, .null, .null, .null, .null, .int 0, .int 0, .int 0, .int 0, .null, .int 0, .null, .null, .int 0, .null, .null, .null]) _ _) ?_
  refine kx_rn dM_init 2 61 [(0, .ref m)] [.int (-1), .ref m] rfl ?_
  refine qM_31 (v := .int (-1)) rfl (kx_tk_dec rfl dM_init) (mHp_is hG _ _) rfl rfl (Nat.le_of_ble_eq_true rfl) ?_
  refine kx_heq (mHp_set (fs' := [.int 0, .ref (m + 1), .ref (m + 2), .ref (m + 3), .ref (m + 4), .ref (m + 5), .ref (m + 6), .int 0, .int 0, .ref (m + 7), .int 0, .int (-1), .null, .null, .null, .null, .null, .int 0, .int 0, .int 0, .int 0, .null, .int 0, .null, .null, .int 0, .null, .null, .null]) _ _) ?_
  refine kx_rn dM_init 2 68 [(0, .ref m)] [.int 264, .ref m] rfl ?_
  refine kx_nwi (kc := 10) (ks := 370) (N := 264) (by decide) rfl (by decide) (kx_tk_dec rfl dM_init) ?_
  refine kx_heq (mHp_new ([.int 0, .ref (m + 1), .ref (m + 2), .ref (m + 3), .ref (m + 4), .ref (m + 5), .ref (m + 6), .int 0, .int 0, .ref (m + 7), .int 0, .int (-1), .null, .null, .null, .null, .null, .int 0, .int 0, .int 0, .int 0, .null, .int 0, .null, .null, .int 0, .null, .null, .null]) 7 rfl) ?_
  refine qM_35 (v := .ref (m + 8)) rfl rfl (kx_tk_dec rfl dM_init) (mHp_is hG _ _) rfl rfl (Nat.le_of_ble_eq_true rfl) ?_
  refine kx_heq (mHp_set (fs' := [.int 0, .ref (m + 1), .ref (m + 2), .ref (m + 3), .ref (m + 4), .ref (m + 5), .ref (m + 6), .int 0, .int 0, .ref (m + 7), .int 0, .int (-1), .ref (m + 8), .null, .null, .null, .null, .int 0, .int 0, .int 0, .int 0, .null, .int 0, .null, .null, .int 0, .null, .null, .null]) _ _) ?_
  refine kx_rn dM_init 2 76 [(0, .ref m)] [.int 6, .ref m] rfl ?_
  refine kx_nwi (kc := 9) (ks := 364) (N := 6) (by decide) rfl (by decide) (kx_tk_dec rfl dM_init) ?_
  refine kx_heq (mHp_new ([.int 0, .ref (m + 1), .ref (m + 2), .ref (m + 3), .ref (m + 4), .ref (m + 5), .ref (m + 6), .int 0, .int 0, .ref (m + 7), .int 0, .int (-1), .ref (m + 8), .null, .null, .null, .null, .int 0, .int 0, .int 0, .int 0, .null, .int 0, .null, .null, .int 0, .null, .null, .null]) 8 rfl) ?_
  refine qM_38 (v := .ref (m + 9)) rfl rfl (kx_tk_dec rfl dM_init) (mHp_is hG _ _) rfl rfl (Nat.le_of_ble_eq_true rfl) ?_
  refine kx_heq (mHp_set (fs' := [.int 0, .ref (m + 1), .ref (m + 2), .ref (m + 3), .ref (m + 4), .ref (m + 5), .ref (m + 6), .int 0, .int 0, .ref (m + 7), .int 0, .int (-1), .ref (m + 8), .ref (m + 9), .null, .null, .null, .int 0, .int 0, .int 0, .int 0, .null, .int 0, .null, .null, .int 0, .null, .null, .null]) _ _) ?_
  refine kx_rn dM_init 2 83 [(0, .ref m)] [.int 4, .ref m] rfl ?_
  refine kx_nwz (kc := 8) (ks := 360) (N := 4) (by decide) rfl (by decide) (kx_tk_dec rfl dM_init) ?_
  refine kx_heq (mHp_new ([.int 0, .ref (m + 1), .ref (m + 2), .ref (m + 3), .ref (m + 4), .ref (m + 5), .ref (m + 6), .int 0, .int 0, .ref (m + 7), .int 0, .int (-1), .ref (m + 8), .ref (m + 9), .null, .null, .null, .int 0, .int 0, .int 0, .int 0, .null, .int 0, .null, .null, .int 0, .null, .null, .null]) 9 rfl) ?_
  refine qM_41 (v := .ref (m + 10)) rfl rfl (kx_tk_dec rfl dM_init) (mHp_is hG _ _) rfl rfl (Nat.le_of_ble_eq_true rfl) ?_
  refine kx_heq (mHp_set (fs' := [.int 0, .ref (m + 1), .ref (m + 2), .ref (m + 3), .ref (m + 4), .ref (m + 5), .ref (m + 6), .int 0, .int 0, .ref (m + 7), .int 0, .int (-1), .ref (m + 8), .ref (m + 9), .ref (m + 10), .null, .null, .int 0, .int 0, .int 0, .int 0, .null, .int 0, .null, .null, .int 0, .null, .null, .null]) _ _) ?_
  refine kx_rn dM_init 2 91 [(0, .ref m)] [.int 8, .ref m] rfl ?_
  refine kx_nwi (kc := 7) (ks := 352) (N := 8) (by decide) rfl (by decide) (kx_tk_dec rfl dM_init) ?_
  refine kx_heq (mHp_new ([.int 0, .ref (m + 1), .ref (m + 2), .ref (m + 3), .ref (m + 4), .ref (m + 5), .ref (m + 6), .int 0, .int 0, .ref (m + 7), .int 0, .int (-1), .ref (m + 8), .ref (m + 9), .ref (m + 10), .null, .null, .int 0, .int 0, .int 0, .int 0, .null, .int 0, .null, .null, .int 0, .null, .null, .null]) 10 rfl) ?_
  refine qM_45 (v := .ref (m + 11)) rfl rfl (kx_tk_dec rfl dM_init) (mHp_is hG _ _) rfl rfl (Nat.le_of_ble_eq_true rfl) ?_
  refine kx_heq (mHp_set (fs' := [.int 0, .ref (m + 1), .ref (m + 2), .ref (m + 3), .ref (m + 4), .ref (m + 5), .ref (m + 6), .int 0, .int 0, .ref (m + 7), .int 0, .int (-1), .ref (m + 8), .ref (m + 9), .ref (m + 10), .ref (m + 11), .null, .int 0, .int 0, .int 0, .int 0, .null, .int 0, .null, .null, .int 0, .null, .null, .null]) _ _) ?_
  refine kx_rn dM_init 2 99 [(0, .ref m)] [.int 44, .ref m] rfl ?_
  refine kx_nwi (kc := 6) (ks := 308) (N := 44) (by decide) rfl (by decide) (kx_tk_dec rfl dM_init) ?_
  refine kx_heq (mHp_new ([.int 0, .ref (m + 1), .ref (m + 2), .ref (m + 3), .ref (m + 4), .ref (m + 5), .ref (m + 6), .int 0, .int 0, .ref (m + 7), .int 0, .int (-1), .ref (m + 8), .ref (m + 9), .ref (m + 10), .ref (m + 11), .null, .int 0, .int 0, .int 0, .int 0, .null, .int 0, .null, .null, .int 0, .null, .null, .null]) 11 rfl) ?_
  refine qM_48 (v := .ref (m + 12)) rfl rfl (kx_tk_dec rfl dM_init) (mHp_is hG _ _) rfl rfl (Nat.le_of_ble_eq_true rfl) ?_
  refine kx_heq (mHp_set (fs' := [.int 0, .ref (m + 1), .ref (m + 2), .ref (m + 3), .ref (m + 4), .ref (m + 5), .ref (m + 6), .int 0, .int 0, .ref (m + 7), .int 0, .int (-1), .ref (m + 8), .ref (m + 9), .ref (m + 10), .ref (m + 11), .ref (m + 12), .int 0, .int 0, .int 0, .int 0, .null, .int 0, .null, .null, .int 0, .null, .null, .null]) _ _) ?_
  refine kx_rn dM_init 2 107 [(0, .ref m)] [.int 44, .ref m] rfl ?_
  refine kx_nwi (kc := 5) (ks := 264) (N := 44) (by decide) rfl (by decide) (kx_tk_dec rfl dM_init) ?_
  refine kx_heq (mHp_new ([.int 0, .ref (m + 1), .ref (m + 2), .ref (m + 3), .ref (m + 4), .ref (m + 5), .ref (m + 6), .int 0, .int 0, .ref (m + 7), .int 0, .int (-1), .ref (m + 8), .ref (m + 9), .ref (m + 10), .ref (m + 11), .ref (m + 12), .int 0, .int 0, .int 0, .int 0, .null, .int 0, .null, .null, .int 0, .null, .null, .null]) 12 rfl) ?_
  refine qM_51 (v := .ref (m + 13)) rfl rfl (kx_tk_dec rfl dM_init) (mHp_is hG _ _) rfl rfl (Nat.le_of_ble_eq_true rfl) ?_
  refine kx_heq (mHp_set (fs' := [.int 0, .ref (m + 1), .ref (m + 2), .ref (m + 3), .ref (m + 4), .ref (m + 5), .ref (m + 6), .int 0, .int 0, .ref (m + 7), .int 0, .int (-1), .ref (m + 8), .ref (m + 9), .ref (m + 10), .ref (m + 11), .ref (m + 12), .int 0, .int 0, .int 0, .int 0, .ref (m + 13), .int 0, .null, .null, .int 0, .null, .null, .null]) _ _) ?_
  refine kx_rn dM_init 2 115 [(0, .ref m)] [.int 24, .ref m] rfl ?_
  refine kx_nwi (kc := 4) (ks := 240) (N := 24) (by decide) rfl (by decide) (kx_tk_dec rfl dM_init) ?_
  refine kx_heq (mHp_new ([.int 0, .ref (m + 1), .ref (m + 2), .ref (m + 3), .ref (m + 4), .ref (m + 5), .ref (m + 6), .int 0, .int 0, .ref (m + 7), .int 0, .int (-1), .ref (m + 8), .ref (m + 9), .ref (m + 10), .ref (m + 11), .ref (m + 12), .int 0, .int 0, .int 0, .int 0, .ref (m + 13), .int 0, .null, .null, .int 0, .null, .null, .null]) 13 rfl) ?_
  refine qM_54 (v := .ref (m + 14)) rfl rfl (kx_tk_dec rfl dM_init) (mHp_is hG _ _) rfl rfl (Nat.le_of_ble_eq_true rfl) ?_
  refine kx_heq (mHp_set (fs' := [.int 0, .ref (m + 1), .ref (m + 2), .ref (m + 3), .ref (m + 4), .ref (m + 5), .ref (m + 6), .int 0, .int 0, .ref (m + 7), .int 0, .int (-1), .ref (m + 8), .ref (m + 9), .ref (m + 10), .ref (m + 11), .ref (m + 12), .int 0, .int 0, .int 0, .int 0, .ref (m + 13), .int 0, .ref (m + 14), .null, .int 0, .null, .null, .null]) _ _) ?_
  refine kx_rn dM_init 2 123 [(0, .ref m)] [.int 96, .ref m] rfl ?_
  refine kx_nwi (kc := 3) (ks := 144) (N := 96) (by decide) rfl (by decide) (kx_tk_dec rfl dM_init) ?_
  refine kx_heq (mHp_new ([.int 0, .ref (m + 1), .ref (m + 2), .ref (m + 3), .ref (m + 4), .ref (m + 5), .ref (m + 6), .int 0, .int 0, .ref (m + 7), .int 0, .int (-1), .ref (m + 8), .ref (m + 9), .ref (m + 10), .ref (m + 11), .ref (m + 12), .int 0, .int 0, .int 0, .int 0, .ref (m + 13), .int 0, .ref (m + 14), .null, .int 0, .null, .null, .null]) 14 rfl) ?_
  refine qM_57 (v := .ref (m + 15)) rfl rfl (kx_tk_dec rfl dM_init) (mHp_is hG _ _) rfl rfl (Nat.le_of_ble_eq_true rfl) ?_
  refine kx_heq (mHp_set (fs' := [.int 0, .ref (m + 1), .ref (m + 2), .ref (m + 3), .ref (m + 4), .ref (m + 5), .ref (m + 6), .int 0, .int 0, .ref (m + 7), .int 0, .int (-1), .ref (m + 8), .ref (m + 9), .ref (m + 10), .ref (m + 11), .ref (m + 12), .int 0, .int 0, .int 0, .int 0, .ref (m + 13), .int 0, .ref (m + 14), .ref (m + 15), .int 0, .null, .null, .null]) _ _) ?_
  refine kx_rn dM_init 2 131 [(0, .ref m)] [.int 24, .ref m] rfl ?_
  refine kx_nwi (kc := 2) (ks := 120) (N := 24) (by decide) rfl (by decide) (kx_tk_dec rfl dM_init) ?_
  refine kx_heq (mHp_new ([.int 0, .ref (m + 1), .ref (m + 2), .ref (m + 3), .ref (m + 4), .ref (m + 5), .ref (m + 6), .int 0, .int 0, .ref (m + 7), .int 0, .int (-1), .ref (m + 8), .ref (m + 9), .ref (m + 10), .ref (m + 11), .ref (m + 12), .int 0, .int 0, .int 0, .int 0, .ref (m + 13), .int 0, .ref (m + 14), .ref (m + 15), .int 0, .null, .null, .null]) 15 rfl) ?_
  refine qM_60 (v := .ref (m + 16)) rfl rfl (kx_tk_dec rfl dM_init) (mHp_is hG _ _) rfl rfl (Nat.le_of_ble_eq_true rfl) ?_
  refine kx_heq (mHp_set (fs' := [.int 0, .ref (m + 1), .ref (m + 2), .ref (m + 3), .ref (m + 4), .ref (m + 5), .ref (m + 6), .int 0, .int 0, .ref (m + 7), .int 0, .int (-1), .ref (m + 8), .ref (m + 9), .ref (m + 10), .ref (m + 11), .ref (m + 12), .int 0, .int 0, .int 0, .int 0, .ref (m + 13), .int 0, .ref (m + 14), .ref (m + 15), .int 0, .ref (m + 16), .null, .null]) _ _) ?_
  refine kx_rn dM_init 2 139 [(0, .ref m)] [.int 96, .ref m] rfl ?_
  refine kx_nwi (kc := 1) (ks := 24) (N := 96) (by decide) rfl (by decide) (kx_tk_dec rfl dM_init) ?_
  refine kx_heq (mHp_new ([.int 0, .ref (m + 1), .ref (m + 2), .ref (m + 3), .ref (m + 4), .ref (m + 5), .ref (m + 6), .int 0, .int 0, .ref (m + 7), .int 0, .int (-1), .ref (m + 8), .ref (m + 9), .ref (m + 10), .ref (m + 11), .ref (m + 12), .int 0, .int 0, .int 0, .int 0, .ref (m + 13), .int 0, .ref (m + 14), .ref (m + 15), .int 0, .ref (m + 16), .null, .null]) 16 rfl) ?_
  refine qM_63 (v := .ref (m + 17)) rfl rfl (kx_tk_dec rfl dM_init) (mHp_is hG _ _) rfl rfl (Nat.le_of_ble_eq_true rfl) ?_
  refine kx_heq (mHp_set (fs' := [.int 0, .ref (m + 1), .ref (m + 2), .ref (m + 3), .ref (m + 4), .ref (m + 5), .ref (m + 6), .int 0, .int 0, .ref (m + 7), .int 0, .int (-1), .ref (m + 8), .ref (m + 9), .ref (m + 10), .ref (m + 11), .ref (m + 12), .int 0, .int 0, .int 0, .int 0, .ref (m + 13), .int 0, .ref (m + 14), .ref (m + 15), .int 0, .ref (m + 16), .ref (m + 17), .null]) _ _) ?_
  refine kx_rn dM_init 2 147 [(0, .ref m)] [.int 24, .ref m] rfl ?_
  refine kx_nwz (kc := 0) (ks := 0) (N := 24) (by decide) rfl (by decide) (kx_tk_dec rfl dM_init) ?_
  refine kx_heq (mHp_new ([.int 0, .ref (m + 1), .ref (m + 2), .ref (m + 3), .ref (m + 4), .ref (m + 5), .ref (m + 6), .int 0, .int 0, .ref (m + 7), .int 0, .int (-1), .ref (m + 8), .ref (m + 9), .ref (m + 10), .ref (m + 11), .ref (m + 12), .int 0, .int 0, .int 0, .int 0, .ref (m + 13), .int 0, .ref (m + 14), .ref (m + 15), .int 0, .ref (m + 16), .ref (m + 17), .null]) 17 rfl) ?_
  refine qM_66 (v := .ref (m + 18)) rfl rfl (kx_tk_dec rfl dM_init) (mHp_is hG _ _) rfl rfl (Nat.le_of_ble_eq_true rfl) ?_
  refine kx_heq (mHp_set (fs' := [.int 0, .ref (m + 1), .ref (m + 2), .ref (m + 3), .ref (m + 4), .ref (m + 5), .ref (m + 6), .int 0, .int 0, .ref (m + 7), .int 0, .int (-1), .ref (m + 8), .ref (m + 9), .ref (m + 10), .ref (m + 11), .ref (m + 12), .int 0, .int 0, .int 0, .int 0, .ref (m + 13), .int 0, .ref (m + 14), .ref (m + 15), .int 0, .ref (m + 16), .ref (m + 17), .ref (m + 18)]) _ _) ?_
  refine kx_retv (kx_tk_dec rfl dM_init) rfl ?_
  exact ⟨rfl, mHp_end⟩
end KM17
