/-! ===== the other side: programs worked out ===== -/
section KC20
variable {G : kx_G} {l : Launch} {M : kx_M} {d : Nat} {Q : Outcome → kx_H → Prop} {kc ks pc : Nat} {lv : kx_L} {st : List Value} {h : kx_H}
theorem kx_ildN {a n i : Nat} {f : Nat → Int32} {x : Int32} (hd : decode M.2.1 pc = .ok (.iaload, 1)) (hc : kx_is G h a (.inl (0, n, .inl f))) (hi : i < n) (hn : n < 20000) (hx : f i = x) (kk : kx_w G l M d Q kc ks (pc + 1) lv (.int x :: st) h) : kx_w G l M d Q kc ks pc lv (.int (nI i) :: .ref a :: st) h := by
  refine kx_ild rfl hd hc (vp_in_nI hi (by omega)) ?_
  rw [nI_clamp (by omega), hx]
  exact kk
theorem kx_istN {a n i : Nat} {f : Nat → Int32} {x : Int32} (hd : decode M.2.1 pc = .ok (.iastore, 1)) (hc : kx_is G h a (.inl (0, n, .inl f))) (hi : i < n) (hn : n < 20000) (kk : kx_w G l M d Q kc ks (pc + 1) lv st (kx_set h a (.inl (0, n, .inl (va_up f i x))))) : kx_w G l M d Q kc ks pc lv (.int x :: .int (nI i) :: .ref a :: st) h := by
  refine kx_ist rfl hd hc (vp_in_nI hi (by omega)) ?_
  rw [nI_clamp (by omega)]
  exact kk
theorem kx_qldN {a t n i : Nat} {f : Nat → Option Nat} {x : Option Nat} {ty : FieldType} (ht : kx_at[t]? = some ty) (hrt : ty.isReference = true) (hd : decode M.2.1 pc = .ok (.aaload, 1)) (hc : kx_is G h a (.inl (t, n, .inr (.inr (.inr (.inr f)))))) (hi : i < n) (hn : n < 20000) (hx : f i = x) (kk : kx_w G l M d Q kc ks (pc + 1) lv (va_rf x :: st) h) : kx_w G l M d Q kc ks pc lv (.int (nI i) :: .ref a :: st) h := by
  refine kx_qld ht hrt hd hc (vp_in_nI hi (by omega)) ?_
  rw [nI_clamp (by omega), hx]
  exact kk
theorem kx_is_ne {a b : Nat} {c c' : kx_C} (hc : kx_is G h a c) (hne : a ≠ b) : kx_is G (kx_set h b c') a c := ⟨hc.1, hc.2.1, by show va_up _ _ _ _ = _; rw [va_up_ne _ _ hne]; exact hc.2.2⟩
theorem kx_is_eq {a : Nat} {c c' : kx_C} (hc : kx_is G h a c) : kx_is G (kx_set h a c') a c' := ⟨hc.1, hc.2.1, va_up_self _ _ _⟩
theorem kx_is_new {a : Nat} {c c' : kx_C} (hc : kx_is G h a c) : kx_is G (kx_new h c') a c := ⟨hc.1, Nat.lt_succ_of_lt hc.2.1, by show va_up _ _ _ _ = _; rw [va_up_ne _ _ (Nat.ne_of_lt hc.2.1)]; exact hc.2.2⟩
theorem kx_set_set {a : Nat} (c c' : kx_C) : kx_set (kx_set h a c) a c' = kx_set h a c' := by simp only [kx_set, va_upup]
theorem kx_set_comm {a b : Nat} (hne : a ≠ b) (c c' : kx_C) : kx_set (kx_set h a c) b c' = kx_set (kx_set h b c') a c := by
  refine Prod.ext rfl ?_
  funext q
  show va_up (va_up h.2 a c) b c' q = va_up (va_up h.2 b c') a c q
  simp only [va_up]
  by_cases e1 : q = b
  · by_cases e2 : q = a
    · exact absurd (e2.symm.trans e1) hne
    · rw [if_pos e1, if_neg e2, if_pos e1]
  · rw [if_neg e1, if_neg e1]
theorem kx_set_self {a : Nat} {c : kx_C} (hc : kx_is G h a c) : kx_set h a c = h := by
  refine Prod.ext rfl ?_
  show va_up h.2 a c = h.2
  rw [← hc.2.2, va_upsame]
/-! a program at work: its object p, its steps s, its stack k -/
abbrev pO (s k : Nat) (sz ht : Int32) : kx_C := .inr (2, [.ref s, .ref k, .int sz, .int ht])
def pH (h : kx_H) (p s k : Nat) (sz : Int32) (K : Nat → Int32) (ht : Int32) : kx_H := kx_set (kx_set h k (kIa 40 K)) p (pO s k sz ht)
/-- what stands fast while it works -/
def pFx (G : kx_G) (h : kx_H) (p s k va : Nat) (F W : Nat → Int32) : Prop := (G.1 ≤ p ∧ p < h.1) ∧ (G.1 ≤ k ∧ k < h.1) ∧ kx_is G h s (kIa 40 F) ∧ kx_is G h va (kIa 4 W) ∧ p ≠ s ∧ p ≠ k ∧ k ≠ s ∧ va ≠ p ∧ va ≠ k
theorem pFx.hp {p s k va : Nat} {F W : Nat → Int32} (b : pFx G h p s k va F W) : G.1 ≤ p ∧ p < h.1 := b.1
theorem pFx.hk {p s k va : Nat} {F W : Nat → Int32} (b : pFx G h p s k va F W) : G.1 ≤ k ∧ k < h.1 := b.2.1
theorem pFx.hs {p s k va : Nat} {F W : Nat → Int32} (b : pFx G h p s k va F W) : kx_is G h s (kIa 40 F) := b.2.2.1
theorem pFx.hv {p s k va : Nat} {F W : Nat → Int32} (b : pFx G h p s k va F W) : kx_is G h va (kIa 4 W) := b.2.2.2.1
theorem pFx.n1 {p s k va : Nat} {F W : Nat → Int32} (b : pFx G h p s k va F W) : p ≠ s := b.2.2.2.2.1
theorem pFx.n2 {p s k va : Nat} {F W : Nat → Int32} (b : pFx G h p s k va F W) : p ≠ k := b.2.2.2.2.2.1
theorem pFx.n3 {p s k va : Nat} {F W : Nat → Int32} (b : pFx G h p s k va F W) : k ≠ s := b.2.2.2.2.2.2.1
theorem pFx.n4 {p s k va : Nat} {F W : Nat → Int32} (b : pFx G h p s k va F W) : va ≠ p := b.2.2.2.2.2.2.2.1
theorem pFx.n5 {p s k va : Nat} {F W : Nat → Int32} (b : pFx G h p s k va F W) : va ≠ k := b.2.2.2.2.2.2.2.2
theorem pH_p {p s k va : Nat} {F W K : Nat → Int32} {sz ht : Int32} (b : pFx G h p s k va F W) : kx_is G (pH h p s k sz K ht) p (pO s k sz ht) := ⟨b.hp.1, b.hp.2, va_up_self _ _ _⟩
theorem pH_k {p s k va : Nat} {F W K : Nat → Int32} {sz ht : Int32} (b : pFx G h p s k va F W) : kx_is G (pH h p s k sz K ht) k (kIa 40 K) := kx_is_ne ⟨b.hk.1, b.hk.2, va_up_self _ _ _⟩ b.n2.symm
theorem pH_s {p s k va : Nat} {F W K : Nat → Int32} {sz ht : Int32} (b : pFx G h p s k va F W) : kx_is G (pH h p s k sz K ht) s (kIa 40 F) := kx_is_ne (kx_is_ne b.hs b.n3.symm) b.n1.symm
theorem pH_v {p s k va : Nat} {F W K : Nat → Int32} {sz ht : Int32} (b : pFx G h p s k va F W) : kx_is G (pH h p s k sz K ht) va (kIa 4 W) := kx_is_ne (kx_is_ne b.hv b.n5) b.n4
theorem pH_sp {p s k : Nat} {K : Nat → Int32} {sz ht ht' : Int32} : kx_set (pH h p s k sz K ht) p (pO s k sz ht') = pH h p s k sz K ht' := kx_set_set _ _
theorem pH_sk {p s k : Nat} {K K' : Nat → Int32} {sz ht : Int32} (hne : p ≠ k) : kx_set (pH h p s k sz K ht) k (kIa 40 K') = pH h p s k sz K' ht := by
  unfold pH
  rw [kx_set_comm hne, kx_set_set]
theorem pH_id {p s k : Nat} {K : Nat → Int32} {sz ht : Int32} (hp : kx_is G h p (pO s k sz ht)) (hk : kx_is G h k (kIa 40 K)) : h = pH h p s k sz K ht := by
  unfold pH
  rw [kx_set_self hk, kx_set_self hp]
/-- an item as a step -/
def cv (i : Int32) : Int32 := if i < -4 then -100 - i else if 0 ≤ i then 128 + i else 96 - i
theorem cv_num {v : Nat} (h : v < 10000) : cv (nI v) = nI (128 + v) := by
  unfold cv
  rw [if_neg (nI_n4 h), if_pos (by rw [kI_le, nI_toInt (by omega)]; have : (0 : Int32).toInt = 0 := rfl; omega)]
  exact nI_add 128 v
theorem cv_col {c : Nat} (h : c < 4) : cv (-1 - nI c) = nI (97 + c) := by
  have : c = 0 ∨ c = 1 ∨ c = 2 ∨ c = 3 := by omega
  rcases this with z | z | z | z <;> (rw [z]; rfl)
theorem col_cl {c : Nat} (h : c < 4) : (-1 - (-1 - nI c)).toNatClampNeg = c := by
  have : c = 0 ∨ c = 1 ∨ c = 2 ∨ c = 3 := by omega
  rcases this with z | z | z | z <;> (rw [z]; rfl)
theorem col_neg {c : Nat} (h : c < 4) : ¬ (0 : Int32) ≤ -1 - nI c := by
  have : c = 0 ∨ c = 1 ∨ c = 2 ∨ c = 3 := by omega
  rcases this with z | z | z | z <;> (rw [z]; decide)
theorem sg_of {c : Int32} (h : isAri c = true ∨ isCmp c = true ∨ isJn c = true) : ∃ sg, sg ∈ sgns ∧ c = nI sg := by
  rcases h with h | h | h
  · rcases isAri_cs h with z | z | z | z
    · exact ⟨43, by decide, z⟩
    · exact ⟨45, by decide, z⟩
    · exact ⟨42, by decide, z⟩
    · exact ⟨47, by decide, z⟩
  · rcases isCmp_cs h with z | z | z | z
    · exact ⟨61, by decide, z⟩
    · exact ⟨35, by decide, z⟩
    · exact ⟨60, by decide, z⟩
    · exact ⟨62, by decide, z⟩
  · rcases isJn_cs h with z | z
    · exact ⟨38, by decide, z⟩
    · exact ⟨124, by decide, z⟩
theorem sg_f : ∀ sg ∈ sgns, sg < 128 ∧ isCol (nI sg) = false ∧ ¬ sg = 33 ∧ (-100 - nI sg) < (-4 : Int32) ∧ ¬ (-100 - nI sg) = (-133 : Int32) := by decide
theorem cv_sg {sg : Nat} (h : sg ∈ sgns) : cv (-100 - nI sg) = nI sg := by
  unfold cv
  rw [if_pos (sg_f sg h).2.2.2.1, k_ss]
theorem k_div1 (x : Int32) : x / (-1) = -x := by
  refine Int32.toBitVec_inj.mp ?_
  rw [Int32.toBitVec_div, Int32.toBitVec_neg, Int32.toBitVec_neg, BitVec.sdiv_neg (by decide)]
  congr 1
  exact BitVec.sdiv_one
end KC20
section KC21
variable {G : kx_G} {l : Launch} {d : Nat} {h : kx_H} {p s k va : Nat} {F W K : Nat → Int32} {sz ht : Int32}
set_option maxRecDepth 100000 in
theorem cP_truth {b : Bool} (hst : l.stackTraces = false) :
    kx_c G l mP_truth d 0 0 [.int (b01 b)] h (fun o h' => o = .returned (some (.int (b01 b))) ∧ h' = h) := by
  refine kx_in (by decide +kernel) (Nat.le_of_ble_eq_true rfl) hst ?_
  refine kx_rn dP_truth 1 1 [(0, .int (b01 b))] [.int (b01 b)] rfl ?_
  refine kx_if (tgt := 8) (kx_tk_dec rfl dP_truth) rfl (fun e1 => ?_) (fun e1 => ?_)
  · skip
    replace e1 : b01 b = 0 := e1
    replace e1 : b = false := b01_f e1
    refine kx_rn dP_truth 1 9 [(0, .int (b01 b))] [.int 0] rfl ?_
    refine kx_ret (ty := .int) (kx_tk_dec rfl dP_truth) rfl rfl ?_
    rw [e1]; exact ⟨rfl, rfl⟩
  · skip
    replace e1 : ¬ b01 b = 0 := e1
    replace e1 : b = true := b01_t e1
    refine kx_rn dP_truth 2 9 [(0, .int (b01 b))] [.int 1] rfl ?_
    refine kx_ret (ty := .int) (kx_tk_dec rfl dP_truth) rfl rfl ?_
    rw [e1]; exact ⟨rfl, rfl⟩
set_option maxRecDepth 100000 in
theorem cP_isColumn {c : Int32} (hst : l.stackTraces = false) :
    kx_c G l mP_isColumn d 0 0 [.int c] h (fun o h' => o = .returned (some (.int (b01 (isCol c)))) ∧ h' = h) := by
  refine kx_in (by decide +kernel) (Nat.le_of_ble_eq_true rfl) hst ?_
  refine kx_rn dP_isColumn 2 3 [(0, .int c)] [.int 97, .int c] rfl ?_
  refine kx_ic (tgt := 16) (kx_tk_dec rfl dP_isColumn) rfl (fun e3 => ?_) (fun e3 => ?_)
  · skip
    replace e3 : c < 97 := e3
    refine kx_rn dP_isColumn 1 17 [(0, .int c)] [.int 0] rfl ?_
    refine kx_ret (ty := .boolean) (kx_tk_dec rfl dP_isColumn) rfl rfl ?_
    exact ⟨rfl.trans (by rw [show isCol c = false by unfold isCol; rw [decide_eq_false_iff_not]; rintro ⟨z, -⟩; rw [kI_le] at z; rw [kI_lt] at e3; omega]; rfl), rfl⟩
  · skip
    replace e3 : ¬ c < 97 := e3
    refine kx_rn dP_isColumn 2 9 [(0, .int c)] [.int 101, .int c] rfl ?_
    refine kx_ic (tgt := 16) (kx_tk_dec rfl dP_isColumn) rfl (fun e9 => ?_) (fun e9 => ?_)
    · skip
      replace e9 : 101 ≤ c := e9
      refine kx_rn dP_isColumn 1 17 [(0, .int c)] [.int 0] rfl ?_
      refine kx_ret (ty := .boolean) (kx_tk_dec rfl dP_isColumn) rfl rfl ?_
      exact ⟨rfl.trans (by rw [show isCol c = false by unfold isCol; rw [decide_eq_false_iff_not]; rintro ⟨-, z⟩; rw [kI_le] at z e9; have y1 : (101 : Int32).toInt = 101 := rfl; have y2 : (100 : Int32).toInt = 100 := rfl; omega]; rfl), rfl⟩
    · skip
      replace e9 : ¬ 101 ≤ c := e9
      refine kx_rn dP_isColumn 2 17 [(0, .int c)] [.int 1] rfl ?_
      refine kx_ret (ty := .boolean) (kx_tk_dec rfl dP_isColumn) rfl rfl ?_
      exact ⟨rfl.trans (by rw [show isCol c = true by unfold isCol; rw [decide_eq_true_eq]; rw [kI_lt] at e3; rw [kI_le] at e9; rw [kI_le, kI_le]; have y1 : (101 : Int32).toInt = 101 := rfl; have y2 : (100 : Int32).toInt = 100 := rfl; omega]; rfl), rfl⟩
set_option maxRecDepth 100000 in
theorem cP_divide0 {x y : Int32} (hst : l.stackTraces = false) (hy : ¬ y = 0) :
    kx_c G l mP_divide d 0 0 [.int x, .int y] h (fun o h' => o = .returned (some (.int (x / y))) ∧ h' = h) := by
  refine kx_in (by decide +kernel) (Nat.le_of_ble_eq_true rfl) hst ?_
  refine kx_rn dP_divide 1 1 [(0, .int x), (1, .int y)] [.int y] rfl ?_
  refine kx_if (tgt := 14) (kx_tk_dec rfl dP_divide) rfl (fun e1 => ?_) (fun e1 => ?_)
  · skip
    replace e1 : ¬ y = 0 := e1
    refine kx_rn dP_divide 2 16 [(0, .int x), (1, .int y)] [.int y, .int x] rfl ?_
    refine kx_div (kx_tk_dec rfl dP_divide) e1 ?_
    refine kx_ret (ty := .int) (kx_tk_dec rfl dP_divide) rfl rfl ?_
    exact ⟨rfl, rfl⟩
  · skip
    replace e1 : y = 0 := e1
    exact absurd e1 hy
set_option maxRecDepth 100000 in
theorem cP_divide1 {x y : Int32} (hst : l.stackTraces = false) (hy : y = 0) :
    kx_c G l mP_divide d 1 6 [.int x, .int y] h (fun o h' => o = .threw h.1 ∧ h' = kx_new h (.inr (13, []))) := by
  refine kx_in (by decide +kernel) (Nat.le_of_ble_eq_true rfl) hst ?_
  refine kx_rn dP_divide 1 1 [(0, .int x), (1, .int y)] [.int y] rfl ?_
  refine kx_if (tgt := 14) (kx_tk_dec rfl dP_divide) rfl (fun e1 => ?_) (fun e1 => ?_)
  · skip
    replace e1 : ¬ y = 0 := e1
    exact absurd hy e1
  · skip
    replace e1 : y = 0 := e1
    refine xP_59 (kc := 0) (ks := 0) rfl dP_divide rfl rfl rfl rfl rfl (fun q hq => by cases hq) (Nat.le_of_ble_eq_true rfl) ?_
    exact ⟨rfl, rfl⟩
set_option maxRecDepth 100000 in
theorem cP_combine0 {sg : Nat} {x y : Int32} (hst : l.stackTraces = false) (hsg : sg ∈ sgns) (hz : dvZ sg y = false) :
    kx_c G l mP_combine (d + 1) 0 0 [.int (nI sg), .int x, .int y] h (fun o h' => o = .returned (some (.int (dvO sg x y))) ∧ h' = h) := by
  refine kx_in (by decide +kernel) (Nat.le_of_ble_eq_true rfl) hst ?_
  have hcs : sg = 43 ∨ sg = 45 ∨ sg = 42 ∨ sg = 47 ∨ sg = 61 ∨ sg = 35 ∨ sg = 60 ∨ sg = 62 ∨ sg = 38 ∨ sg = 124 := by simpa [sgns] using hsg
  rcases hcs with rfl | rfl | rfl | rfl | rfl | rfl | rfl | rfl | rfl | rfl
  · skip
    refine kx_rn dP_combine 1 1 [(0, .int 43), (1, .int x), (2, .int y)] [.int 43] rfl ?_
    refine kx_tin (off := 127) (tgt := 128) (kx_tk_dec rfl dP_combine) (by decide) (by decide) rfl rfl ?_
    refine kx_rn dP_combine 3 131 [(0, .int 43), (1, .int x), (2, .int y)] [.int (x + y)] rfl ?_
    refine kx_ret (ty := .int) (kx_tk_dec rfl dP_combine) rfl rfl ?_
    exact ⟨rfl, rfl⟩
  · skip
    refine kx_rn dP_combine 1 1 [(0, .int 45), (1, .int x), (2, .int y)] [.int 45] rfl ?_
    refine kx_tin (off := 131) (tgt := 132) (kx_tk_dec rfl dP_combine) (by decide) (by decide) rfl rfl ?_
    refine kx_rn dP_combine 3 135 [(0, .int 45), (1, .int x), (2, .int y)] [.int (x - y)] rfl ?_
    refine kx_ret (ty := .int) (kx_tk_dec rfl dP_combine) rfl rfl ?_
    exact ⟨rfl, rfl⟩
  · skip
    refine kx_rn dP_combine 1 1 [(0, .int 42), (1, .int x), (2, .int y)] [.int 42] rfl ?_
    refine kx_tin (off := 135) (tgt := 136) (kx_tk_dec rfl dP_combine) (by decide) (by decide) rfl rfl ?_
    refine kx_rn dP_combine 3 139 [(0, .int 42), (1, .int x), (2, .int y)] [.int (x * y)] rfl ?_
    refine kx_ret (ty := .int) (kx_tk_dec rfl dP_combine) rfl rfl ?_
    exact ⟨rfl, rfl⟩
  · skip
    refine kx_rn dP_combine 1 1 [(0, .int 47), (1, .int x), (2, .int y)] [.int 47] rfl ?_
    refine kx_tin (off := 139) (tgt := 140) (kx_tk_dec rfl dP_combine) (by decide) (by decide) rfl rfl ?_
    refine kx_rn dP_combine 2 142 [(0, .int 47), (1, .int x), (2, .int y)] [.int y, .int x] rfl ?_
    have hy : ¬ y = 0 := fun z => by rw [show dvZ 47 y = true from decide_eq_true ⟨rfl, z⟩] at hz; cases hz
    refine cP_53 (as := [.int x, .int y]) (st := []) (mc := 0) (ms := 0) (kc := 0) (ks := 0) rfl (kx_tk_dec rfl dP_combine) rfl rfl (Nat.le_of_ble_eq_true rfl) (cP_divide0 hst hy) (fun o h' hq => ?_)
    obtain ⟨rfl, rfl⟩ := hq
    show kx_w _ _ _ _ _ _ _ _ _ _ _
    refine kx_ret (ty := .int) (kx_tk_dec rfl dP_combine) rfl rfl ?_
    refine ⟨?_, rfl⟩
    show _ = Outcome.returned (some (.int (if y = 0 then 0 else if y = -1 then -x else x / y)))
    rw [if_neg hy]
    by_cases e : y = -1
    · rw [if_pos e, e, k_div1]
    · rw [if_neg e]
  · skip
    refine kx_rn dP_combine 1 1 [(0, .int 61), (1, .int x), (2, .int y)] [.int 61] rfl ?_
    refine kx_tin (off := 145) (tgt := 146) (kx_tk_dec rfl dP_combine) (by decide) (by decide) rfl rfl ?_
    refine kx_rn dP_combine 2 148 [(0, .int 61), (1, .int x), (2, .int y)] [.int y, .int x] rfl ?_
    refine kx_ic (tgt := 155) (kx_tk_dec rfl dP_combine) rfl (fun e148 => ?_) (fun e148 => ?_)
    · skip
      replace e148 : ¬ x = y := e148
      refine kx_rn dP_combine 1 156 [(0, .int 61), (1, .int x), (2, .int y)] [.int 0] rfl ?_
      refine cP_45 (as := [.int 0]) (st := []) (mc := 0) (ms := 0) (kc := 0) (ks := 0) rfl (kx_tk_dec rfl dP_combine) rfl rfl (Nat.le_of_ble_eq_true rfl) (cP_truth (b := false) hst) (fun o h' hq => ?_)
      obtain ⟨rfl, rfl⟩ := hq
      show kx_w _ _ _ _ _ _ _ _ _ _ _
      refine kx_ret (ty := .int) (kx_tk_dec rfl dP_combine) rfl rfl ?_
      refine ⟨?_, rfl⟩
      show _ = Outcome.returned (some (.int (if x = y then (1 : Int32) else 0)))
      rw [if_neg e148]
      rfl
    · skip
      replace e148 : x = y := e148
      refine kx_rn dP_combine 2 156 [(0, .int 61), (1, .int x), (2, .int y)] [.int 1] rfl ?_
      refine cP_45 (as := [.int 1]) (st := []) (mc := 0) (ms := 0) (kc := 0) (ks := 0) rfl (kx_tk_dec rfl dP_combine) rfl rfl (Nat.le_of_ble_eq_true rfl) (cP_truth (b := true) hst) (fun o h' hq => ?_)
      obtain ⟨rfl, rfl⟩ := hq
      show kx_w _ _ _ _ _ _ _ _ _ _ _
      refine kx_ret (ty := .int) (kx_tk_dec rfl dP_combine) rfl rfl ?_
      refine ⟨?_, rfl⟩
      show _ = Outcome.returned (some (.int (if x = y then (1 : Int32) else 0)))
      rw [if_pos e148]
      rfl
  · skip
    refine kx_rn dP_combine 1 1 [(0, .int 35), (1, .int x), (2, .int y)] [.int 35] rfl ?_
    refine kx_tin (off := 159) (tgt := 160) (kx_tk_dec rfl dP_combine) (by decide) (by decide) rfl rfl ?_
    refine kx_rn dP_combine 2 162 [(0, .int 35), (1, .int x), (2, .int y)] [.int y, .int x] rfl ?_
    refine kx_ic (tgt := 169) (kx_tk_dec rfl dP_combine) rfl (fun e162 => ?_) (fun e162 => ?_)
    · skip
      replace e162 : x = y := e162
      refine kx_rn dP_combine 1 170 [(0, .int 35), (1, .int x), (2, .int y)] [.int 0] rfl ?_
      refine cP_45 (as := [.int 0]) (st := []) (mc := 0) (ms := 0) (kc := 0) (ks := 0) rfl (kx_tk_dec rfl dP_combine) rfl rfl (Nat.le_of_ble_eq_true rfl) (cP_truth (b := false) hst) (fun o h' hq => ?_)
      obtain ⟨rfl, rfl⟩ := hq
      show kx_w _ _ _ _ _ _ _ _ _ _ _
      refine kx_ret (ty := .int) (kx_tk_dec rfl dP_combine) rfl rfl ?_
      refine ⟨?_, rfl⟩
      show _ = Outcome.returned (some (.int (if x = y then (0 : Int32) else 1)))
      rw [if_pos e162]
      rfl
    · skip
      replace e162 : ¬ x = y := e162
      refine kx_rn dP_combine 2 170 [(0, .int 35), (1, .int x), (2, .int y)] [.int 1] rfl ?_
      refine cP_45 (as := [.int 1]) (st := []) (mc := 0) (ms := 0) (kc := 0) (ks := 0) rfl (kx_tk_dec rfl dP_combine) rfl rfl (Nat.le_of_ble_eq_true rfl) (cP_truth (b := true) hst) (fun o h' hq => ?_)
      obtain ⟨rfl, rfl⟩ := hq
      show kx_w _ _ _ _ _ _ _ _ _ _ _
      refine kx_ret (ty := .int) (kx_tk_dec rfl dP_combine) rfl rfl ?_
      refine ⟨?_, rfl⟩
      show _ = Outcome.returned (some (.int (if x = y then (0 : Int32) else 1)))
      rw [if_neg e162]
      rfl
  · skip
    refine kx_rn dP_combine 1 1 [(0, .int 60), (1, .int x), (2, .int y)] [.int 60] rfl ?_
    refine kx_tin (off := 173) (tgt := 174) (kx_tk_dec rfl dP_combine) (by decide) (by decide) rfl rfl ?_
    refine kx_rn dP_combine 2 176 [(0, .int 60), (1, .int x), (2, .int y)] [.int y, .int x] rfl ?_
    refine kx_ic (tgt := 183) (kx_tk_dec rfl dP_combine) rfl (fun e176 => ?_) (fun e176 => ?_)
    · skip
      replace e176 : y ≤ x := e176
      refine kx_rn dP_combine 1 184 [(0, .int 60), (1, .int x), (2, .int y)] [.int 0] rfl ?_
      refine cP_45 (as := [.int 0]) (st := []) (mc := 0) (ms := 0) (kc := 0) (ks := 0) rfl (kx_tk_dec rfl dP_combine) rfl rfl (Nat.le_of_ble_eq_true rfl) (cP_truth (b := false) hst) (fun o h' hq => ?_)
      obtain ⟨rfl, rfl⟩ := hq
      show kx_w _ _ _ _ _ _ _ _ _ _ _
      refine kx_ret (ty := .int) (kx_tk_dec rfl dP_combine) rfl rfl ?_
      refine ⟨?_, rfl⟩
      show _ = Outcome.returned (some (.int (if x < y then (1 : Int32) else 0)))
      rw [if_neg (fun z => by rw [kI_lt] at z; rw [kI_le] at e176; omega)]
      rfl
    · skip
      replace e176 : ¬ y ≤ x := e176
      refine kx_rn dP_combine 2 184 [(0, .int 60), (1, .int x), (2, .int y)] [.int 1] rfl ?_
      refine cP_45 (as := [.int 1]) (st := []) (mc := 0) (ms := 0) (kc := 0) (ks := 0) rfl (kx_tk_dec rfl dP_combine) rfl rfl (Nat.le_of_ble_eq_true rfl) (cP_truth (b := true) hst) (fun o h' hq => ?_)
      obtain ⟨rfl, rfl⟩ := hq
      show kx_w _ _ _ _ _ _ _ _ _ _ _
      refine kx_ret (ty := .int) (kx_tk_dec rfl dP_combine) rfl rfl ?_
      refine ⟨?_, rfl⟩
      show _ = Outcome.returned (some (.int (if x < y then (1 : Int32) else 0)))
      rw [if_pos (by rw [kI_le] at e176; rw [kI_lt]; omega)]
      rfl
  · skip
    refine kx_rn dP_combine 1 1 [(0, .int 62), (1, .int x), (2, .int y)] [.int 62] rfl ?_
    refine kx_tin (off := 187) (tgt := 188) (kx_tk_dec rfl dP_combine) (by decide) (by decide) rfl rfl ?_
    refine kx_rn dP_combine 2 190 [(0, .int 62), (1, .int x), (2, .int y)] [.int y, .int x] rfl ?_
    refine kx_ic (tgt := 197) (kx_tk_dec rfl dP_combine) rfl (fun e190 => ?_) (fun e190 => ?_)
    · skip
      replace e190 : x ≤ y := e190
      refine kx_rn dP_combine 1 198 [(0, .int 62), (1, .int x), (2, .int y)] [.int 0] rfl ?_
      refine cP_45 (as := [.int 0]) (st := []) (mc := 0) (ms := 0) (kc := 0) (ks := 0) rfl (kx_tk_dec rfl dP_combine) rfl rfl (Nat.le_of_ble_eq_true rfl) (cP_truth (b := false) hst) (fun o h' hq => ?_)
      obtain ⟨rfl, rfl⟩ := hq
      show kx_w _ _ _ _ _ _ _ _ _ _ _
      refine kx_ret (ty := .int) (kx_tk_dec rfl dP_combine) rfl rfl ?_
      refine ⟨?_, rfl⟩
      show _ = Outcome.returned (some (.int (if y < x then (1 : Int32) else 0)))
      rw [if_neg (fun z => by rw [kI_lt] at z; rw [kI_le] at e190; omega)]
      rfl
    · skip
      replace e190 : ¬ x ≤ y := e190
      refine kx_rn dP_combine 2 198 [(0, .int 62), (1, .int x), (2, .int y)] [.int 1] rfl ?_
      refine cP_45 (as := [.int 1]) (st := []) (mc := 0) (ms := 0) (kc := 0) (ks := 0) rfl (kx_tk_dec rfl dP_combine) rfl rfl (Nat.le_of_ble_eq_true rfl) (cP_truth (b := true) hst) (fun o h' hq => ?_)
      obtain ⟨rfl, rfl⟩ := hq
      show kx_w _ _ _ _ _ _ _ _ _ _ _
      refine kx_ret (ty := .int) (kx_tk_dec rfl dP_combine) rfl rfl ?_
      refine ⟨?_, rfl⟩
      show _ = Outcome.returned (some (.int (if y < x then (1 : Int32) else 0)))
      rw [if_pos (by rw [kI_le] at e190; rw [kI_lt]; omega)]
      rfl
  · skip
    refine kx_rn dP_combine 1 1 [(0, .int 38), (1, .int x), (2, .int y)] [.int 38] rfl ?_
    refine kx_tin (off := 201) (tgt := 202) (kx_tk_dec rfl dP_combine) (by decide) (by decide) rfl rfl ?_
    refine kx_rn dP_combine 3 205 [(0, .int 38), (1, .int x), (2, .int y)] [.int (x &&& y)] rfl ?_
    refine kx_ret (ty := .int) (kx_tk_dec rfl dP_combine) rfl rfl ?_
    exact ⟨rfl, rfl⟩
  · skip
    refine kx_rn dP_combine 1 1 [(0, .int 124), (1, .int x), (2, .int y)] [.int 124] rfl ?_
    refine kx_tout (tgt := 206) (kx_tk_dec rfl dP_combine) (by decide) rfl ?_
    refine kx_rn dP_combine 3 209 [(0, .int 124), (1, .int x), (2, .int y)] [.int (x ||| y)] rfl ?_
    refine kx_ret (ty := .int) (kx_tk_dec rfl dP_combine) rfl rfl ?_
    exact ⟨rfl, rfl⟩
set_option maxRecDepth 100000 in
theorem cP_combine1 {x y : Int32} (hst : l.stackTraces = false) (hy : y = 0) :
    kx_c G l mP_combine (d + 1) 1 6 [.int 47, .int x, .int y] h (fun o h' => o = .threw h.1 ∧ h' = kx_new h (.inr (13, []))) := by
  refine kx_in (by decide +kernel) (Nat.le_of_ble_eq_true rfl) hst ?_
  refine kx_rn dP_combine 1 1 [(0, .int 47), (1, .int x), (2, .int y)] [.int 47] rfl ?_
  refine kx_tin (off := 139) (tgt := 140) (kx_tk_dec rfl dP_combine) (by decide) (by decide) rfl rfl ?_
  refine kx_rn dP_combine 2 142 [(0, .int 47), (1, .int x), (2, .int y)] [.int y, .int x] rfl ?_
  refine cP_53 (as := [.int x, .int y]) (st := []) (mc := 1) (ms := 6) (kc := 0) (ks := 0) rfl (kx_tk_dec rfl dP_combine) rfl rfl (Nat.le_of_ble_eq_true rfl) (cP_divide1 hst hy) (fun o h' hq => ?_)
  obtain ⟨rfl, rfl⟩ := hq
  exact kx_out (fun q hq => by cases hq) ⟨rfl, rfl⟩
set_option maxRecDepth 100000 in
theorem cP_pop {n : Nat} (hst : l.stackTraces = false) (b : pFx G h p s k va F W) (hn : n < 40) :
    kx_c G l mP_pop d 0 0 [.ref p] (pH h p s k sz K (nI (n + 1))) (fun o h' => o = .returned (some (.int (K n))) ∧ h' = pH h p s k sz K (nI n)) := by
  refine kx_in (by decide +kernel) (Nat.le_of_ble_eq_true rfl) hst ?_
  refine kx_rn dP_pop 1 1 [(0, .ref p)] [.ref p] rfl ?_
  refine pP_22 (v := .int (nI (n + 1))) rfl (kx_tk_dec rfl dP_pop) (pH_p b) rfl ?_
  refine kx_if (tgt := 9) (kx_tk_dec rfl dP_pop) rfl (fun e4 => ?_) (fun e4 => ?_)
  · skip
    replace e4 : ¬ nI (n + 1) = 0 := e4
    replace e4 : ¬ n + 1 = 0 := fun z => e4 ((nI_eq (a := n + 1) (b := 0) (by omega) (by omega)).mpr z)
    refine kx_rn dP_pop 2 11 [(0, .ref p)] [.ref p, .ref p] rfl ?_
    refine pP_22 (v := .int (nI (n + 1))) rfl (kx_tk_dec rfl dP_pop) (pH_p b) rfl ?_
    refine kx_rn dP_pop 2 16 [(0, .ref p)] [.int ((nI (n + 1)) - 1), .ref p] rfl ?_
    rw [show (nI (n + 1)) - 1 = nI ((n + 1) - 1) from kn_su rfl rfl (by omega)]
    refine qP_22 rfl (kx_tk_dec rfl dP_pop) (pH_p b) rfl rfl (Nat.le_of_ble_eq_true rfl) ?_
    refine kx_heq (pH_sp (ht' := nI ((n + 1) - 1))) ?_
    refine kx_rn dP_pop 1 20 [(0, .ref p)] [.ref p] rfl ?_
    refine pP_15 (v := .ref k) rfl (kx_tk_dec rfl dP_pop) (pH_p b) rfl ?_
    refine kx_rn dP_pop 1 24 [(0, .ref p)] [.ref p, .ref k] rfl ?_
    refine pP_22 (v := .int (nI ((n + 1) - 1))) rfl (kx_tk_dec rfl dP_pop) (pH_p b) rfl ?_
    refine kx_ildN (x := K ((n + 1) - 1)) (i := (n + 1) - 1) (kx_tk_dec rfl dP_pop) (pH_k b) (by show (n + 1) - 1 < 40; omega) (by decide) rfl ?_
    refine kx_ret (ty := .int) (kx_tk_dec rfl dP_pop) rfl rfl ?_
    exact ⟨rfl, rfl⟩
  · skip
    replace e4 : nI (n + 1) = 0 := e4
    replace e4 : n + 1 = 0 := (nI_eq (a := n + 1) (b := 0) (by omega) (by omega)).mp e4
    exfalso; omega
set_option maxRecDepth 100000 in
theorem cP_push {n : Nat} {x : Int32} (hst : l.stackTraces = false) (b : pFx G h p s k va F W) (hn : n < 40) :
    kx_c G l mP_push d 0 0 [.ref p, .int x] (pH h p s k sz K (nI n)) (fun o h' => o = .returned none ∧ h' = pH h p s k sz (va_up K n x) (nI (n + 1))) := by
  refine kx_in (by decide +kernel) (Nat.le_of_ble_eq_true rfl) hst ?_
  refine kx_rn dP_push 1 1 [(0, .ref p), (1, .int x)] [.ref p] rfl ?_
  refine pP_22 (v := .int (nI n)) rfl (kx_tk_dec rfl dP_push) (pH_p b) rfl ?_
  refine kx_rn dP_push 1 6 [(0, .ref p), (1, .int x)] [.int 40, .int (nI n)] rfl ?_
  refine kx_ic (tgt := 29) (kx_tk_dec rfl dP_push) rfl (fun e6 => ?_) (fun e6 => ?_)
  · skip
    replace e6 : 40 ≤ nI n := e6
    replace e6 : 40 ≤ n := (nI_leI (a := 40) (b := n) (by omega) (by omega)).mp e6
    exfalso; omega
  · skip
    replace e6 : ¬ 40 ≤ nI n := e6
    replace e6 : ¬ 40 ≤ n := fun z => e6 ((nI_leI (a := 40) (b := n) (by omega) (by omega)).mpr z)
    refine kx_rn dP_push 1 10 [(0, .ref p), (1, .int x)] [.ref p] rfl ?_
    refine pP_15 (v := .ref k) rfl (kx_tk_dec rfl dP_push) (pH_p b) rfl ?_
    refine kx_rn dP_push 1 14 [(0, .ref p), (1, .int x)] [.ref p, .ref k] rfl ?_
    refine pP_22 (v := .int (nI n)) rfl (kx_tk_dec rfl dP_push) (pH_p b) rfl ?_
    refine kx_rn dP_push 1 18 [(0, .ref p), (1, .int x)] [.int x, .int (nI n), .ref k] rfl ?_
    refine kx_istN (i := n) (kx_tk_dec rfl dP_push) (pH_k b) (by show n < 40; omega) (by decide) ?_
    refine kx_heq (pH_sk b.n2) ?_
    refine kx_rn dP_push 2 21 [(0, .ref p), (1, .int x)] [.ref p, .ref p] rfl ?_
    refine pP_22 (v := .int (nI n)) rfl (kx_tk_dec rfl dP_push) (pH_p b) rfl ?_
    refine kx_rn dP_push 2 26 [(0, .ref p), (1, .int x)] [.int ((nI n) + 1), .ref p] rfl ?_
    rw [show (nI n) + 1 = nI (n + 1) from kn_ad rfl rfl]
    refine qP_22 rfl (kx_tk_dec rfl dP_push) (pH_p b) rfl rfl (Nat.le_of_ble_eq_true rfl) ?_
    refine kx_heq (pH_sp (ht' := nI (n + 1))) ?_
    refine kx_retv (kx_tk_dec rfl dP_push) rfl ?_
    exact ⟨rfl, rfl⟩
set_option maxRecDepth 100000 in
theorem cP_workStep0 {s9 : List Int32} {i : Int32} {t u : List Bool} {s0 : List Int32} (hst : l.stackTraces = false) (b : pFx G h p s k va F W) (hi : itT i t u) (hv : tyV t s0) (hs : stk K s0) (hl : s0.length ≤ 40) (hz : lS W i s0 = some s9) :
    kx_c G l mP_workStep (d + 2) 0 0 [.ref p, .int (cv i), .ref va] (pH h p s k sz K (nI s0.length)) (fun o h' => ∃ x s1, s9 = x :: s1 ∧ o = .returned (some (.int x)) ∧ h' = pH h p s k sz K (nI s1.length) ∧ stk K s1 ∧ s1.length ≤ s0.length) := by
  refine kx_in (by decide +kernel) (Nat.le_of_ble_eq_true rfl) hst ?_
  rcases hi with ⟨v, hv1, rfl, rfl⟩ | ⟨c, hc1, rfl, rfl⟩ | ⟨t0, rfl, rfl, rfl⟩ | ⟨c, t0, h1, rfl, rfl, rfl⟩ | ⟨c, t0, h1, rfl, rfl, rfl⟩ | ⟨c, t0, h1, rfl, rfl, rfl⟩
  · skip
    unfold lS at hz
    rw [if_neg (nI_n4 hv1), if_pos (by rw [kI_le, nI_toInt (by omega)]; have : (0 : Int32).toInt = 0 := rfl; omega)] at hz
    injection hz with hz
    rw [cv_num hv1]
    refine kx_rn dP_workStep 2 4 [(0, .ref p), (1, .int (nI (128 + v))), (2, .ref va)] [.int 128, .int (nI (128 + v))] rfl ?_
    refine kx_ic (tgt := 13) (kx_tk_dec rfl dP_workStep) rfl (fun e4 => ?_) (fun e4 => ?_)
    · skip
      replace e4 : nI (128 + v) < 128 := e4
      replace e4 : 128 + v < 128 := (nI_ltI (a := 128 + v) (b := 128) (by omega) (by omega)).mp e4
      exfalso; omega
    · skip
      replace e4 : ¬ nI (128 + v) < 128 := e4
      replace e4 : ¬ 128 + v < 128 := fun z => e4 ((nI_ltI (a := 128 + v) (b := 128) (by omega) (by omega)).mpr z)
      refine kx_rn dP_workStep 3 12 [(0, .ref p), (1, .int (nI (128 + v))), (2, .ref va)] [.int ((nI (128 + v)) - 128)] rfl ?_
      rw [show (nI (128 + v)) - 128 = nI ((128 + v) - 128) from kn_su rfl rfl (by omega)]
      refine kx_ret (ty := .int) (kx_tk_dec rfl dP_workStep) rfl rfl ?_
      exact ⟨nI v, s0, hz.symm, by rw [show 128 + v - 128 = v by omega], rfl, hs, Nat.le_refl _⟩
  · skip
    unfold lS at hz
    rw [if_neg (col_n4 hc1), if_neg (col_neg hc1), col_cl hc1] at hz
    injection hz with hz
    rw [cv_col hc1]
    refine kx_rn dP_workStep 2 4 [(0, .ref p), (1, .int (nI (97 + c))), (2, .ref va)] [.int 128, .int (nI (97 + c))] rfl ?_
    refine kx_ic (tgt := 13) (kx_tk_dec rfl dP_workStep) rfl (fun e4 => ?_) (fun e4 => ?_)
    · skip
      replace e4 : nI (97 + c) < 128 := e4
      replace e4 : 97 + c < 128 := (nI_ltI (a := 97 + c) (b := 128) (by omega) (by omega)).mp e4
      refine kx_rn dP_workStep 1 14 [(0, .ref p), (1, .int (nI (97 + c))), (2, .ref va)] [.int (nI (97 + c))] rfl ?_
      refine cP_41 (as := [.int (nI (97 + c))]) (st := []) (mc := 0) (ms := 0) (kc := 0) (ks := 0) rfl (kx_tk_dec rfl dP_workStep) rfl rfl (Nat.le_of_ble_eq_true rfl) (cP_isColumn hst) (fun o h' hq => ?_)
      obtain ⟨rfl, rfl⟩ := hq
      show kx_w _ _ _ _ _ _ _ _ _ _ _
      rw [show isCol (nI (97 + c)) = true by rcases (show c = 0 ∨ c = 1 ∨ c = 2 ∨ c = 3 by omega) with z | z | z | z <;> (rw [z]; rfl)]
      refine kx_if (tgt := 27) (kx_tk_dec rfl dP_workStep) rfl (fun e17 => ?_) (fun e17 => ?_)
      · skip
        replace e17 : b01 true = 0 := e17
        replace e17 : true = false := b01_f e17
        cases e17
      · skip
        replace e17 : ¬ b01 true = 0 := e17
        replace e17 : true = true := b01_t e17
        refine kx_rn dP_workStep 4 25 [(0, .ref p), (1, .int (nI (97 + c))), (2, .ref va)] [.int ((nI (97 + c)) - 97), .ref va] rfl ?_
        rw [show (nI (97 + c)) - 97 = nI ((97 + c) - 97) from kn_su rfl rfl (by omega)]
        refine kx_ildN (x := W ((97 + c) - 97)) (i := (97 + c) - 97) (kx_tk_dec rfl dP_workStep) (pH_v b) (by show (97 + c) - 97 < 4; omega) (by decide) rfl ?_
        refine kx_ret (ty := .int) (kx_tk_dec rfl dP_workStep) rfl rfl ?_
        exact ⟨W c, s0, hz.symm, by rw [show 97 + c - 97 = c by omega], rfl, hs, Nat.le_refl _⟩
    · skip
      replace e4 : ¬ nI (97 + c) < 128 := e4
      replace e4 : ¬ 97 + c < 128 := fun z => e4 ((nI_ltI (a := 97 + c) (b := 128) (by omega) (by omega)).mpr z)
      exfalso; omega
  · skip
    obtain ⟨x, s1, rfl, h1, h2⟩ := tyV_one hv
    simp only [List.length_cons] at hl
    unfold lS at hz
    rw [if_pos (by decide), if_pos rfl] at hz
    simp only [lNg] at hz
    injection hz with hz
    show kx_w _ _ _ _ _ _ _ _ [(0, .ref p), (1, .int 33), (2, .ref va)] _ (pH h p s k sz K (nI (s1.length + 1)))
    refine kx_rn dP_workStep 2 4 [(0, .ref p), (1, .int 33), (2, .ref va)] [.int 128, .int 33] rfl ?_
    refine kx_ic (tgt := 13) (kx_tk_dec rfl dP_workStep) rfl (fun e4 => ?_) (fun e4 => ?_)
    · skip
      replace e4 : (33 : Int32) < 128 := e4
      refine kx_rn dP_workStep 1 14 [(0, .ref p), (1, .int 33), (2, .ref va)] [.int 33] rfl ?_
      refine cP_41 (as := [.int 33]) (st := []) (mc := 0) (ms := 0) (kc := 0) (ks := 0) rfl (kx_tk_dec rfl dP_workStep) rfl rfl (Nat.le_of_ble_eq_true rfl) (cP_isColumn hst) (fun o h' hq => ?_)
      obtain ⟨rfl, rfl⟩ := hq
      show kx_w _ _ _ _ _ _ _ _ _ _ _
      rw [show isCol 33 = false by decide]
      refine kx_if (tgt := 27) (kx_tk_dec rfl dP_workStep) rfl (fun e17 => ?_) (fun e17 => ?_)
      · skip
        replace e17 : b01 false = 0 := e17
        replace e17 : false = false := b01_f e17
        refine kx_rn dP_workStep 1 28 [(0, .ref p), (1, .int 33), (2, .ref va)] [.ref p] rfl ?_
        refine cP_37 (as := []) (st := []) (mc := 0) (ms := 0) (kc := 0) (ks := 0) rfl (kx_tk_dec rfl dP_workStep) (pH_p b) rfl rfl (Nat.le_of_ble_eq_true rfl) (cP_pop (n := s1.length) hst b (by omega)) (fun o h' hq => ?_)
        obtain ⟨rfl, rfl⟩ := hq
        show kx_w _ _ _ _ _ _ _ _ _ _ _
        rw [show K s1.length = x from hs.1]
        refine kx_rn dP_workStep 3 35 [(0, .ref p), (1, .int 33), (2, .ref va), (3, .int x)] [.int 33, .int 33] rfl ?_
        refine kx_ic (tgt := 51) (kx_tk_dec rfl dP_workStep) rfl (fun e35 => ?_) (fun e35 => ?_)
        · skip
          replace e35 : ¬ (33 : Int32) = 33 := e35
          exact absurd (by decide) e35
        · skip
          replace e35 : (33 : Int32) = 33 := e35
          refine kx_rn dP_workStep 1 39 [(0, .ref p), (1, .int 33), (2, .ref va), (3, .int x)] [.int x] rfl ?_
          refine kx_if (tgt := 46) (kx_tk_dec rfl dP_workStep) rfl (fun e39 => ?_) (fun e39 => ?_)
          · skip
            replace e39 : ¬ x = 0 := e39
            refine kx_rn dP_workStep 1 47 [(0, .ref p), (1, .int 33), (2, .ref va), (3, .int x)] [.int 0] rfl ?_
            refine cP_45 (as := [.int 0]) (st := []) (mc := 0) (ms := 0) (kc := 0) (ks := 0) rfl (kx_tk_dec rfl dP_workStep) rfl rfl (Nat.le_of_ble_eq_true rfl) (cP_truth (b := false) hst) (fun o h' hq => ?_)
            obtain ⟨rfl, rfl⟩ := hq
            show kx_w _ _ _ _ _ _ _ _ _ _ _
            refine kx_ret (ty := .int) (kx_tk_dec rfl dP_workStep) rfl rfl ?_
            refine ⟨_, s1, ?_, rfl, rfl, hs.2, by simp⟩
            rw [← hz]
            rcases h1 rfl with z | z
            · exact absurd z e39
            · rw [z]; rfl
          · skip
            replace e39 : x = 0 := e39
            refine kx_rn dP_workStep 2 47 [(0, .ref p), (1, .int 33), (2, .ref va), (3, .int x)] [.int 1] rfl ?_
            refine cP_45 (as := [.int 1]) (st := []) (mc := 0) (ms := 0) (kc := 0) (ks := 0) rfl (kx_tk_dec rfl dP_workStep) rfl rfl (Nat.le_of_ble_eq_true rfl) (cP_truth (b := true) hst) (fun o h' hq => ?_)
            obtain ⟨rfl, rfl⟩ := hq
            show kx_w _ _ _ _ _ _ _ _ _ _ _
            refine kx_ret (ty := .int) (kx_tk_dec rfl dP_workStep) rfl rfl ?_
            refine ⟨_, s1, ?_, rfl, rfl, hs.2, by simp⟩
            rw [← hz]
            rw [e39]; rfl
      · skip
        replace e17 : ¬ b01 false = 0 := e17
        replace e17 : false = true := b01_t e17
        cases e17
    · skip
      replace e4 : ¬ (33 : Int32) < 128 := e4
      exact absurd (by decide) e4
  · skip
    obtain ⟨x, y, s1, rfl, -, -, -⟩ := tyV_two hv
    obtain ⟨sg, hsg, rfl⟩ := sg_of (Or.inl h1)
    obtain ⟨f1, f2, f3, f4, f5⟩ := sg_f sg hsg
    simp only [List.length_cons] at hl
    have hlS : lS W (-100 - nI sg) (x :: y :: s1) = if dvZ sg x = true then none else some (dvO sg y x :: s1) := by
      unfold lS
      rw [if_pos f4, if_neg f5, k_ss, nI_clamp (by omega)]
      rfl
    have hdz : dvZ sg x = false := kB_f (fun z => by rw [hlS, if_pos z] at hz; cases hz)
    rw [hlS, if_neg (by rw [hdz]; decide)] at hz
    injection hz with hz
    rw [cv_sg hsg]
    show kx_w _ _ _ _ _ _ _ _ [(0, .ref p), (1, .int (nI sg)), (2, .ref va)] _ (pH h p s k sz K (nI (s1.length + 1 + 1)))
    refine kx_rn dP_workStep 2 4 [(0, .ref p), (1, .int (nI sg)), (2, .ref va)] [.int 128, .int (nI sg)] rfl ?_
    refine kx_ic (tgt := 13) (kx_tk_dec rfl dP_workStep) rfl (fun e4 => ?_) (fun e4 => ?_)
    · skip
      replace e4 : nI sg < 128 := e4
      replace e4 : sg < 128 := (nI_ltI (a := sg) (b := 128) (by omega) (by omega)).mp e4
      refine kx_rn dP_workStep 1 14 [(0, .ref p), (1, .int (nI sg)), (2, .ref va)] [.int (nI sg)] rfl ?_
      refine cP_41 (as := [.int (nI sg)]) (st := []) (mc := 0) (ms := 0) (kc := 0) (ks := 0) rfl (kx_tk_dec rfl dP_workStep) rfl rfl (Nat.le_of_ble_eq_true rfl) (cP_isColumn hst) (fun o h' hq => ?_)
      obtain ⟨rfl, rfl⟩ := hq
      show kx_w _ _ _ _ _ _ _ _ _ _ _
      rw [f2]
      refine kx_if (tgt := 27) (kx_tk_dec rfl dP_workStep) rfl (fun e17 => ?_) (fun e17 => ?_)
      · skip
        replace e17 : b01 false = 0 := e17
        replace e17 : false = false := b01_f e17
        refine kx_rn dP_workStep 1 28 [(0, .ref p), (1, .int (nI sg)), (2, .ref va)] [.ref p] rfl ?_
        refine cP_37 (as := []) (st := []) (mc := 0) (ms := 0) (kc := 0) (ks := 0) rfl (kx_tk_dec rfl dP_workStep) (pH_p b) rfl rfl (Nat.le_of_ble_eq_true rfl) (cP_pop (n := s1.length + 1) hst b (by omega)) (fun o h' hq => ?_)
        obtain ⟨rfl, rfl⟩ := hq
        show kx_w _ _ _ _ _ _ _ _ _ _ _
        rw [show K (s1.length + 1) = x from hs.1]
        refine kx_rn dP_workStep 3 35 [(0, .ref p), (1, .int (nI sg)), (2, .ref va), (3, .int x)] [.int 33, .int (nI sg)] rfl ?_
        refine kx_ic (tgt := 51) (kx_tk_dec rfl dP_workStep) rfl (fun e35 => ?_) (fun e35 => ?_)
        · skip
          replace e35 : ¬ nI sg = 33 := e35
          replace e35 : ¬ sg = 33 := fun z => e35 ((nI_eq (a := sg) (b := 33) (by omega) (by omega)).mpr z)
          refine kx_rn dP_workStep 2 53 [(0, .ref p), (1, .int (nI sg)), (2, .ref va), (3, .int x)] [.ref p, .int (nI sg)] rfl ?_
          refine cP_37 (as := []) (st := [.int (nI sg)]) (mc := 0) (ms := 0) (kc := 0) (ks := 0) rfl (kx_tk_dec rfl dP_workStep) (pH_p b) rfl rfl (Nat.le_of_ble_eq_true rfl) (cP_pop (n := s1.length) hst b (by omega)) (fun o h' hq => ?_)
          obtain ⟨rfl, rfl⟩ := hq
          show kx_w _ _ _ _ _ _ _ _ _ _ _
          rw [show K s1.length = y from hs.2.1]
          refine kx_rn dP_workStep 1 57 [(0, .ref p), (1, .int (nI sg)), (2, .ref va), (3, .int x)] [.int x, .int y, .int (nI sg)] rfl ?_
          refine cP_49 (as := [.int (nI sg), .int y, .int x]) (st := []) (mc := 0) (ms := 0) (kc := 0) (ks := 0) rfl (kx_tk_dec rfl dP_workStep) rfl rfl (Nat.le_of_ble_eq_true rfl) (cP_combine0 (sg := sg) hst hsg hdz) (fun o h' hq => ?_)
          obtain ⟨rfl, rfl⟩ := hq
          show kx_w _ _ _ _ _ _ _ _ _ _ _
          refine kx_ret (ty := .int) (kx_tk_dec rfl dP_workStep) rfl rfl ?_
          exact ⟨dvO sg y x, s1, hz.symm, rfl, rfl, hs.2.2, by simp only [List.length_cons]; omega⟩
        · skip
          replace e35 : nI sg = 33 := e35
          replace e35 : sg = 33 := (nI_eq (a := sg) (b := 33) (by omega) (by omega)).mp e35
          exact absurd e35 f3
      · skip
        replace e17 : ¬ b01 false = 0 := e17
        replace e17 : false = true := b01_t e17
        cases e17
    · skip
      replace e4 : ¬ nI sg < 128 := e4
      replace e4 : ¬ sg < 128 := fun z => e4 ((nI_ltI (a := sg) (b := 128) (by omega) (by omega)).mpr z)
      exfalso; omega
  · skip
    obtain ⟨x, y, s1, rfl, -, -, -⟩ := tyV_two hv
    obtain ⟨sg, hsg, rfl⟩ := sg_of (Or.inr (Or.inl h1))
    obtain ⟨f1, f2, f3, f4, f5⟩ := sg_f sg hsg
    simp only [List.length_cons] at hl
    have hlS : lS W (-100 - nI sg) (x :: y :: s1) = if dvZ sg x = true then none else some (dvO sg y x :: s1) := by
      unfold lS
      rw [if_pos f4, if_neg f5, k_ss, nI_clamp (by omega)]
      rfl
    have hdz : dvZ sg x = false := kB_f (fun z => by rw [hlS, if_pos z] at hz; cases hz)
    rw [hlS, if_neg (by rw [hdz]; decide)] at hz
    injection hz with hz
    rw [cv_sg hsg]
    show kx_w _ _ _ _ _ _ _ _ [(0, .ref p), (1, .int (nI sg)), (2, .ref va)] _ (pH h p s k sz K (nI (s1.length + 1 + 1)))
    refine kx_rn dP_workStep 2 4 [(0, .ref p), (1, .int (nI sg)), (2, .ref va)] [.int 128, .int (nI sg)] rfl ?_
    refine kx_ic (tgt := 13) (kx_tk_dec rfl dP_workStep) rfl (fun e4 => ?_) (fun e4 => ?_)
    · skip
      replace e4 : nI sg < 128 := e4
      replace e4 : sg < 128 := (nI_ltI (a := sg) (b := 128) (by omega) (by omega)).mp e4
      refine kx_rn dP_workStep 1 14 [(0, .ref p), (1, .int (nI sg)), (2, .ref va)] [.int (nI sg)] rfl ?_
      refine cP_41 (as := [.int (nI sg)]) (st := []) (mc := 0) (ms := 0) (kc := 0) (ks := 0) rfl (kx_tk_dec rfl dP_workStep) rfl rfl (Nat.le_of_ble_eq_true rfl) (cP_isColumn hst) (fun o h' hq => ?_)
      obtain ⟨rfl, rfl⟩ := hq
      show kx_w _ _ _ _ _ _ _ _ _ _ _
      rw [f2]
      refine kx_if (tgt := 27) (kx_tk_dec rfl dP_workStep) rfl (fun e17 => ?_) (fun e17 => ?_)
      · skip
        replace e17 : b01 false = 0 := e17
        replace e17 : false = false := b01_f e17
        refine kx_rn dP_workStep 1 28 [(0, .ref p), (1, .int (nI sg)), (2, .ref va)] [.ref p] rfl ?_
        refine cP_37 (as := []) (st := []) (mc := 0) (ms := 0) (kc := 0) (ks := 0) rfl (kx_tk_dec rfl dP_workStep) (pH_p b) rfl rfl (Nat.le_of_ble_eq_true rfl) (cP_pop (n := s1.length + 1) hst b (by omega)) (fun o h' hq => ?_)
        obtain ⟨rfl, rfl⟩ := hq
        show kx_w _ _ _ _ _ _ _ _ _ _ _
        rw [show K (s1.length + 1) = x from hs.1]
        refine kx_rn dP_workStep 3 35 [(0, .ref p), (1, .int (nI sg)), (2, .ref va), (3, .int x)] [.int 33, .int (nI sg)] rfl ?_
        refine kx_ic (tgt := 51) (kx_tk_dec rfl dP_workStep) rfl (fun e35 => ?_) (fun e35 => ?_)
        · skip
          replace e35 : ¬ nI sg = 33 := e35
          replace e35 : ¬ sg = 33 := fun z => e35 ((nI_eq (a := sg) (b := 33) (by omega) (by omega)).mpr z)
          refine kx_rn dP_workStep 2 53 [(0, .ref p), (1, .int (nI sg)), (2, .ref va), (3, .int x)] [.ref p, .int (nI sg)] rfl ?_
          refine cP_37 (as := []) (st := [.int (nI sg)]) (mc := 0) (ms := 0) (kc := 0) (ks := 0) rfl (kx_tk_dec rfl dP_workStep) (pH_p b) rfl rfl (Nat.le_of_ble_eq_true rfl) (cP_pop (n := s1.length) hst b (by omega)) (fun o h' hq => ?_)
          obtain ⟨rfl, rfl⟩ := hq
          show kx_w _ _ _ _ _ _ _ _ _ _ _
          rw [show K s1.length = y from hs.2.1]
          refine kx_rn dP_workStep 1 57 [(0, .ref p), (1, .int (nI sg)), (2, .ref va), (3, .int x)] [.int x, .int y, .int (nI sg)] rfl ?_
          refine cP_49 (as := [.int (nI sg), .int y, .int x]) (st := []) (mc := 0) (ms := 0) (kc := 0) (ks := 0) rfl (kx_tk_dec rfl dP_workStep) rfl rfl (Nat.le_of_ble_eq_true rfl) (cP_combine0 (sg := sg) hst hsg hdz) (fun o h' hq => ?_)
          obtain ⟨rfl, rfl⟩ := hq
          show kx_w _ _ _ _ _ _ _ _ _ _ _
          refine kx_ret (ty := .int) (kx_tk_dec rfl dP_workStep) rfl rfl ?_
          exact ⟨dvO sg y x, s1, hz.symm, rfl, rfl, hs.2.2, by simp only [List.length_cons]; omega⟩
        · skip
          replace e35 : nI sg = 33 := e35
          replace e35 : sg = 33 := (nI_eq (a := sg) (b := 33) (by omega) (by omega)).mp e35
          exact absurd e35 f3
      · skip
        replace e17 : ¬ b01 false = 0 := e17
        replace e17 : false = true := b01_t e17
        cases e17
    · skip
      replace e4 : ¬ nI sg < 128 := e4
      replace e4 : ¬ sg < 128 := fun z => e4 ((nI_ltI (a := sg) (b := 128) (by omega) (by omega)).mpr z)
      exfalso; omega
  · skip
    obtain ⟨x, y, s1, rfl, -, -, -⟩ := tyV_two hv
    obtain ⟨sg, hsg, rfl⟩ := sg_of (Or.inr (Or.inr h1))
    obtain ⟨f1, f2, f3, f4, f5⟩ := sg_f sg hsg
    simp only [List.length_cons] at hl
    have hlS : lS W (-100 - nI sg) (x :: y :: s1) = if dvZ sg x = true then none else some (dvO sg y x :: s1) := by
      unfold lS
      rw [if_pos f4, if_neg f5, k_ss, nI_clamp (by omega)]
      rfl
    have hdz : dvZ sg x = false := kB_f (fun z => by rw [hlS, if_pos z] at hz; cases hz)
    rw [hlS, if_neg (by rw [hdz]; decide)] at hz
    injection hz with hz
    rw [cv_sg hsg]
    show kx_w _ _ _ _ _ _ _ _ [(0, .ref p), (1, .int (nI sg)), (2, .ref va)] _ (pH h p s k sz K (nI (s1.length + 1 + 1)))
    refine kx_rn dP_workStep 2 4 [(0, .ref p), (1, .int (nI sg)), (2, .ref va)] [.int 128, .int (nI sg)] rfl ?_
    refine kx_ic (tgt := 13) (kx_tk_dec rfl dP_workStep) rfl (fun e4 => ?_) (fun e4 => ?_)
    · skip
      replace e4 : nI sg < 128 := e4
      replace e4 : sg < 128 := (nI_ltI (a := sg) (b := 128) (by omega) (by omega)).mp e4
      refine kx_rn dP_workStep 1 14 [(0, .ref p), (1, .int (nI sg)), (2, .ref va)] [.int (nI sg)] rfl ?_
      refine cP_41 (as := [.int (nI sg)]) (st := []) (mc := 0) (ms := 0) (kc := 0) (ks := 0) rfl (kx_tk_dec rfl dP_workStep) rfl rfl (Nat.le_of_ble_eq_true rfl) (cP_isColumn hst) (fun o h' hq => ?_)
      obtain ⟨rfl, rfl⟩ := hq
      show kx_w _ _ _ _ _ _ _ _ _ _ _
      rw [f2]
      refine kx_if (tgt := 27) (kx_tk_dec rfl dP_workStep) rfl (fun e17 => ?_) (fun e17 => ?_)
      · skip
        replace e17 : b01 false = 0 := e17
        replace e17 : false = false := b01_f e17
        refine kx_rn dP_workStep 1 28 [(0, .ref p), (1, .int (nI sg)), (2, .ref va)] [.ref p] rfl ?_
        refine cP_37 (as := []) (st := []) (mc := 0) (ms := 0) (kc := 0) (ks := 0) rfl (kx_tk_dec rfl dP_workStep) (pH_p b) rfl rfl (Nat.le_of_ble_eq_true rfl) (cP_pop (n := s1.length + 1) hst b (by omega)) (fun o h' hq => ?_)
        obtain ⟨rfl, rfl⟩ := hq
        show kx_w _ _ _ _ _ _ _ _ _ _ _
        rw [show K (s1.length + 1) = x from hs.1]
        refine kx_rn dP_workStep 3 35 [(0, .ref p), (1, .int (nI sg)), (2, .ref va), (3, .int x)] [.int 33, .int (nI sg)] rfl ?_
        refine kx_ic (tgt := 51) (kx_tk_dec rfl dP_workStep) rfl (fun e35 => ?_) (fun e35 => ?_)
        · skip
          replace e35 : ¬ nI sg = 33 := e35
          replace e35 : ¬ sg = 33 := fun z => e35 ((nI_eq (a := sg) (b := 33) (by omega) (by omega)).mpr z)
          refine kx_rn dP_workStep 2 53 [(0, .ref p), (1, .int (nI sg)), (2, .ref va), (3, .int x)] [.ref p, .int (nI sg)] rfl ?_
          refine cP_37 (as := []) (st := [.int (nI sg)]) (mc := 0) (ms := 0) (kc := 0) (ks := 0) rfl (kx_tk_dec rfl dP_workStep) (pH_p b) rfl rfl (Nat.le_of_ble_eq_true rfl) (cP_pop (n := s1.length) hst b (by omega)) (fun o h' hq => ?_)
          obtain ⟨rfl, rfl⟩ := hq
          show kx_w _ _ _ _ _ _ _ _ _ _ _
          rw [show K s1.length = y from hs.2.1]
          refine kx_rn dP_workStep 1 57 [(0, .ref p), (1, .int (nI sg)), (2, .ref va), (3, .int x)] [.int x, .int y, .int (nI sg)] rfl ?_
          refine cP_49 (as := [.int (nI sg), .int y, .int x]) (st := []) (mc := 0) (ms := 0) (kc := 0) (ks := 0) rfl (kx_tk_dec rfl dP_workStep) rfl rfl (Nat.le_of_ble_eq_true rfl) (cP_combine0 (sg := sg) hst hsg hdz) (fun o h' hq => ?_)
          obtain ⟨rfl, rfl⟩ := hq
          show kx_w _ _ _ _ _ _ _ _ _ _ _
          refine kx_ret (ty := .int) (kx_tk_dec rfl dP_workStep) rfl rfl ?_
          exact ⟨dvO sg y x, s1, hz.symm, rfl, rfl, hs.2.2, by simp only [List.length_cons]; omega⟩
        · skip
          replace e35 : nI sg = 33 := e35
          replace e35 : sg = 33 := (nI_eq (a := sg) (b := 33) (by omega) (by omega)).mp e35
          exact absurd e35 f3
      · skip
        replace e17 : ¬ b01 false = 0 := e17
        replace e17 : false = true := b01_t e17
        cases e17
    · skip
      replace e4 : ¬ nI sg < 128 := e4
      replace e4 : ¬ sg < 128 := fun z => e4 ((nI_ltI (a := sg) (b := 128) (by omega) (by omega)).mpr z)
      exfalso; omega
set_option maxRecDepth 100000 in
theorem cP_workStep1 {i : Int32} {t u : List Bool} {s0 : List Int32} (hst : l.stackTraces = false) (b : pFx G h p s k va F W) (hi : itT i t u) (hv : tyV t s0) (hs : stk K s0) (hl : s0.length ≤ 40) (hz : lS W i s0 = none) :
    kx_c G l mP_workStep (d + 2) 1 6 [.ref p, .int (cv i), .ref va] (pH h p s k sz K (nI s0.length)) (fun o h' => ∃ ht', o = .threw (pH h p s k sz K ht').1 ∧ h' = kx_new (pH h p s k sz K ht') (.inr (13, []))) := by
  refine kx_in (by decide +kernel) (Nat.le_of_ble_eq_true rfl) hst ?_
  rcases hi with ⟨v, hv1, rfl, rfl⟩ | ⟨c, hc1, rfl, rfl⟩ | ⟨t0, rfl, rfl, rfl⟩ | ⟨c, t0, h1, rfl, rfl, rfl⟩ | ⟨c, t0, h1, rfl, rfl, rfl⟩ | ⟨c, t0, h1, rfl, rfl, rfl⟩
  · unfold lS at hz; rw [if_neg (nI_n4 hv1)] at hz; cases hz
  · unfold lS at hz; rw [if_neg (col_n4 hc1)] at hz; cases hz
  · obtain ⟨x, s1, rfl, h1, h2⟩ := tyV_one hv
    unfold lS at hz
    rw [if_pos (by decide), if_pos rfl] at hz
    cases hz
  · skip
    obtain ⟨x, y, s1, rfl, -, -, -⟩ := tyV_two hv
    obtain ⟨sg, hsg, rfl⟩ := sg_of (Or.inl h1)
    obtain ⟨f1, f2, f3, f4, f5⟩ := sg_f sg hsg
    simp only [List.length_cons] at hl
    have hlS : lS W (-100 - nI sg) (x :: y :: s1) = if dvZ sg x = true then none else some (dvO sg y x :: s1) := by
      unfold lS
      rw [if_pos f4, if_neg f5, k_ss, nI_clamp (by omega)]
      rfl
    have hdz : dvZ sg x = true := Classical.byContradiction (fun z => by rw [hlS, if_neg z] at hz; cases hz)
    replace hdz := of_decide_eq_true hdz
    obtain rfl := hdz.1
    rw [cv_sg hsg]
    show kx_w _ _ _ _ _ _ _ _ [(0, .ref p), (1, .int 47), (2, .ref va)] _ (pH h p s k sz K (nI (s1.length + 1 + 1)))
    refine kx_rn dP_workStep 2 4 [(0, .ref p), (1, .int 47), (2, .ref va)] [.int 128, .int 47] rfl ?_
    refine kx_ic (tgt := 13) (kx_tk_dec rfl dP_workStep) rfl (fun e4 => ?_) (fun e4 => ?_)
    · skip
      replace e4 : (47 : Int32) < 128 := e4
      refine kx_rn dP_workStep 1 14 [(0, .ref p), (1, .int 47), (2, .ref va)] [.int 47] rfl ?_
      refine cP_41 (as := [.int 47]) (st := []) (mc := 0) (ms := 0) (kc := 1) (ks := 6) rfl (kx_tk_dec rfl dP_workStep) rfl rfl (Nat.le_of_ble_eq_true rfl) (cP_isColumn hst) (fun o h' hq => ?_)
      obtain ⟨rfl, rfl⟩ := hq
      show kx_w _ _ _ _ _ _ _ _ _ _ _
      rw [show isCol 47 = false by decide]
      refine kx_if (tgt := 27) (kx_tk_dec rfl dP_workStep) rfl (fun e17 => ?_) (fun e17 => ?_)
      · skip
        replace e17 : b01 false = 0 := e17
        replace e17 : false = false := b01_f e17
        refine kx_rn dP_workStep 1 28 [(0, .ref p), (1, .int 47), (2, .ref va)] [.ref p] rfl ?_
        refine cP_37 (as := []) (st := []) (mc := 0) (ms := 0) (kc := 1) (ks := 6) rfl (kx_tk_dec rfl dP_workStep) (pH_p b) rfl rfl (Nat.le_of_ble_eq_true rfl) (cP_pop (n := s1.length + 1) hst b (by omega)) (fun o h' hq => ?_)
        obtain ⟨rfl, rfl⟩ := hq
        show kx_w _ _ _ _ _ _ _ _ _ _ _
        rw [show K (s1.length + 1) = x from hs.1]
        refine kx_rn dP_workStep 3 35 [(0, .ref p), (1, .int 47), (2, .ref va), (3, .int x)] [.int 33, .int 47] rfl ?_
        refine kx_ic (tgt := 51) (kx_tk_dec rfl dP_workStep) rfl (fun e35 => ?_) (fun e35 => ?_)
        · skip
          replace e35 : ¬ (47 : Int32) = 33 := e35
          refine kx_rn dP_workStep 2 53 [(0, .ref p), (1, .int 47), (2, .ref va), (3, .int x)] [.ref p, .int 47] rfl ?_
          refine cP_37 (as := []) (st := [.int 47]) (mc := 0) (ms := 0) (kc := 1) (ks := 6) rfl (kx_tk_dec rfl dP_workStep) (pH_p b) rfl rfl (Nat.le_of_ble_eq_true rfl) (cP_pop (n := s1.length) hst b (by omega)) (fun o h' hq => ?_)
          obtain ⟨rfl, rfl⟩ := hq
          show kx_w _ _ _ _ _ _ _ _ _ _ _
          rw [show K s1.length = y from hs.2.1]
          refine kx_rn dP_workStep 1 57 [(0, .ref p), (1, .int 47), (2, .ref va), (3, .int x)] [.int x, .int y, .int 47] rfl ?_
          refine cP_49 (as := [.int 47, .int y, .int x]) (st := []) (mc := 1) (ms := 6) (kc := 0) (ks := 0) rfl (kx_tk_dec rfl dP_workStep) rfl rfl (Nat.le_of_ble_eq_true rfl) (cP_combine1 hst hdz.2) (fun o h' hq => ?_)
          obtain ⟨rfl, rfl⟩ := hq
          exact kx_out (fun q hq => by cases hq) ⟨_, rfl, rfl⟩
        · skip
          replace e35 : (47 : Int32) = 33 := e35
          exact absurd e35 (by decide)
      · skip
        replace e17 : ¬ b01 false = 0 := e17
        replace e17 : false = true := b01_t e17
        cases e17
    · skip
      replace e4 : ¬ (47 : Int32) < 128 := e4
      exact absurd (by decide) e4
  · skip
    obtain ⟨x, y, s1, rfl, -, -, -⟩ := tyV_two hv
    obtain ⟨sg, hsg, rfl⟩ := sg_of (Or.inr (Or.inl h1))
    obtain ⟨f1, f2, f3, f4, f5⟩ := sg_f sg hsg
    simp only [List.length_cons] at hl
    have hlS : lS W (-100 - nI sg) (x :: y :: s1) = if dvZ sg x = true then none else some (dvO sg y x :: s1) := by
      unfold lS
      rw [if_pos f4, if_neg f5, k_ss, nI_clamp (by omega)]
      rfl
    have hdz : dvZ sg x = true := Classical.byContradiction (fun z => by rw [hlS, if_neg z] at hz; cases hz)
    replace hdz := of_decide_eq_true hdz
    obtain rfl := hdz.1
    rw [cv_sg hsg]
    show kx_w _ _ _ _ _ _ _ _ [(0, .ref p), (1, .int 47), (2, .ref va)] _ (pH h p s k sz K (nI (s1.length + 1 + 1)))
    refine kx_rn dP_workStep 2 4 [(0, .ref p), (1, .int 47), (2, .ref va)] [.int 128, .int 47] rfl ?_
    refine kx_ic (tgt := 13) (kx_tk_dec rfl dP_workStep) rfl (fun e4 => ?_) (fun e4 => ?_)
    · skip
      replace e4 : (47 : Int32) < 128 := e4
      refine kx_rn dP_workStep 1 14 [(0, .ref p), (1, .int 47), (2, .ref va)] [.int 47] rfl ?_
      refine cP_41 (as := [.int 47]) (st := []) (mc := 0) (ms := 0) (kc := 1) (ks := 6) rfl (kx_tk_dec rfl dP_workStep) rfl rfl (Nat.le_of_ble_eq_true rfl) (cP_isColumn hst) (fun o h' hq => ?_)
      obtain ⟨rfl, rfl⟩ := hq
      show kx_w _ _ _ _ _ _ _ _ _ _ _
      rw [show isCol 47 = false by decide]
      refine kx_if (tgt := 27) (kx_tk_dec rfl dP_workStep) rfl (fun e17 => ?_) (fun e17 => ?_)
      · skip
        replace e17 : b01 false = 0 := e17
        replace e17 : false = false := b01_f e17
        refine kx_rn dP_workStep 1 28 [(0, .ref p), (1, .int 47), (2, .ref va)] [.ref p] rfl ?_
        refine cP_37 (as := []) (st := []) (mc := 0) (ms := 0) (kc := 1) (ks := 6) rfl (kx_tk_dec rfl dP_workStep) (pH_p b) rfl rfl (Nat.le_of_ble_eq_true rfl) (cP_pop (n := s1.length + 1) hst b (by omega)) (fun o h' hq => ?_)
        obtain ⟨rfl, rfl⟩ := hq
        show kx_w _ _ _ _ _ _ _ _ _ _ _
        rw [show K (s1.length + 1) = x from hs.1]
        refine kx_rn dP_workStep 3 35 [(0, .ref p), (1, .int 47), (2, .ref va), (3, .int x)] [.int 33, .int 47] rfl ?_
        refine kx_ic (tgt := 51) (kx_tk_dec rfl dP_workStep) rfl (fun e35 => ?_) (fun e35 => ?_)
        · skip
          replace e35 : ¬ (47 : Int32) = 33 := e35
          refine kx_rn dP_workStep 2 53 [(0, .ref p), (1, .int 47), (2, .ref va), (3, .int x)] [.ref p, .int 47] rfl ?_
          refine cP_37 (as := []) (st := [.int 47]) (mc := 0) (ms := 0) (kc := 1) (ks := 6) rfl (kx_tk_dec rfl dP_workStep) (pH_p b) rfl rfl (Nat.le_of_ble_eq_true rfl) (cP_pop (n := s1.length) hst b (by omega)) (fun o h' hq => ?_)
          obtain ⟨rfl, rfl⟩ := hq
          show kx_w _ _ _ _ _ _ _ _ _ _ _
          rw [show K s1.length = y from hs.2.1]
          refine kx_rn dP_workStep 1 57 [(0, .ref p), (1, .int 47), (2, .ref va), (3, .int x)] [.int x, .int y, .int 47] rfl ?_
          refine cP_49 (as := [.int 47, .int y, .int x]) (st := []) (mc := 1) (ms := 6) (kc := 0) (ks := 0) rfl (kx_tk_dec rfl dP_workStep) rfl rfl (Nat.le_of_ble_eq_true rfl) (cP_combine1 hst hdz.2) (fun o h' hq => ?_)
          obtain ⟨rfl, rfl⟩ := hq
          exact kx_out (fun q hq => by cases hq) ⟨_, rfl, rfl⟩
        · skip
          replace e35 : (47 : Int32) = 33 := e35
          exact absurd e35 (by decide)
      · skip
        replace e17 : ¬ b01 false = 0 := e17
        replace e17 : false = true := b01_t e17
        cases e17
    · skip
      replace e4 : ¬ (47 : Int32) < 128 := e4
      exact absurd (by decide) e4
  · skip
    obtain ⟨x, y, s1, rfl, -, -, -⟩ := tyV_two hv
    obtain ⟨sg, hsg, rfl⟩ := sg_of (Or.inr (Or.inr h1))
    obtain ⟨f1, f2, f3, f4, f5⟩ := sg_f sg hsg
    simp only [List.length_cons] at hl
    have hlS : lS W (-100 - nI sg) (x :: y :: s1) = if dvZ sg x = true then none else some (dvO sg y x :: s1) := by
      unfold lS
      rw [if_pos f4, if_neg f5, k_ss, nI_clamp (by omega)]
      rfl
    have hdz : dvZ sg x = true := Classical.byContradiction (fun z => by rw [hlS, if_neg z] at hz; cases hz)
    replace hdz := of_decide_eq_true hdz
    obtain rfl := hdz.1
    rw [cv_sg hsg]
    show kx_w _ _ _ _ _ _ _ _ [(0, .ref p), (1, .int 47), (2, .ref va)] _ (pH h p s k sz K (nI (s1.length + 1 + 1)))
    refine kx_rn dP_workStep 2 4 [(0, .ref p), (1, .int 47), (2, .ref va)] [.int 128, .int 47] rfl ?_
    refine kx_ic (tgt := 13) (kx_tk_dec rfl dP_workStep) rfl (fun e4 => ?_) (fun e4 => ?_)
    · skip
      replace e4 : (47 : Int32) < 128 := e4
      refine kx_rn dP_workStep 1 14 [(0, .ref p), (1, .int 47), (2, .ref va)] [.int 47] rfl ?_
      refine cP_41 (as := [.int 47]) (st := []) (mc := 0) (ms := 0) (kc := 1) (ks := 6) rfl (kx_tk_dec rfl dP_workStep) rfl rfl (Nat.le_of_ble_eq_true rfl) (cP_isColumn hst) (fun o h' hq => ?_)
      obtain ⟨rfl, rfl⟩ := hq
      show kx_w _ _ _ _ _ _ _ _ _ _ _
      rw [show isCol 47 = false by decide]
      refine kx_if (tgt := 27) (kx_tk_dec rfl dP_workStep) rfl (fun e17 => ?_) (fun e17 => ?_)
      · skip
        replace e17 : b01 false = 0 := e17
        replace e17 : false = false := b01_f e17
        refine kx_rn dP_workStep 1 28 [(0, .ref p), (1, .int 47), (2, .ref va)] [.ref p] rfl ?_
        refine cP_37 (as := []) (st := []) (mc := 0) (ms := 0) (kc := 1) (ks := 6) rfl (kx_tk_dec rfl dP_workStep) (pH_p b) rfl rfl (Nat.le_of_ble_eq_true rfl) (cP_pop (n := s1.length + 1) hst b (by omega)) (fun o h' hq => ?_)
        obtain ⟨rfl, rfl⟩ := hq
        show kx_w _ _ _ _ _ _ _ _ _ _ _
        rw [show K (s1.length + 1) = x from hs.1]
        refine kx_rn dP_workStep 3 35 [(0, .ref p), (1, .int 47), (2, .ref va), (3, .int x)] [.int 33, .int 47] rfl ?_
        refine kx_ic (tgt := 51) (kx_tk_dec rfl dP_workStep) rfl (fun e35 => ?_) (fun e35 => ?_)
        · skip
          replace e35 : ¬ (47 : Int32) = 33 := e35
          refine kx_rn dP_workStep 2 53 [(0, .ref p), (1, .int 47), (2, .ref va), (3, .int x)] [.ref p, .int 47] rfl ?_
          refine cP_37 (as := []) (st := [.int 47]) (mc := 0) (ms := 0) (kc := 1) (ks := 6) rfl (kx_tk_dec rfl dP_workStep) (pH_p b) rfl rfl (Nat.le_of_ble_eq_true rfl) (cP_pop (n := s1.length) hst b (by omega)) (fun o h' hq => ?_)
          obtain ⟨rfl, rfl⟩ := hq
          show kx_w _ _ _ _ _ _ _ _ _ _ _
          rw [show K s1.length = y from hs.2.1]
          refine kx_rn dP_workStep 1 57 [(0, .ref p), (1, .int 47), (2, .ref va), (3, .int x)] [.int x, .int y, .int 47] rfl ?_
          refine cP_49 (as := [.int 47, .int y, .int x]) (st := []) (mc := 1) (ms := 6) (kc := 0) (ks := 0) rfl (kx_tk_dec rfl dP_workStep) rfl rfl (Nat.le_of_ble_eq_true rfl) (cP_combine1 hst hdz.2) (fun o h' hq => ?_)
          obtain ⟨rfl, rfl⟩ := hq
          exact kx_out (fun q hq => by cases hq) ⟨_, rfl, rfl⟩
        · skip
          replace e35 : (47 : Int32) = 33 := e35
          exact absurd e35 (by decide)
      · skip
        replace e17 : ¬ b01 false = 0 := e17
        replace e17 : false = true := b01_t e17
        cases e17
    · skip
      replace e4 : ¬ (47 : Int32) < 128 := e4
      exact absurd (by decide) e4
theorem itT_le {i : Int32} {t u : List Bool} (h : itT i t u) : u.length ≤ t.length + 1 := by
  rcases h with ⟨v, -, -, rfl⟩ | ⟨c, -, -, rfl⟩ | ⟨t0, -, rfl, rfl⟩ | ⟨c, t0, -, -, rfl, rfl⟩ | ⟨c, t0, -, -, rfl, rfl⟩ | ⟨c, t0, -, -, rfl, rfl⟩ <;> simp only [List.length_cons] <;> omega
set_option maxRecDepth 100000 in
theorem cP_work0 {es : List Int32} {bb : Bool} (hst : l.stackTraces = false) (b : pFx G h p s k va F W) (hty : tyL es [] = some [bb]) (hle : es.length ≤ 40) (hF : ∀ q y, es[q]? = some y → F q = cv y) (hall : ¬ lE W es [] = none) :
    kx_c G l mP_work (d + 3) 0 0 [.ref p, .ref va] (pH h p s k (nI es.length) K ht) (fun o h' => ∃ x K', lE W es [] = some [x] ∧ o = .returned (some (.int x)) ∧ h' = pH h p s k (nI es.length) K' (nI 0)) := by
  obtain ⟨s9, hall⟩ : ∃ s9, lE W es [] = some s9 := by
    cases e : lE W es [] with
    | none => exact absurd e hall
    | some s9 => exact ⟨s9, rfl⟩
  refine kx_in (by decide +kernel) (Nat.le_of_ble_eq_true rfl) hst ?_
  have loop : ∀ (rs : List Int32) (j : Nat) (t : List Bool) (s2 : List Int32) (K2 : Nat → Int32), j + rs.length = es.length → (∀ q y, rs[q]? = some y → F (j + q) = cv y) → tyL rs t = some [bb] → tyV t s2 → stk K2 s2 → s2.length ≤ j → lE W rs s2 = lE W es [] → kx_w G l mP_work (d + 3) (fun o h' => ∃ x K', lE W es [] = some [x] ∧ o = .returned (some (.int x)) ∧ h' = pH h p s k (nI es.length) K' (nI 0)) 0 0 7 [(0, .ref p), (1, .ref va), (2, .int (nI j))] [] (pH h p s k (nI es.length) K2 (nI s2.length)) := by
    intro rs
    induction rs with
    | nil =>
      intro j t s2 K2 hj hFj ht hv hs hl hres
      injection ht with ht
      subst ht
      obtain ⟨x, s3, rfl, -, h3⟩ := tyV_one hv
      have h4 : s3 = [] := by
        cases s3 with
        | nil => rfl
        | cons a b => exact h3.elim
      subst h4
      simp only [List.length_nil, Nat.add_zero] at hj
      show kx_w _ _ _ _ _ _ _ _ _ _ (pH h p s k (nI es.length) K2 (nI (0 + 1)))
      refine kx_rn dP_work 2 9 [(0, .ref p), (1, .ref va), (2, .int (nI j))] [.ref p, .int (nI j)] rfl ?_
      refine pP_18 (v := .int (nI es.length)) rfl (kx_tk_dec rfl dP_work) (pH_p b) rfl ?_
      refine kx_ic (tgt := 36) (kx_tk_dec rfl dP_work) rfl (fun e12 => ?_) (fun e12 => ?_)
      · skip
        replace e12 : nI es.length ≤ nI j := e12
        replace e12 : es.length ≤ j := (nI_leI (a := es.length) (b := j) (by omega) (by omega)).mp e12
        refine kx_rn dP_work 1 37 [(0, .ref p), (1, .ref va), (2, .int (nI j))] [.ref p] rfl ?_
        refine cP_37 (as := []) (st := []) (mc := 0) (ms := 0) (kc := 0) (ks := 0) rfl (kx_tk_dec rfl dP_work) (pH_p b) rfl rfl (Nat.le_of_ble_eq_true rfl) (cP_pop (K := K2) (n := 0) hst b (by decide)) (fun o h' hq => ?_)
        obtain ⟨rfl, rfl⟩ := hq
        show kx_w _ _ _ _ _ _ _ _ _ _ _
        refine kx_ret (ty := .int) (kx_tk_dec rfl dP_work) rfl rfl ?_
        exact ⟨K2 0, K2, by rw [← hres]; show some [x] = _; rw [show K2 0 = x from hs.1], rfl, rfl⟩
      · skip
        replace e12 : ¬ nI es.length ≤ nI j := e12
        replace e12 : ¬ es.length ≤ j := fun z => e12 ((nI_leI (a := es.length) (b := j) (by omega) (by omega)).mpr z)
        exfalso; omega
    | cons i rs ih =>
      intro j t s2 K2 hj hFj ht hv hs hl hres
      simp only [List.length_cons] at hj
      simp only [tyL] at ht
      cases hts : tyS i t with
      | none => rw [hts] at ht; cases ht
      | some u =>
       rw [hts, Option.bind_some] at ht
       have htL := ht
       have hi := itT_of hts
       have hF : F j = cv i := hFj 0 i rfl
       have hl : s2.length ≤ 40 := by omega
       cases hz : lS W i s2 with
       | none =>
        rw [← hres] at hall
        simp only [lE] at hall
        rw [hz] at hall
        cases hall
       | some s9 =>
        refine kx_rn dP_work 2 9 [(0, .ref p), (1, .ref va), (2, .int (nI j))] [.ref p, .int (nI j)] rfl ?_
        refine pP_18 (v := .int (nI es.length)) rfl (kx_tk_dec rfl dP_work) (pH_p b) rfl ?_
        refine kx_ic (tgt := 36) (kx_tk_dec rfl dP_work) rfl (fun e12 => ?_) (fun e12 => ?_)
        · skip
          replace e12 : nI es.length ≤ nI j := e12
          replace e12 : es.length ≤ j := (nI_leI (a := es.length) (b := j) (by omega) (by omega)).mp e12
          exfalso; omega
        · skip
          replace e12 : ¬ nI es.length ≤ nI j := e12
          replace e12 : ¬ es.length ≤ j := fun z => e12 ((nI_leI (a := es.length) (b := j) (by omega) (by omega)).mpr z)
          refine kx_rn dP_work 3 18 [(0, .ref p), (1, .ref va), (2, .int (nI j))] [.ref p, .ref p, .ref p] rfl ?_
          refine pP_9 (v := .ref s) rfl (kx_tk_dec rfl dP_work) (pH_p b) rfl ?_
          refine kx_rn dP_work 1 22 [(0, .ref p), (1, .ref va), (2, .int (nI j))] [.int (nI j), .ref s, .ref p, .ref p] rfl ?_
          refine kx_ildN (x := F j) (i := j) (kx_tk_dec rfl dP_work) (pH_s b) (by show j < 40; omega) (by decide) rfl ?_
          rw [hF]
          refine kx_rn dP_work 1 24 [(0, .ref p), (1, .ref va), (2, .int (nI j))] [.ref va, .int (cv i), .ref p, .ref p] rfl ?_
          refine cP_29 (as := [.int (cv i), .ref va]) (st := [.ref p]) (mc := 0) (ms := 0) (kc := 0) (ks := 0) rfl (kx_tk_dec rfl dP_work) (pH_p b) rfl rfl (Nat.le_of_ble_eq_true rfl) (cP_workStep0 (d := d) (K := K2) hst b hi hv hs hl hz) (fun o h' hq => ?_)
          obtain ⟨x, s1, rfl, rfl, rfl, hs1, hl1⟩ := hq
          show kx_w _ _ _ _ _ _ _ _ _ _ _
          have hu := lS_ty hi hv hz
          have hul := tyV_len hu
          simp only [List.length_cons] at hul
          refine cP_33 (as := [.int x]) (st := []) (mc := 0) (ms := 0) (kc := 0) (ks := 0) rfl (kx_tk_dec rfl dP_work) (pH_p b) rfl rfl (Nat.le_of_ble_eq_true rfl) (cP_push (K := K2) (n := s1.length) (x := x) hst b (by have := itT_le hi; omega)) (fun o h' hq => ?_)
          obtain ⟨rfl, rfl⟩ := hq
          show kx_w _ _ _ _ _ _ _ _ _ _ _
          refine kx_rn dP_work 2 7 [(0, .ref p), (1, .ref va), (2, .int ((nI j) + 1))] [] rfl ?_
          rw [show (nI j) + 1 = nI (j + 1) from kn_ad rfl rfl]
          refine ih (j + 1) _ (x :: s1) _ (by omega) (fun q y hq => ?_) htL hu (stk_push hs1) (by simp only [List.length_cons]; omega) ?_
          · have := hFj (q + 1) y (by simpa using hq)
            rw [show j + 1 + q = j + (q + 1) by omega]; exact this
          · rw [← hres]
            simp only [lE]
            rw [hz]; rfl
  refine kx_rn dP_work 2 2 [(0, .ref p), (1, .ref va)] [.int 0, .ref p] rfl ?_
  refine qP_22 rfl (kx_tk_dec rfl dP_work) (pH_p b) rfl rfl (Nat.le_of_ble_eq_true rfl) ?_
  refine kx_heq (pH_sp (ht' := 0)) ?_
  refine kx_rn dP_work 2 7 [(0, .ref p), (1, .ref va), (2, .int 0)] [] rfl ?_
  exact loop es 0 [] [] K (by omega) (fun q y hq => by rw [Nat.zero_add]; exact hF q y hq) hty trivial trivial (Nat.le_refl _) rfl
set_option maxRecDepth 100000 in
theorem cP_work1 {es : List Int32} {bb : Bool} (hst : l.stackTraces = false) (b : pFx G h p s k va F W) (hty : tyL es [] = some [bb]) (hle : es.length ≤ 40) (hF : ∀ q y, es[q]? = some y → F q = cv y) (hall : lE W es [] = none) :
    kx_c G l mP_work (d + 3) 1 6 [.ref p, .ref va] (pH h p s k (nI es.length) K ht) (fun o h' => ∃ K' ht', o = .threw (pH h p s k (nI es.length) K' ht').1 ∧ h' = kx_new (pH h p s k (nI es.length) K' ht') (.inr (13, []))) := by
  refine kx_in (by decide +kernel) (Nat.le_of_ble_eq_true rfl) hst ?_
  have loop : ∀ (rs : List Int32) (j : Nat) (t : List Bool) (s2 : List Int32) (K2 : Nat → Int32), j + rs.length = es.length → (∀ q y, rs[q]? = some y → F (j + q) = cv y) → tyL rs t = some [bb] → tyV t s2 → stk K2 s2 → s2.length ≤ j → lE W rs s2 = lE W es [] → kx_w G l mP_work (d + 3) (fun o h' => ∃ K' ht', o = .threw (pH h p s k (nI es.length) K' ht').1 ∧ h' = kx_new (pH h p s k (nI es.length) K' ht') (.inr (13, []))) 1 6 7 [(0, .ref p), (1, .ref va), (2, .int (nI j))] [] (pH h p s k (nI es.length) K2 (nI s2.length)) := by
    intro rs
    induction rs with
    | nil =>
      intro j t s2 K2 hj hFj ht hv hs hl hres
      rw [hall] at hres; cases hres
    | cons i rs ih =>
      intro j t s2 K2 hj hFj ht hv hs hl hres
      simp only [List.length_cons] at hj
      simp only [tyL] at ht
      cases hts : tyS i t with
      | none => rw [hts] at ht; cases ht
      | some u =>
       rw [hts, Option.bind_some] at ht
       have htL := ht
       have hi := itT_of hts
       have hF : F j = cv i := hFj 0 i rfl
       have hl : s2.length ≤ 40 := by omega
       cases hz : lS W i s2 with
       | none =>
        refine kx_rn dP_work 2 9 [(0, .ref p), (1, .ref va), (2, .int (nI j))] [.ref p, .int (nI j)] rfl ?_
        refine pP_18 (v := .int (nI es.length)) rfl (kx_tk_dec rfl dP_work) (pH_p b) rfl ?_
        refine kx_ic (tgt := 36) (kx_tk_dec rfl dP_work) rfl (fun e12 => ?_) (fun e12 => ?_)
        · skip
          replace e12 : nI es.length ≤ nI j := e12
          replace e12 : es.length ≤ j := (nI_leI (a := es.length) (b := j) (by omega) (by omega)).mp e12
          exfalso; omega
        · skip
          replace e12 : ¬ nI es.length ≤ nI j := e12
          replace e12 : ¬ es.length ≤ j := fun z => e12 ((nI_leI (a := es.length) (b := j) (by omega) (by omega)).mpr z)
          refine kx_rn dP_work 3 18 [(0, .ref p), (1, .ref va), (2, .int (nI j))] [.ref p, .ref p, .ref p] rfl ?_
          refine pP_9 (v := .ref s) rfl (kx_tk_dec rfl dP_work) (pH_p b) rfl ?_
          refine kx_rn dP_work 1 22 [(0, .ref p), (1, .ref va), (2, .int (nI j))] [.int (nI j), .ref s, .ref p, .ref p] rfl ?_
          refine kx_ildN (x := F j) (i := j) (kx_tk_dec rfl dP_work) (pH_s b) (by show j < 40; omega) (by decide) rfl ?_
          rw [hF]
          refine kx_rn dP_work 1 24 [(0, .ref p), (1, .ref va), (2, .int (nI j))] [.ref va, .int (cv i), .ref p, .ref p] rfl ?_
          refine cP_29 (as := [.int (cv i), .ref va]) (st := [.ref p]) (mc := 1) (ms := 6) (kc := 0) (ks := 0) rfl (kx_tk_dec rfl dP_work) (pH_p b) rfl rfl (Nat.le_of_ble_eq_true rfl) (cP_workStep1 (d := d) (K := K2) hst b hi hv hs hl hz) (fun o h' hq => ?_)
          obtain ⟨ht2, rfl, rfl⟩ := hq
          exact kx_out (fun q hq => by cases hq) ⟨_, _, rfl, rfl⟩
       | some s9 =>
        refine kx_rn dP_work 2 9 [(0, .ref p), (1, .ref va), (2, .int (nI j))] [.ref p, .int (nI j)] rfl ?_
        refine pP_18 (v := .int (nI es.length)) rfl (kx_tk_dec rfl dP_work) (pH_p b) rfl ?_
        refine kx_ic (tgt := 36) (kx_tk_dec rfl dP_work) rfl (fun e12 => ?_) (fun e12 => ?_)
        · skip
          replace e12 : nI es.length ≤ nI j := e12
          replace e12 : es.length ≤ j := (nI_leI (a := es.length) (b := j) (by omega) (by omega)).mp e12
          exfalso; omega
        · skip
          replace e12 : ¬ nI es.length ≤ nI j := e12
          replace e12 : ¬ es.length ≤ j := fun z => e12 ((nI_leI (a := es.length) (b := j) (by omega) (by omega)).mpr z)
          refine kx_rn dP_work 3 18 [(0, .ref p), (1, .ref va), (2, .int (nI j))] [.ref p, .ref p, .ref p] rfl ?_
          refine pP_9 (v := .ref s) rfl (kx_tk_dec rfl dP_work) (pH_p b) rfl ?_
          refine kx_rn dP_work 1 22 [(0, .ref p), (1, .ref va), (2, .int (nI j))] [.int (nI j), .ref s, .ref p, .ref p] rfl ?_
          refine kx_ildN (x := F j) (i := j) (kx_tk_dec rfl dP_work) (pH_s b) (by show j < 40; omega) (by decide) rfl ?_
          rw [hF]
          refine kx_rn dP_work 1 24 [(0, .ref p), (1, .ref va), (2, .int (nI j))] [.ref va, .int (cv i), .ref p, .ref p] rfl ?_
          refine cP_29 (as := [.int (cv i), .ref va]) (st := [.ref p]) (mc := 0) (ms := 0) (kc := 1) (ks := 6) rfl (kx_tk_dec rfl dP_work) (pH_p b) rfl rfl (Nat.le_of_ble_eq_true rfl) (cP_workStep0 (d := d) (K := K2) hst b hi hv hs hl hz) (fun o h' hq => ?_)
          obtain ⟨x, s1, rfl, rfl, rfl, hs1, hl1⟩ := hq
          show kx_w _ _ _ _ _ _ _ _ _ _ _
          have hu := lS_ty hi hv hz
          have hul := tyV_len hu
          simp only [List.length_cons] at hul
          refine cP_33 (as := [.int x]) (st := []) (mc := 0) (ms := 0) (kc := 1) (ks := 6) rfl (kx_tk_dec rfl dP_work) (pH_p b) rfl rfl (Nat.le_of_ble_eq_true rfl) (cP_push (K := K2) (n := s1.length) (x := x) hst b (by have := itT_le hi; omega)) (fun o h' hq => ?_)
          obtain ⟨rfl, rfl⟩ := hq
          show kx_w _ _ _ _ _ _ _ _ _ _ _
          refine kx_rn dP_work 2 7 [(0, .ref p), (1, .ref va), (2, .int ((nI j) + 1))] [] rfl ?_
          rw [show (nI j) + 1 = nI (j + 1) from kn_ad rfl rfl]
          refine ih (j + 1) _ (x :: s1) _ (by omega) (fun q y hq => ?_) htL hu (stk_push hs1) (by simp only [List.length_cons]; omega) ?_
          · have := hFj (q + 1) y (by simpa using hq)
            rw [show j + 1 + q = j + (q + 1) by omega]; exact this
          · rw [← hres]
            simp only [lE]
            rw [hz]; rfl
  refine kx_rn dP_work 2 2 [(0, .ref p), (1, .ref va)] [.int 0, .ref p] rfl ?_
  refine qP_22 rfl (kx_tk_dec rfl dP_work) (pH_p b) rfl rfl (Nat.le_of_ble_eq_true rfl) ?_
  refine kx_heq (pH_sp (ht' := 0)) ?_
  refine kx_rn dP_work 2 7 [(0, .ref p), (1, .ref va), (2, .int 0)] [] rfl ?_
  exact loop es 0 [] [] K (by omega) (fun q y hq => by rw [Nat.zero_add]; exact hF q y hq) hty trivial trivial (Nat.le_refl _) rfl
set_option maxRecDepth 100000 in
theorem cP_holds0 {es : List Int32} {x : Int32} (hst : l.stackTraces = false) (b : pFx G h p s k va F W) (hok : okC es) (hF : ∀ q y, es[q]? = some y → F q = cv y) (hz : lA W es = some x) :
    kx_c G l mP_holds (d + 4) 0 0 [.ref p, .ref va] (pH h p s k (nI es.length) K ht) (fun o h' => ∃ K' ht', o = .returned (some (.int (b01 (decide (¬ x = 0))))) ∧ h' = pH h p s k (nI es.length) K' ht') := by
  have hle := hok.1
  refine kx_in (by decide +kernel) (Nat.le_of_ble_eq_true rfl) hst ?_
  refine kx_rn dP_holds 1 1 [(0, .ref p), (1, .ref va)] [.ref p] rfl ?_
  refine pP_18 (v := .int (nI es.length)) rfl (kx_tk_dec rfl dP_holds) (pH_p b) rfl ?_
  refine kx_if (tgt := 15) (kx_tk_dec rfl dP_holds) rfl (fun e4 => ?_) (fun e4 => ?_)
  · skip
    replace e4 : nI es.length = 0 := e4
    replace e4 : es.length = 0 := (nI_eq (a := es.length) (b := 0) (by omega) (by omega)).mp e4
    refine kx_rn dP_holds 2 20 [(0, .ref p), (1, .ref va)] [.int 1] rfl ?_
    refine kx_ret (ty := .boolean) (kx_tk_dec rfl dP_holds) rfl rfl ?_
    have hes : es = [] := List.eq_nil_of_length_eq_zero e4
    have hx : x = 1 := by unfold lA at hz; rw [if_pos hes] at hz; injection hz with hz; exact hz.symm
    exact ⟨K, ht, by rw [hx]; rfl, rfl⟩
  · skip
    replace e4 : ¬ nI es.length = 0 := e4
    replace e4 : ¬ es.length = 0 := fun z => e4 ((nI_eq (a := es.length) (b := 0) (by omega) (by omega)).mpr z)
    refine kx_rn dP_holds 2 9 [(0, .ref p), (1, .ref va)] [.ref va, .ref p] rfl ?_
    have hne : ¬ es = [] := fun z => by rw [z] at e4; exact e4 rfl
    have hty : tyL es [] = some [true] := by
      rcases hok.2 with z | z
      · exact absurd z hne
      · exact z
    have hlA : lA W es = (lE W es []).bind List.head? := by unfold lA; rw [if_neg hne]
    refine cP_25 (as := [.ref va]) (st := []) (mc := 0) (ms := 0) (kc := 0) (ks := 0) rfl (kx_tk_dec rfl dP_holds) (pH_p b) rfl rfl (Nat.le_of_ble_eq_true rfl) (cP_work0 (d := d) hst b hty hok.1 hF (fun z => by rw [hlA, z] at hz; cases hz)) (fun o h' hq => ?_)
    obtain ⟨x2, K2, hz2, rfl, rfl⟩ := hq
    show kx_w _ _ _ _ _ _ _ _ _ _ _
    have hx : x2 = x := by rw [hlA, hz2] at hz; injection hz with hz
    subst hx
    refine kx_if (tgt := 19) (kx_tk_dec rfl dP_holds) rfl (fun e12 => ?_) (fun e12 => ?_)
    · skip
      replace e12 : x2 = 0 := e12
      refine kx_rn dP_holds 1 20 [(0, .ref p), (1, .ref va)] [.int 0] rfl ?_
      refine kx_ret (ty := .boolean) (kx_tk_dec rfl dP_holds) rfl rfl ?_
      exact ⟨K2, _, by rw [decide_eq_false (fun z => z e12)]; rfl, rfl⟩
    · skip
      replace e12 : ¬ x2 = 0 := e12
      refine kx_rn dP_holds 2 20 [(0, .ref p), (1, .ref va)] [.int 1] rfl ?_
      refine kx_ret (ty := .boolean) (kx_tk_dec rfl dP_holds) rfl rfl ?_
      exact ⟨K2, _, by rw [decide_eq_true e12]; rfl, rfl⟩
set_option maxRecDepth 100000 in
theorem cP_holds1 {es : List Int32} (hst : l.stackTraces = false) (b : pFx G h p s k va F W) (hok : okC es) (hF : ∀ q y, es[q]? = some y → F q = cv y) (hz : lA W es = none) :
    kx_c G l mP_holds (d + 4) 1 6 [.ref p, .ref va] (pH h p s k (nI es.length) K ht) (fun o h' => ∃ K' ht', o = .threw (pH h p s k (nI es.length) K' ht').1 ∧ h' = kx_new (pH h p s k (nI es.length) K' ht') (.inr (13, []))) := by
  have hle := hok.1
  refine kx_in (by decide +kernel) (Nat.le_of_ble_eq_true rfl) hst ?_
  refine kx_rn dP_holds 1 1 [(0, .ref p), (1, .ref va)] [.ref p] rfl ?_
  refine pP_18 (v := .int (nI es.length)) rfl (kx_tk_dec rfl dP_holds) (pH_p b) rfl ?_
  refine kx_if (tgt := 15) (kx_tk_dec rfl dP_holds) rfl (fun e4 => ?_) (fun e4 => ?_)
  · skip
    replace e4 : nI es.length = 0 := e4
    replace e4 : es.length = 0 := (nI_eq (a := es.length) (b := 0) (by omega) (by omega)).mp e4
    unfold lA at hz; rw [if_pos (List.eq_nil_of_length_eq_zero e4)] at hz; cases hz
  · skip
    replace e4 : ¬ nI es.length = 0 := e4
    replace e4 : ¬ es.length = 0 := fun z => e4 ((nI_eq (a := es.length) (b := 0) (by omega) (by omega)).mpr z)
    refine kx_rn dP_holds 2 9 [(0, .ref p), (1, .ref va)] [.ref va, .ref p] rfl ?_
    have hne : ¬ es = [] := fun z => by rw [z] at e4; exact e4 rfl
    have hty : tyL es [] = some [true] := by
      rcases hok.2 with z | z
      · exact absurd z hne
      · exact z
    have hlA : lA W es = (lE W es []).bind List.head? := by unfold lA; rw [if_neg hne]
    have hE : lE W es [] = none := by
      cases e : lE W es [] with
      | none => rfl
      | some s9 =>
        obtain ⟨g1, g2⟩ := eR_lE (vals := W) (P := fun k => es.getD k 0) (q0 := (0, va_up (fun _ => 0) 0 1, false)) (k := 0) (s := []) (F := va_up (fun _ => 0) 0 1) hty (fun i x hx => by rw [Nat.zero_add]; show es.getD i 0 = x; rw [List.getD_eq_getElem?_getD, hx]; rfl) rfl trivial rfl
        obtain ⟨F9, y1, y2, y3⟩ := g1 s9 e
        cases s9 with
        | nil => cases y3
        | cons a s9 => rw [hlA, e] at hz; cases hz
    refine cP_25 (as := [.ref va]) (st := []) (mc := 1) (ms := 6) (kc := 0) (ks := 0) rfl (kx_tk_dec rfl dP_holds) (pH_p b) rfl rfl (Nat.le_of_ble_eq_true rfl) (cP_work1 (d := d) hst b hty hok.1 hF hE) (fun o h' hq => ?_)
    obtain ⟨K2, ht2, rfl, rfl⟩ := hq
    exact kx_out (fun q hq => by cases hq) ⟨K2, ht2, rfl, rfl⟩
end KC21
