/-! ===== the other side: rows, versions, transactions, sets of rows ===== -/
section KC25
variable {G : kx_G} {l : Launch} {M : kx_M} {d : Nat} {Q : Outcome → kx_H → Prop} {kc ks pc : Nat} {lv : kx_L} {st : List Value} {h : kx_H}
theorem b01_fit (b : Bool) : fits .boolean (.int (b01 b)) = true := by cases b <;> rfl
theorem kx_qstZ {a t n i : Nat} {C : String} {f : Nat → Option Nat} (ht : kx_at[t]? = some (.object C)) (hd : decode M.2.1 pc = .ok (.aastore, 1)) (hc : kx_is G h a (.inl (t, n, .inr (.inr (.inr (.inr f)))))) (hi : i < n) (hn : n < 20000) (kk : kx_w G l M d Q kc ks (pc + 1) lv st (kx_set h a (.inl (t, n, .inr (.inr (.inr (.inr (va_up f i none)))))))) : kx_w G l M d Q kc ks pc lv (.null :: .int (nI i) :: .ref a :: st) h := by
  refine kx_qstN ht hd hc (vp_in_nI hi (by omega)) ?_
  rw [nI_clamp (by omega)]
  exact kk
theorem kx_estN {a t n k i : Nat} {f : Nat → Option Nat} (hk : k < 3) (ht : kx_at[t]? = some (.object "VersionedTables$State")) (hd : decode M.2.1 pc = .ok (.aastore, 1)) (hc : kx_is G h a (.inl (t, n, .inr (.inr (.inr (.inr f)))))) (hi : i < n) (hn : n < 20000) (kk : kx_w G l M d Q kc ks (pc + 1) lv st (kx_set h a (.inl (t, n, .inr (.inr (.inr (.inr (va_up f i (some (G.2.2.2.1 k)))))))))) : kx_w G l M d Q kc ks pc lv (.ref (G.2.2.2.1 k) :: .int (nI i) :: .ref a :: st) h := by
  refine kx_est hk ht hd hc (vp_in_nI hi (by omega)) ?_
  rw [nI_clamp (by omega)]
  exact kk
theorem kx_qstO {a t n v ci N i : Nat} {C : String} {T : u_T} {fs : List Value} {f : Nat → Option Nat} (ht : kx_at[t]? = some (.object C)) (hcl : kx_cl[ci]? = some (C, T, N)) (hd : decode M.2.1 pc = .ok (.aastore, 1)) (hc : kx_is G h a (.inl (t, n, .inr (.inr (.inr (.inr f)))))) (hv : kx_is G h v (.inr (ci, fs))) (hi : i < n) (hn : n < 20000) (kk : kx_w G l M d Q kc ks (pc + 1) lv st (kx_set h a (.inl (t, n, .inr (.inr (.inr (.inr (va_up f i (some v)))))))) ) : kx_w G l M d Q kc ks pc lv (.ref v :: .int (nI i) :: .ref a :: st) h := by
  refine kx_qst ht hcl hd hc hv (vp_in_nI hi (by omega)) ?_
  rw [nI_clamp (by omega)]
  exact kk
/-- the constants of the enum are apart -/
theorem kx_apt (k : (∀ i j, i < 3 → j < 3 → G.2.2.2.1 i = G.2.2.2.1 j → i = j) → kx_w G l M d Q kc ks pc lv st h) : kx_w G l M d Q kc ks pc lv st h := by
  intro p e R s m args below meth c X H locs ls cells slots hh hS hl q1 q2
  obtain ⟨hx, hb, hml, hown, -, -, -, -, hK, -⟩ := id X
  exact k (fun i j hi hj e => hK.2.2.1.2 i j hi hj e) p e R s m args below meth c X H locs ls cells slots hh hS hl q1 q2
theorem eSt_iff (hE : ∀ i j, i < 3 → j < 3 → G.2.2.2.1 i = G.2.2.2.1 j → i = j) {x k : Nat} (hx : x < 4) (hk : k < 3) : eSt G x = some (G.2.2.2.1 k) ↔ x = k + 1 := by
  unfold eSt
  by_cases e : x = 0
  · rw [if_pos e]; constructor
    · intro z; cases z
    · intro z; omega
  · rw [if_neg e]; constructor
    · intro z; injection z with z
      have := hE _ _ (by omega) hk z
      omega
    · intro z; rw [z]; rfl
end KC25
section KC26
variable {G : kx_G} {l : Launch} {d : Nat} {h : kx_H}
set_option maxRecDepth 100000 in
theorem cR_has {i : Nat} {r w : Nat} {f : Nat → Option Nat} (hst : l.stackTraces = false) (hr : kx_is G h r (.inr (5, [.ref w]))) (hw : kx_is G h w (kQa 5 41 f)) (hi : i < 41) :
    kx_c G l mR_has d 0 0 [.ref r, .int (nI i)] h (fun o h' => o = .returned (some (.int (b01 (f i).isSome))) ∧ h' = h) := by
  refine kx_in (by decide +kernel) (Nat.le_of_ble_eq_true rfl) hst ?_
  refine kx_rn dR_has 1 1 [(0, .ref r), (1, .int (nI i))] [.ref r] rfl ?_
  refine pR_11 (v := .ref w) rfl (kx_tk_dec rfl dR_has) hr rfl ?_
  refine kx_rn dR_has 1 5 [(0, .ref r), (1, .int (nI i))] [.int (nI i), .ref w] rfl ?_
  refine kx_qldN (x := f i) (i := i) rfl rfl (kx_tk_dec rfl dR_has) hw (by show i < 41; omega) (by decide) rfl ?_
  refine kx_nul (tgt := 13) (kx_tk_dec rfl dR_has) rfl (fun e6 => ?_) (fun a6 e6 => ?_)
  · skip
    refine kx_rn dR_has 1 14 [(0, .ref r), (1, .int (nI i))] [.int 0] rfl ?_
    refine kx_ret (ty := .boolean) (kx_tk_dec rfl dR_has) rfl rfl ?_
    rw [e6]; exact ⟨rfl, rfl⟩
  · skip
    refine kx_rn dR_has 2 14 [(0, .ref r), (1, .int (nI i))] [.int 1] rfl ?_
    refine kx_ret (ty := .boolean) (kx_tk_dec rfl dR_has) rfl rfl ?_
    rw [e6]; exact ⟨rfl, rfl⟩
set_option maxRecDepth 100000 in
theorem cR_size {r w : Nat} {f : Nat → Option Nat} (hst : l.stackTraces = false) (hr : kx_is G h r (.inr (5, [.ref w]))) (hw : kx_is G h w (kQa 5 41 f)) :
    kx_c G l mR_size (d + 1) 0 0 [.ref r] h (fun o h' => o = .returned (some (.int (nI (cnt (fun j => (f (j + 1)).isSome) 40)))) ∧ h' = h) := by
  refine kx_in (by decide +kernel) (Nat.le_of_ble_eq_true rfl) hst ?_
  have loop : ∀ n (i c : Nat), i + n = 40 → c = cnt (fun j => (f (j + 1)).isSome) i → kx_w G l mR_size (d + 1) (fun o h' => o = .returned (some (.int (nI (cnt (fun j => (f (j + 1)).isSome) 40)))) ∧ h' = h) 0 0 4 [(0, .ref r), (1, .int (nI c)), (2, .int (nI (i + 1)))] [] h := by
    intro n
    induction n with
    | zero =>
      intro i c hi hc
      refine kx_rn dR_size 2 7 [(0, .ref r), (1, .int (nI c)), (2, .int (nI (i + 1)))] [.int 40, .int (nI (i + 1))] rfl ?_
      refine kx_ic (tgt := 27) (kx_tk_dec rfl dR_size) rfl (fun e7 => ?_) (fun e7 => ?_)
      · skip
        replace e7 : 40 < nI (i + 1) := e7
        replace e7 : 40 < i + 1 := (nI_ltI (a := 40) (b := i + 1) (by omega) (by omega)).mp e7
        refine kx_rn dR_size 1 28 [(0, .ref r), (1, .int (nI c)), (2, .int (nI (i + 1)))] [.int (nI c)] rfl ?_
        refine kx_ret (ty := .int) (kx_tk_dec rfl dR_size) rfl rfl ?_
        rw [hc, show i = 40 by omega]; exact ⟨rfl, rfl⟩
      · skip
        replace e7 : ¬ 40 < nI (i + 1) := e7
        replace e7 : ¬ 40 < i + 1 := fun z => e7 ((nI_ltI (a := 40) (b := i + 1) (by omega) (by omega)).mpr z)
        exfalso; omega
    | succ n ih =>
      intro i c hi hc
      have hcl := cnt_le (fun j => (f (j + 1)).isSome) i
      refine kx_rn dR_size 2 7 [(0, .ref r), (1, .int (nI c)), (2, .int (nI (i + 1)))] [.int 40, .int (nI (i + 1))] rfl ?_
      refine kx_ic (tgt := 27) (kx_tk_dec rfl dR_size) rfl (fun e7 => ?_) (fun e7 => ?_)
      · skip
        replace e7 : 40 < nI (i + 1) := e7
        replace e7 : 40 < i + 1 := (nI_ltI (a := 40) (b := i + 1) (by omega) (by omega)).mp e7
        exfalso; omega
      · skip
        replace e7 : ¬ 40 < nI (i + 1) := e7
        replace e7 : ¬ 40 < i + 1 := fun z => e7 ((nI_ltI (a := 40) (b := i + 1) (by omega) (by omega)).mpr z)
        refine kx_rn dR_size 2 12 [(0, .ref r), (1, .int (nI c)), (2, .int (nI (i + 1)))] [.int (nI (i + 1)), .ref r] rfl ?_
        refine cR_24 (as := [.int (nI (i + 1))]) (st := []) (mc := 0) (ms := 0) (kc := 0) (ks := 0) rfl (kx_tk_dec rfl dR_size) hr rfl rfl (Nat.le_of_ble_eq_true rfl) (cR_has hst hr hw (by omega)) (fun o h' hq => ?_)
        obtain ⟨rfl, rfl⟩ := hq
        show kx_w _ _ _ _ _ _ _ _ _ _ _
        refine kx_if (tgt := 21) (kx_tk_dec rfl dR_size) rfl (fun e15 => ?_) (fun e15 => ?_)
        · skip
          replace e15 : b01 ((f (i + 1)).isSome) = 0 := e15
          replace e15 : (f (i + 1)).isSome = false := b01_f e15
          refine kx_rn dR_size 2 4 [(0, .ref r), (1, .int (nI c)), (2, .int ((nI (i + 1)) + 1))] [] rfl ?_
          rw [show (nI (i + 1)) + 1 = nI ((i + 1) + 1) from kn_ad rfl rfl]
          exact ih (i + 1) _ (by omega) (cnt_n hc e15)
        · skip
          replace e15 : ¬ b01 ((f (i + 1)).isSome) = 0 := e15
          replace e15 : (f (i + 1)).isSome = true := b01_t e15
          refine kx_rn dR_size 3 4 [(0, .ref r), (1, .int ((nI c) + 1)), (2, .int ((nI (i + 1)) + 1))] [] rfl ?_
          rw [show (nI c) + 1 = nI (c + 1) from kn_ad rfl rfl]
          rw [show (nI (i + 1)) + 1 = nI ((i + 1) + 1) from kn_ad rfl rfl]
          exact ih (i + 1) _ (by omega) (cnt_y hc e15)
  refine kx_rn dR_size 4 4 [(0, .ref r), (1, .int 0), (2, .int 1)] [] rfl ?_
  exact loop 40 0 0 rfl rfl
set_option maxRecDepth 100000 in
theorem cR_holding {t : Nat} {r w0 : Nat} {f : Nat → Option Nat} (hst : l.stackTraces = false) (hr : kx_is G h r (.inr (5, [.ref w0]))) (hwa : kx_is G h w0 (kQa 5 41 f)) (ht : t ≤ 40) :
    kx_c G l mR_holding d 0 0 [.ref r, .int (nI t)] h (fun o h' => o = .returned (some (va_rf (if hw (fun w => (f w).isSome) t = 0 then none else f (hw (fun w => (f w).isSome) t)))) ∧ h' = h) := by
  refine kx_in (by decide +kernel) (Nat.le_of_ble_eq_true rfl) hst ?_
  have loop : ∀ i : Nat, i ≤ 40 → hw (fun w => (f w).isSome) i = hw (fun w => (f w).isSome) t → kx_w G l mR_holding d (fun o h' => o = .returned (some (va_rf (if hw (fun w => (f w).isSome) t = 0 then none else f (hw (fun w => (f w).isSome) t)))) ∧ h' = h) 0 0 2 [(0, .ref r), (1, .int (nI t)), (2, .int (nI i))] [] h := by
    intro i
    induction i with
    | zero =>
      intro hi hres
      refine kx_rn dR_holding 1 3 [(0, .ref r), (1, .int (nI t)), (2, .int (nI 0))] [.int (nI 0)] rfl ?_
      refine kx_if (tgt := 28) (kx_tk_dec rfl dR_holding) rfl (fun e3 => ?_) (fun e3 => ?_)
      · skip
        replace e3 : nI 0 ≤ 0 := e3
        replace e3 : 0 ≤ 0 := (nI_leI (a := 0) (b := 0) (by omega) (by omega)).mp e3
        refine kx_rn dR_holding 1 29 [(0, .ref r), (1, .int (nI t)), (2, .int (nI 0))] [.null] rfl ?_
        refine kx_reta (x := none) (kx_tk_dec rfl dR_holding) rfl (Or.inl ⟨_, rfl⟩) ?_
        rw [show hw (fun w => (f w).isSome) t = 0 from hres.symm, if_pos rfl]; exact ⟨rfl, rfl⟩
      · skip
        replace e3 : ¬ nI 0 ≤ 0 := e3
        replace e3 : ¬ 0 ≤ 0 := fun z => e3 ((nI_leI (a := 0) (b := 0) (by omega) (by omega)).mpr z)
        exfalso; omega
    | succ i ih =>
      intro hi hres
      refine kx_rn dR_holding 1 3 [(0, .ref r), (1, .int (nI t)), (2, .int (nI (i + 1)))] [.int (nI (i + 1))] rfl ?_
      refine kx_if (tgt := 28) (kx_tk_dec rfl dR_holding) rfl (fun e3 => ?_) (fun e3 => ?_)
      · skip
        replace e3 : nI (i + 1) ≤ 0 := e3
        replace e3 : i + 1 ≤ 0 := (nI_leI (a := i + 1) (b := 0) (by omega) (by omega)).mp e3
        exfalso; omega
      · skip
        replace e3 : ¬ nI (i + 1) ≤ 0 := e3
        replace e3 : ¬ i + 1 ≤ 0 := fun z => e3 ((nI_leI (a := i + 1) (b := 0) (by omega) (by omega)).mpr z)
        refine kx_rn dR_holding 1 7 [(0, .ref r), (1, .int (nI t)), (2, .int (nI (i + 1)))] [.ref r] rfl ?_
        refine pR_11 (v := .ref w0) rfl (kx_tk_dec rfl dR_holding) hr rfl ?_
        refine kx_rn dR_holding 1 11 [(0, .ref r), (1, .int (nI t)), (2, .int (nI (i + 1)))] [.int (nI (i + 1)), .ref w0] rfl ?_
        refine kx_qldN (x := f (i + 1)) (i := i + 1) rfl rfl (kx_tk_dec rfl dR_holding) hwa (by show i + 1 < 41; omega) (by decide) rfl ?_
        refine kx_nul (tgt := 22) (kx_tk_dec rfl dR_holding) rfl (fun e12 => ?_) (fun a12 e12 => ?_)
        · skip
          refine kx_rn dR_holding 2 2 [(0, .ref r), (1, .int (nI t)), (2, .int ((nI (i + 1)) + (-1)))] [] rfl ?_
          rw [show (nI (i + 1)) + (-1) = nI ((i + 1) - 1) from kn_sa rfl rfl (by omega)]
          refine ih (by omega) ?_
          rw [← hres]; simp only [hw]; rw [if_neg (by rw [e12]; decide)]
        · skip
          refine kx_rn dR_holding 1 16 [(0, .ref r), (1, .int (nI t)), (2, .int (nI (i + 1)))] [.ref r] rfl ?_
          refine pR_11 (v := .ref w0) rfl (kx_tk_dec rfl dR_holding) hr rfl ?_
          refine kx_rn dR_holding 1 20 [(0, .ref r), (1, .int (nI t)), (2, .int (nI (i + 1)))] [.int (nI (i + 1)), .ref w0] rfl ?_
          refine kx_qldN (x := f (i + 1)) (i := i + 1) rfl rfl (kx_tk_dec rfl dR_holding) hwa (by show i + 1 < 41; omega) (by decide) rfl ?_
          refine kx_reta (x := f (i + 1)) (kx_tk_dec rfl dR_holding) rfl (Or.inl ⟨_, rfl⟩) ?_
          have hs : (f (i + 1)).isSome = true := by rw [e12]; rfl
          have hh : hw (fun w => (f w).isSome) t = i + 1 := by rw [← hres]; simp only [hw]; rw [if_pos hs]
          rw [hh, if_neg (by omega)]; exact ⟨rfl, rfl⟩
  refine kx_rn dR_holding 2 2 [(0, .ref r), (1, .int (nI t)), (2, .int (nI t))] [] rfl ?_
  exact loop t ht rfl
set_option maxRecDepth 100000 in
theorem cR_drop {i : Nat} {r w : Nat} {f : Nat → Option Nat} (hst : l.stackTraces = false) (hr : kx_is G h r (.inr (5, [.ref w]))) (hw : kx_is G h w (kQa 5 41 f)) (hi : i < 41) :
    kx_c G l mR_drop (d + 1) 0 0 [.ref r, .int (nI i)] h (fun o h' => o = .returned (some (.int (b01 (f i).isSome))) ∧ h' = kx_set h w (kQa 5 41 (va_up f i none))) := by
  refine kx_in (by decide +kernel) (Nat.le_of_ble_eq_true rfl) hst ?_
  refine kx_rn dR_drop 2 2 [(0, .ref r), (1, .int (nI i))] [.int (nI i), .ref r] rfl ?_
  refine cR_24 (as := [.int (nI i)]) (st := []) (mc := 0) (ms := 0) (kc := 0) (ks := 0) rfl (kx_tk_dec rfl dR_drop) hr rfl rfl (Nat.le_of_ble_eq_true rfl) (cR_has hst hr hw (by omega)) (fun o h' hq => ?_)
  obtain ⟨rfl, rfl⟩ := hq
  show kx_w _ _ _ _ _ _ _ _ _ _ _
  refine kx_if (tgt := 12) (kx_tk_dec rfl dR_drop) rfl (fun e5 => ?_) (fun e5 => ?_)
  · skip
    replace e5 : b01 ((f i).isSome) = 0 := e5
    replace e5 : (f i).isSome = false := b01_f e5
    refine kx_rn dR_drop 3 15 [(0, .ref r), (1, .int (nI i)), (2, .int 0)] [.ref r] rfl ?_
    refine pR_11 (v := .ref w) rfl (kx_tk_dec rfl dR_drop) hr rfl ?_
    refine kx_rn dR_drop 2 20 [(0, .ref r), (1, .int (nI i)), (2, .int 0)] [.null, .int (nI i), .ref w] rfl ?_
    refine kx_qstZ (i := i) rfl (kx_tk_dec rfl dR_drop) hw (by show i < 41; omega) (by decide) ?_
    refine kx_rn dR_drop 1 22 [(0, .ref r), (1, .int (nI i)), (2, .int 0)] [.int 0] rfl ?_
    refine kx_ret (ty := .int) (kx_tk_dec rfl dR_drop) rfl rfl ?_
    rw [e5]; exact ⟨rfl, rfl⟩
  · skip
    replace e5 : ¬ b01 ((f i).isSome) = 0 := e5
    replace e5 : (f i).isSome = true := b01_t e5
    refine kx_rn dR_drop 4 15 [(0, .ref r), (1, .int (nI i)), (2, .int 1)] [.ref r] rfl ?_
    refine pR_11 (v := .ref w) rfl (kx_tk_dec rfl dR_drop) hr rfl ?_
    refine kx_rn dR_drop 2 20 [(0, .ref r), (1, .int (nI i)), (2, .int 1)] [.null, .int (nI i), .ref w] rfl ?_
    refine kx_qstZ (i := i) rfl (kx_tk_dec rfl dR_drop) hw (by show i < 41; omega) (by decide) ?_
    refine kx_rn dR_drop 1 22 [(0, .ref r), (1, .int (nI i)), (2, .int 1)] [.int 1] rfl ?_
    refine kx_ret (ty := .int) (kx_tk_dec rfl dR_drop) rfl rfl ?_
    rw [e5]; exact ⟨rfl, rfl⟩
set_option maxRecDepth 100000 in
theorem cN_put {a b va : Nat} {x0 x2 x3 : Int32} {f g : Nat → Int32} {gn : Bool} (hst : l.stackTraces = false) (ha : kx_is G h a (.inr (7, [.int x0, .ref b, .int x2, .int x3]))) (hb : kx_is G h b (kIa 4 g)) (hv : kx_is G h va (kIa 4 f)) (hne : a ≠ b) :
    kx_c G l mN_put d 0 0 [.ref a, .ref va, .int (b01 gn)] h (fun o h' => o = .returned none ∧ h' = kx_set (kx_set h b (kIa 4 (va_cpy f g 0 0 4))) a (.inr (7, [.int x0, .ref b, .int x2, .int (b01 gn)]))) := by
  refine kx_in (by decide +kernel) (Nat.le_of_ble_eq_true rfl) hst ?_
  refine kx_rn dN_put 3 3 [(0, .ref a), (1, .ref va), (2, .int (b01 gn))] [.ref a, .int 0, .ref va] rfl ?_
  refine pN_9 (v := .ref b) rfl (kx_tk_dec rfl dN_put) ha rfl ?_
  refine kx_rn dN_put 2 8 [(0, .ref a), (1, .ref va), (2, .int (b01 gn))] [.int 4, .int 0, .ref b, .int 0, .ref va] rfl ?_
  refine cN_26 rfl (kx_tk_dec rfl dN_put) (Nat.le_of_ble_eq_true rfl) hv hb (by decide) (by decide) (by decide) (by decide) (by decide) ?_
  refine kx_rn dN_put 2 13 [(0, .ref a), (1, .ref va), (2, .int (b01 gn))] [.int (b01 gn), .ref a] rfl ?_
  refine qN_15 rfl (kx_tk_dec rfl dN_put) (kx_is_ne ha hne) (b01_nr _) (b01_fit _) (Nat.le_of_ble_eq_true rfl) ?_
  refine kx_retv (kx_tk_dec rfl dN_put) rfl ?_
  exact ⟨rfl, rfl⟩
set_option maxRecDepth 100000 in
theorem cT_is {t : Int32} {k : Nat} {a b bg : Nat} {lt : Int32} {S6 : Nat → Nat} (hst : l.stackTraces = false) (ha : kx_is G h a (.inr (1, [.ref b, .int (nI bg), .int lt]))) (hb : kx_is G h b (kQa 2 41 (fun t => eSt G (S6 t)))) (h4 : ∀ t, S6 t < 4) (hbg : bg ≤ 40) (hk : k < 3) :
    kx_c G l mT_is d 0 0 [.ref a, .int t, .ref (G.2.2.2.1 k)] h (fun o h' => ∃ z : Bool, o = .returned (some (.int (b01 z))) ∧ h' = h ∧ (z = true ↔ ∃ tn, 1 ≤ tn ∧ tn ≤ bg ∧ t = nI tn ∧ S6 tn = k + 1)) := by
  refine kx_in (by decide +kernel) (Nat.le_of_ble_eq_true rfl) hst ?_
  refine kx_apt (fun hE => ?_)
  refine kx_rn dT_is 2 2 [(0, .ref a), (1, .int t), (2, .ref (G.2.2.2.1 k))] [.int 1, .int t] rfl ?_
  refine kx_ic (tgt := 27) (kx_tk_dec rfl dT_is) rfl (fun e2 => ?_) (fun e2 => ?_)
  · skip
    replace e2 : t < 1 := e2
    refine kx_rn dT_is 1 28 [(0, .ref a), (1, .int t), (2, .ref (G.2.2.2.1 k))] [.int 0] rfl ?_
    refine kx_ret (ty := .boolean) (kx_tk_dec rfl dT_is) rfl rfl ?_
    exact ⟨false, rfl, rfl, (fun z => by cases z), fun ⟨tn, y1, y2, y3, y4⟩ => by rw [y3, kI_lt, nI_toInt (by omega)] at e2; have : (1 : Int32).toInt = 1 := rfl; omega⟩
  · skip
    replace e2 : ¬ t < 1 := e2
    refine kx_rn dT_is 2 7 [(0, .ref a), (1, .int t), (2, .ref (G.2.2.2.1 k))] [.ref a, .int t] rfl ?_
    refine pT_17 (v := .int (nI bg)) rfl (kx_tk_dec rfl dT_is) ha rfl ?_
    refine kx_ic (tgt := 27) (kx_tk_dec rfl dT_is) rfl (fun e10 => ?_) (fun e10 => ?_)
    · skip
      replace e10 : nI bg < t := e10
      refine kx_rn dT_is 1 28 [(0, .ref a), (1, .int t), (2, .ref (G.2.2.2.1 k))] [.int 0] rfl ?_
      refine kx_ret (ty := .boolean) (kx_tk_dec rfl dT_is) rfl rfl ?_
      exact ⟨false, rfl, rfl, (fun z => by cases z), fun ⟨tn, y1, y2, y3, y4⟩ => by rw [y3, kI_lt, nI_toInt (by omega), nI_toInt (by omega)] at e10; omega⟩
    · skip
      replace e10 : ¬ nI bg < t := e10
      obtain ⟨tn, rfl, ht0, htl⟩ := kI_nat (x := t) (by rw [kI_lt] at e2; have : (1 : Int32).toInt = 1 := rfl; omega)
      have ht1 : 1 ≤ tn := by rw [kI_lt, nI_toInt htl] at e2; have : (1 : Int32).toInt = 1 := rfl; omega
      have ht2 : tn ≤ bg := by rw [kI_lt, nI_toInt htl, nI_toInt (by omega)] at e10; omega
      refine kx_rn dT_is 1 14 [(0, .ref a), (1, .int (nI tn)), (2, .ref (G.2.2.2.1 k))] [.ref a] rfl ?_
      refine pT_11 (v := .ref b) rfl (kx_tk_dec rfl dT_is) ha rfl ?_
      refine kx_rn dT_is 1 18 [(0, .ref a), (1, .int (nI tn)), (2, .ref (G.2.2.2.1 k))] [.int (nI tn), .ref b] rfl ?_
      refine kx_qldN (x := eSt G (S6 tn)) (i := tn) rfl rfl (kx_tk_dec rfl dT_is) hb (by show tn < 41; omega) (by decide) rfl ?_
      refine kx_rn dT_is 1 20 [(0, .ref a), (1, .int (nI tn)), (2, .ref (G.2.2.2.1 k))] [.ref (G.2.2.2.1 k), va_rf (eSt G (S6 tn))] rfl ?_
      refine kx_ane (x := eSt G (S6 tn)) (y := some (G.2.2.2.1 k)) (tgt := 27) (kx_tk_dec rfl dT_is) rfl (fun e20 => ?_) (fun e20 => ?_)
      · skip
        refine kx_rn dT_is 1 28 [(0, .ref a), (1, .int (nI tn)), (2, .ref (G.2.2.2.1 k))] [.int 0] rfl ?_
        refine kx_ret (ty := .boolean) (kx_tk_dec rfl dT_is) rfl rfl ?_
        exact ⟨false, rfl, rfl, (fun z => by cases z), fun ⟨t2, y1, y2, y3, y4⟩ => by have := (nI_eq (by omega) (by omega)).mp y3; subst this; exact absurd ((eSt_iff hE (h4 _) hk).mpr y4) e20⟩
      · skip
        refine kx_rn dT_is 2 28 [(0, .ref a), (1, .int (nI tn)), (2, .ref (G.2.2.2.1 k))] [.int 1] rfl ?_
        refine kx_ret (ty := .boolean) (kx_tk_dec rfl dT_is) rfl rfl ?_
        exact ⟨true, rfl, rfl, fun _ => ⟨tn, ht1, ht2, rfl, (eSt_iff hE (h4 _) hk).mp e20⟩, fun _ => rfl⟩
set_option maxRecDepth 100000 in
theorem cT_howMany {k : Nat} {a b bg : Nat} {lt : Int32} {S6 : Nat → Nat} (hst : l.stackTraces = false) (ha : kx_is G h a (.inr (1, [.ref b, .int (nI bg), .int lt]))) (hb : kx_is G h b (kQa 2 41 (fun t => eSt G (S6 t)))) (h4 : ∀ t, S6 t < 4) (hbg : bg ≤ 40) (hk : k < 3) :
    kx_c G l mT_howMany d 0 0 [.ref a, .ref (G.2.2.2.1 k)] h (fun o h' => o = .returned (some (.int (nI (cnt (fun j => decide (S6 (j + 1) = k + 1)) bg)))) ∧ h' = h) := by
  refine kx_in (by decide +kernel) (Nat.le_of_ble_eq_true rfl) hst ?_
  refine kx_apt (fun hE => ?_)
  have loop : ∀ n (i c : Nat), i + n = bg → c = cnt (fun j => decide (S6 (j + 1) = k + 1)) i → kx_w G l mT_howMany d (fun o h' => o = .returned (some (.int (nI (cnt (fun j => decide (S6 (j + 1) = k + 1)) bg)))) ∧ h' = h) 0 0 4 [(0, .ref a), (1, .ref (G.2.2.2.1 k)), (2, .int (nI c)), (3, .int (nI (i + 1)))] [] h := by
    intro n
    induction n with
    | zero =>
      intro i c hi hc
      refine kx_rn dT_howMany 2 6 [(0, .ref a), (1, .ref (G.2.2.2.1 k)), (2, .int (nI c)), (3, .int (nI (i + 1)))] [.ref a, .int (nI (i + 1))] rfl ?_
      refine pT_17 (v := .int (nI bg)) rfl (kx_tk_dec rfl dT_howMany) ha rfl ?_
      refine kx_ic (tgt := 31) (kx_tk_dec rfl dT_howMany) rfl (fun e9 => ?_) (fun e9 => ?_)
      · skip
        replace e9 : nI bg < nI (i + 1) := e9
        replace e9 : bg < i + 1 := (nI_ltI (a := bg) (b := i + 1) (by omega) (by omega)).mp e9
        refine kx_rn dT_howMany 1 32 [(0, .ref a), (1, .ref (G.2.2.2.1 k)), (2, .int (nI c)), (3, .int (nI (i + 1)))] [.int (nI c)] rfl ?_
        refine kx_ret (ty := .int) (kx_tk_dec rfl dT_howMany) rfl rfl ?_
        rw [hc, show i = bg by omega]; exact ⟨rfl, rfl⟩
      · skip
        replace e9 : ¬ nI bg < nI (i + 1) := e9
        replace e9 : ¬ bg < i + 1 := fun z => e9 ((nI_ltI (a := bg) (b := i + 1) (by omega) (by omega)).mpr z)
        exfalso; omega
    | succ n ih =>
      intro i c hi hc
      have hcl := cnt_le (fun j => decide (S6 (j + 1) = k + 1)) i
      refine kx_rn dT_howMany 2 6 [(0, .ref a), (1, .ref (G.2.2.2.1 k)), (2, .int (nI c)), (3, .int (nI (i + 1)))] [.ref a, .int (nI (i + 1))] rfl ?_
      refine pT_17 (v := .int (nI bg)) rfl (kx_tk_dec rfl dT_howMany) ha rfl ?_
      refine kx_ic (tgt := 31) (kx_tk_dec rfl dT_howMany) rfl (fun e9 => ?_) (fun e9 => ?_)
      · skip
        replace e9 : nI bg < nI (i + 1) := e9
        replace e9 : bg < i + 1 := (nI_ltI (a := bg) (b := i + 1) (by omega) (by omega)).mp e9
        exfalso; omega
      · skip
        replace e9 : ¬ nI bg < nI (i + 1) := e9
        replace e9 : ¬ bg < i + 1 := fun z => e9 ((nI_ltI (a := bg) (b := i + 1) (by omega) (by omega)).mpr z)
        refine kx_rn dT_howMany 1 13 [(0, .ref a), (1, .ref (G.2.2.2.1 k)), (2, .int (nI c)), (3, .int (nI (i + 1)))] [.ref a] rfl ?_
        refine pT_11 (v := .ref b) rfl (kx_tk_dec rfl dT_howMany) ha rfl ?_
        refine kx_rn dT_howMany 1 17 [(0, .ref a), (1, .ref (G.2.2.2.1 k)), (2, .int (nI c)), (3, .int (nI (i + 1)))] [.int (nI (i + 1)), .ref b] rfl ?_
        refine kx_qldN (x := eSt G (S6 (i + 1))) (i := i + 1) rfl rfl (kx_tk_dec rfl dT_howMany) hb (by show i + 1 < 41; omega) (by decide) rfl ?_
        refine kx_rn dT_howMany 1 19 [(0, .ref a), (1, .ref (G.2.2.2.1 k)), (2, .int (nI c)), (3, .int (nI (i + 1)))] [.ref (G.2.2.2.1 k), va_rf (eSt G (S6 (i + 1)))] rfl ?_
        refine kx_ane (x := eSt G (S6 (i + 1))) (y := some (G.2.2.2.1 k)) (tgt := 25) (kx_tk_dec rfl dT_howMany) rfl (fun e19 => ?_) (fun e19 => ?_)
        · skip
          refine kx_rn dT_howMany 2 4 [(0, .ref a), (1, .ref (G.2.2.2.1 k)), (2, .int (nI c)), (3, .int ((nI (i + 1)) + 1))] [] rfl ?_
          rw [show (nI (i + 1)) + 1 = nI ((i + 1) + 1) from kn_ad rfl rfl]
          exact ih (i + 1) _ (by omega) (cnt_n hc (decide_eq_false (fun z => e19 ((eSt_iff hE (h4 _) hk).mpr z))))
        · skip
          refine kx_rn dT_howMany 3 4 [(0, .ref a), (1, .ref (G.2.2.2.1 k)), (2, .int ((nI c) + 1)), (3, .int ((nI (i + 1)) + 1))] [] rfl ?_
          rw [show (nI c) + 1 = nI (c + 1) from kn_ad rfl rfl]
          rw [show (nI (i + 1)) + 1 = nI ((i + 1) + 1) from kn_ad rfl rfl]
          exact ih (i + 1) _ (by omega) (cnt_y hc (decide_eq_true ((eSt_iff hE (h4 _) hk).mp e19)))
  refine kx_rn dT_howMany 4 4 [(0, .ref a), (1, .ref (G.2.2.2.1 k)), (2, .int 0), (3, .int 1)] [] rfl ?_
  exact loop bg 0 0 (by omega) rfl
set_option maxRecDepth 100000 in
theorem cT_leastOpen {a b bg : Nat} {lt : Int32} {S6 : Nat → Nat} (hst : l.stackTraces = false) (ha : kx_is G h a (.inr (1, [.ref b, .int (nI bg), .int lt]))) (hb : kx_is G h b (kQa 2 41 (fun t => eSt G (S6 t)))) (h4 : ∀ t, S6 t < 4) (hbg : bg ≤ 40) :
    kx_c G l mT_leastOpen d 0 0 [.ref a] h (fun o h' => ∃ ls, 1 ≤ ls ∧ ls ≤ bg + 1 ∧ (∀ t, 1 ≤ t → t < ls → ¬ S6 t = 1) ∧ (ls ≤ bg → S6 ls = 1) ∧ o = .returned (some (.int (nI (min ls bg)))) ∧ h' = h) := by
  refine kx_in (by decide +kernel) (Nat.le_of_ble_eq_true rfl) hst ?_
  refine kx_apt (fun hE => ?_)
  have loop : ∀ n (i : Nat), i + n = bg → (∀ t, 1 ≤ t → t < i + 1 → ¬ S6 t = 1) → kx_w G l mT_leastOpen d (fun o h' => ∃ ls, 1 ≤ ls ∧ ls ≤ bg + 1 ∧ (∀ t, 1 ≤ t → t < ls → ¬ S6 t = 1) ∧ (ls ≤ bg → S6 ls = 1) ∧ o = .returned (some (.int (nI (min ls bg)))) ∧ h' = h) 0 0 2 [(0, .ref a), (1, .int (nI (i + 1)))] [] h := by
    intro n
    induction n with
    | zero =>
      intro i hi hlo
      refine kx_rn dT_leastOpen 2 4 [(0, .ref a), (1, .int (nI (i + 1)))] [.ref a, .int (nI (i + 1))] rfl ?_
      refine pT_17 (v := .int (nI bg)) rfl (kx_tk_dec rfl dT_leastOpen) ha rfl ?_
      refine kx_ic (tgt := 30) (kx_tk_dec rfl dT_leastOpen) rfl (fun e7 => ?_) (fun e7 => ?_)
      · skip
        replace e7 : nI bg < nI (i + 1) := e7
        replace e7 : bg < i + 1 := (nI_ltI (a := bg) (b := i + 1) (by omega) (by omega)).mp e7
        refine kx_rn dT_leastOpen 1 31 [(0, .ref a), (1, .int (nI (i + 1)))] [.ref a] rfl ?_
        refine pT_17 (v := .int (nI bg)) rfl (kx_tk_dec rfl dT_leastOpen) ha rfl ?_
        refine kx_ret (ty := .int) (kx_tk_dec rfl dT_leastOpen) rfl rfl ?_
        exact ⟨bg + 1, by omega, Nat.le_refl _, fun t y1 y2 => hlo t y1 (by omega), fun z => by omega, by rw [Nat.min_eq_right (by omega)], rfl⟩
      · skip
        replace e7 : ¬ nI bg < nI (i + 1) := e7
        replace e7 : ¬ bg < i + 1 := fun z => e7 ((nI_ltI (a := bg) (b := i + 1) (by omega) (by omega)).mpr z)
        exfalso; omega
    | succ n ih =>
      intro i hi hlo
      refine kx_rn dT_leastOpen 2 4 [(0, .ref a), (1, .int (nI (i + 1)))] [.ref a, .int (nI (i + 1))] rfl ?_
      refine pT_17 (v := .int (nI bg)) rfl (kx_tk_dec rfl dT_leastOpen) ha rfl ?_
      refine kx_ic (tgt := 30) (kx_tk_dec rfl dT_leastOpen) rfl (fun e7 => ?_) (fun e7 => ?_)
      · skip
        replace e7 : nI bg < nI (i + 1) := e7
        replace e7 : bg < i + 1 := (nI_ltI (a := bg) (b := i + 1) (by omega) (by omega)).mp e7
        exfalso; omega
      · skip
        replace e7 : ¬ nI bg < nI (i + 1) := e7
        replace e7 : ¬ bg < i + 1 := fun z => e7 ((nI_ltI (a := bg) (b := i + 1) (by omega) (by omega)).mpr z)
        refine kx_rn dT_leastOpen 1 11 [(0, .ref a), (1, .int (nI (i + 1)))] [.ref a] rfl ?_
        refine pT_11 (v := .ref b) rfl (kx_tk_dec rfl dT_leastOpen) ha rfl ?_
        refine kx_rn dT_leastOpen 1 15 [(0, .ref a), (1, .int (nI (i + 1)))] [.int (nI (i + 1)), .ref b] rfl ?_
        refine kx_qldN (x := eSt G (S6 (i + 1))) (i := i + 1) rfl rfl (kx_tk_dec rfl dT_leastOpen) hb (by show i + 1 < 41; omega) (by decide) rfl ?_
        refine pT_24 rfl (kx_tk_dec rfl dT_leastOpen) ?_
        refine kx_ane (x := eSt G (S6 (i + 1))) (y := some (G.2.2.2.1 0)) (tgt := 24) (kx_tk_dec rfl dT_leastOpen) rfl (fun e19 => ?_) (fun e19 => ?_)
        · skip
          refine kx_rn dT_leastOpen 2 2 [(0, .ref a), (1, .int ((nI (i + 1)) + 1))] [] rfl ?_
          rw [show (nI (i + 1)) + 1 = nI ((i + 1) + 1) from kn_ad rfl rfl]
          refine ih (i + 1) (by omega) (fun t y1 y2 => ?_)
          by_cases z : t = i + 1
          · rw [z]; exact fun y => e19 ((eSt_iff hE (h4 _) (by decide)).mpr y)
          · exact hlo t y1 (by omega)
        · skip
          refine kx_rn dT_leastOpen 1 23 [(0, .ref a), (1, .int (nI (i + 1)))] [.int (nI (i + 1))] rfl ?_
          refine kx_ret (ty := .int) (kx_tk_dec rfl dT_leastOpen) rfl rfl ?_
          exact ⟨i + 1, by omega, by omega, fun t y1 y2 => hlo t y1 (by omega), fun _ => (eSt_iff hE (h4 _) (by decide)).mp e19, by rw [Nat.min_eq_left (by omega)], rfl⟩
  refine kx_rn dT_leastOpen 2 2 [(0, .ref a), (1, .int 1)] [] rfl ?_
  exact loop bg 0 (by omega) (fun t y1 y2 => by omega)
set_option maxRecDepth 100000 in
theorem cT_beginNext {a b bg : Nat} {lt : Int32} {S6 : Nat → Nat} (hst : l.stackTraces = false) (ha : kx_is G h a (.inr (1, [.ref b, .int (nI bg), .int lt]))) (hb : kx_is G h b (kQa 2 41 (fun t => eSt G (S6 t)))) (h4 : ∀ t, S6 t < 4) (hbg : bg < 40) (hne : a ≠ b) :
    kx_c G l mT_beginNext d 0 0 [.ref a] h (fun o h' => o = .returned (some (.int (nI (bg + 1)))) ∧ h' = kx_set (kx_set h a (.inr (1, [.ref b, .int (nI (bg + 1)), .int lt]))) b (kQa 2 41 (va_up (fun t => eSt G (S6 t)) (bg + 1) (some (G.2.2.2.1 0))))) := by
  refine kx_in (by decide +kernel) (Nat.le_of_ble_eq_true rfl) hst ?_
  refine kx_rn dT_beginNext 2 2 [(0, .ref a)] [.ref a, .ref a] rfl ?_
  refine pT_17 (v := .int (nI bg)) rfl (kx_tk_dec rfl dT_beginNext) ha rfl ?_
  refine kx_rn dT_beginNext 2 7 [(0, .ref a)] [.int ((nI bg) + 1), .ref a] rfl ?_
  rw [show (nI bg) + 1 = nI (bg + 1) from kn_ad rfl rfl]
  refine qT_17 rfl (kx_tk_dec rfl dT_beginNext) ha rfl rfl (Nat.le_of_ble_eq_true rfl) ?_
  refine kx_rn dT_beginNext 1 11 [(0, .ref a)] [.ref a] rfl ?_
  refine pT_11 (v := .ref b) rfl (kx_tk_dec rfl dT_beginNext) (kx_is_eq ha) rfl ?_
  refine kx_rn dT_beginNext 1 15 [(0, .ref a)] [.ref a, .ref b] rfl ?_
  refine pT_17 (v := .int (nI (bg + 1))) rfl (kx_tk_dec rfl dT_beginNext) (kx_is_eq ha) rfl ?_
  refine pT_24 rfl (kx_tk_dec rfl dT_beginNext) ?_
  refine kx_estN (i := bg + 1) (k := 0) (by decide) rfl (kx_tk_dec rfl dT_beginNext) (kx_is_ne hb hne.symm) (by show bg + 1 < 41; omega) (by decide) ?_
  refine kx_rn dT_beginNext 1 23 [(0, .ref a)] [.ref a] rfl ?_
  refine pT_17 (v := .int (nI (bg + 1))) rfl (kx_tk_dec rfl dT_beginNext) (kx_is_ne (kx_is_eq ha) hne) rfl ?_
  refine kx_ret (ty := .int) (kx_tk_dec rfl dT_beginNext) rfl rfl ?_
  exact ⟨rfl, rfl⟩
set_option maxRecDepth 100000 in
theorem cT_end {t k : Nat} {a b bg : Nat} {lt : Int32} {S6 : Nat → Nat} (hst : l.stackTraces = false) (ha : kx_is G h a (.inr (1, [.ref b, .int (nI bg), .int lt]))) (hb : kx_is G h b (kQa 2 41 (fun t => eSt G (S6 t)))) (h4 : ∀ t, S6 t < 4) (hbg : bg ≤ 40) (hk : k < 3) (ht : t ≤ 40) :
    kx_c G l mT_end d 0 0 [.ref a, .int (nI t), .ref (G.2.2.2.1 k)] h (fun o h' => o = .returned none ∧ h' = kx_set h b (kQa 2 41 (va_up (fun t => eSt G (S6 t)) t (some (G.2.2.2.1 k))))) := by
  refine kx_in (by decide +kernel) (Nat.le_of_ble_eq_true rfl) hst ?_
  refine kx_rn dT_end 1 1 [(0, .ref a), (1, .int (nI t)), (2, .ref (G.2.2.2.1 k))] [.ref a] rfl ?_
  refine pT_11 (v := .ref b) rfl (kx_tk_dec rfl dT_end) ha rfl ?_
  refine kx_rn dT_end 2 6 [(0, .ref a), (1, .int (nI t)), (2, .ref (G.2.2.2.1 k))] [.ref (G.2.2.2.1 k), .int (nI t), .ref b] rfl ?_
  refine kx_estN (i := t) (k := k) hk rfl (kx_tk_dec rfl dT_end) hb (by show t < 41; omega) (by decide) ?_
  refine kx_retv (kx_tk_dec rfl dT_end) rfl ?_
  exact ⟨rfl, rfl⟩
end KC26
