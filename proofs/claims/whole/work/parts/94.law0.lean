/-! ===== the law: its calls of the other side ===== -/
section KC50
variable {G : kx_G} {l : Launch} {d mc ms : Nat} {h : kx_H} {m x : Nat}
abbrev kLa (f : Nat → Int64) : kx_C := .inl (8, 1, .inr (.inl f))
abbrev kDa (f : Nat → UInt64) : kx_C := .inl (9, 1, .inr (.inr (.inr (.inl f))))
theorem kx_lstN {M : kx_M} {Q : Outcome → kx_H → Prop} {kc ks pc : Nat} {lv : kx_L} {st : List Value} {a : Nat} {f : Nat → Int64} {y : Int64} (hd : decode M.2.1 pc = .ok (.lastore, 1)) (hc : kx_is G h a (kLa f)) (kk : kx_w G l M d Q kc ks (pc + 1) lv st (kx_set h a (kLa (va_up f 0 y)))) : kx_w G l M d Q kc ks pc lv (.long y :: .int 0 :: .ref a :: st) h := by
  refine kx_lst rfl hd hc (vp_in_nI (n := 0) (N := 1) (by decide) (by decide)) ?_
  exact kk
theorem kx_dstN {M : kx_M} {Q : Outcome → kx_H → Prop} {kc ks pc : Nat} {lv : kx_L} {st : List Value} {a : Nat} {f : Nat → UInt64} {y : UInt64} (hd : decode M.2.1 pc = .ok (.dastore, 1)) (hc : kx_is G h a (kDa f)) (kk : kx_w G l M d Q kc ks (pc + 1) lv st (kx_set h a (kDa (va_up f 0 y)))) : kx_w G l M d Q kc ks pc lv (.double y :: .int 0 :: .ref a :: st) h := by
  refine kx_dst rfl hd hc (vp_in_nI (n := 0) (N := 1) (by decide) (by decide)) ?_
  exact kk
theorem kW_l9 : Cond.classLink "VersionedTablesLaw" 13 "java/lang/IllegalArgumentException" ∈ kx_ws := kx_all (l := [Cond.classLink "VersionedTablesLaw" 13 "java/lang/IllegalArgumentException"]) (by decide +kernel) _ (List.mem_singleton.mpr rfl)
theorem kW_c9 : Cond.castable "java/lang/IllegalArgumentException" "java/lang/IllegalArgumentException" ∈ kx_ws := kx_all (l := [Cond.castable "java/lang/IllegalArgumentException" "java/lang/IllegalArgumentException"]) (by decide +kernel) _ (List.mem_singleton.mpr rfl)
theorem kW_l10 : Cond.classLink "VersionedTablesLaw" 15 "java/lang/IllegalStateException" ∈ kx_ws := kx_all (l := [Cond.classLink "VersionedTablesLaw" 15 "java/lang/IllegalStateException"]) (by decide +kernel) _ (List.mem_singleton.mpr rfl)
theorem kW_c10 : Cond.castable "java/lang/IllegalStateException" "java/lang/IllegalStateException" ∈ kx_ws := kx_all (l := [Cond.castable "java/lang/IllegalStateException" "java/lang/IllegalStateException"]) (by decide +kernel) _ (List.mem_singleton.mpr rfl)
theorem kW_l11 : Cond.classLink "VersionedTablesLaw" 35 "java/util/NoSuchElementException" ∈ kx_ws := kx_all (l := [Cond.classLink "VersionedTablesLaw" 35 "java/util/NoSuchElementException"]) (by decide +kernel) _ (List.mem_singleton.mpr rfl)
theorem kW_c11 : Cond.castable "java/util/NoSuchElementException" "java/util/NoSuchElementException" ∈ kx_ws := kx_all (l := [Cond.castable "java/util/NoSuchElementException" "java/util/NoSuchElementException"]) (by decide +kernel) _ (List.mem_singleton.mpr rfl)
theorem kW_l12 : Cond.classLink "VersionedTablesLaw" 44 "java/lang/UnsupportedOperationException" ∈ kx_ws := kx_all (l := [Cond.classLink "VersionedTablesLaw" 44 "java/lang/UnsupportedOperationException"]) (by decide +kernel) _ (List.mem_singleton.mpr rfl)
theorem kW_c12 : Cond.castable "java/lang/UnsupportedOperationException" "java/lang/UnsupportedOperationException" ∈ kx_ws := kx_all (l := [Cond.castable "java/lang/UnsupportedOperationException" "java/lang/UnsupportedOperationException"]) (by decide +kernel) _ (List.mem_singleton.mpr rfl)
theorem kW_l13 : Cond.classLink "VersionedTablesLaw" 50 "java/lang/ArithmeticException" ∈ kx_ws := kx_all (l := [Cond.classLink "VersionedTablesLaw" 50 "java/lang/ArithmeticException"]) (by decide +kernel) _ (List.mem_singleton.mpr rfl)
theorem kW_c13 : Cond.castable "java/lang/ArithmeticException" "java/lang/ArithmeticException" ∈ kx_ws := kx_all (l := [Cond.castable "java/lang/ArithmeticException" "java/lang/ArithmeticException"]) (by decide +kernel) _ (List.mem_singleton.mpr rfl)
theorem kW_l14 : Cond.classLink "VersionedTablesLaw" 61 "java/lang/IndexOutOfBoundsException" ∈ kx_ws := kx_all (l := [Cond.classLink "VersionedTablesLaw" 61 "java/lang/IndexOutOfBoundsException"]) (by decide +kernel) _ (List.mem_singleton.mpr rfl)
theorem kW_c14 : Cond.castable "java/lang/IndexOutOfBoundsException" "java/lang/IndexOutOfBoundsException" ∈ kx_ws := kx_all (l := [Cond.castable "java/lang/IndexOutOfBoundsException" "java/lang/IndexOutOfBoundsException"]) (by decide +kernel) _ (List.mem_singleton.mpr rfl)
theorem kW_n9_10 : Cond.not (.castable "java/lang/IllegalArgumentException" "java/lang/IllegalStateException") ∈ kx_ws := kx_all (l := [Cond.not (.castable "java/lang/IllegalArgumentException" "java/lang/IllegalStateException")]) (by decide +kernel) _ (List.mem_singleton.mpr rfl)
theorem kW_n9_11 : Cond.not (.castable "java/lang/IllegalArgumentException" "java/util/NoSuchElementException") ∈ kx_ws := kx_all (l := [Cond.not (.castable "java/lang/IllegalArgumentException" "java/util/NoSuchElementException")]) (by decide +kernel) _ (List.mem_singleton.mpr rfl)
theorem kW_n9_12 : Cond.not (.castable "java/lang/IllegalArgumentException" "java/lang/UnsupportedOperationException") ∈ kx_ws := kx_all (l := [Cond.not (.castable "java/lang/IllegalArgumentException" "java/lang/UnsupportedOperationException")]) (by decide +kernel) _ (List.mem_singleton.mpr rfl)
theorem kW_n9_13 : Cond.not (.castable "java/lang/IllegalArgumentException" "java/lang/ArithmeticException") ∈ kx_ws := kx_all (l := [Cond.not (.castable "java/lang/IllegalArgumentException" "java/lang/ArithmeticException")]) (by decide +kernel) _ (List.mem_singleton.mpr rfl)
theorem kW_n9_14 : Cond.not (.castable "java/lang/IllegalArgumentException" "java/lang/IndexOutOfBoundsException") ∈ kx_ws := kx_all (l := [Cond.not (.castable "java/lang/IllegalArgumentException" "java/lang/IndexOutOfBoundsException")]) (by decide +kernel) _ (List.mem_singleton.mpr rfl)
theorem kW_n10_9 : Cond.not (.castable "java/lang/IllegalStateException" "java/lang/IllegalArgumentException") ∈ kx_ws := kx_all (l := [Cond.not (.castable "java/lang/IllegalStateException" "java/lang/IllegalArgumentException")]) (by decide +kernel) _ (List.mem_singleton.mpr rfl)
theorem kW_n10_11 : Cond.not (.castable "java/lang/IllegalStateException" "java/util/NoSuchElementException") ∈ kx_ws := kx_all (l := [Cond.not (.castable "java/lang/IllegalStateException" "java/util/NoSuchElementException")]) (by decide +kernel) _ (List.mem_singleton.mpr rfl)
theorem kW_n10_12 : Cond.not (.castable "java/lang/IllegalStateException" "java/lang/UnsupportedOperationException") ∈ kx_ws := kx_all (l := [Cond.not (.castable "java/lang/IllegalStateException" "java/lang/UnsupportedOperationException")]) (by decide +kernel) _ (List.mem_singleton.mpr rfl)
theorem kW_n10_13 : Cond.not (.castable "java/lang/IllegalStateException" "java/lang/ArithmeticException") ∈ kx_ws := kx_all (l := [Cond.not (.castable "java/lang/IllegalStateException" "java/lang/ArithmeticException")]) (by decide +kernel) _ (List.mem_singleton.mpr rfl)
theorem kW_n10_14 : Cond.not (.castable "java/lang/IllegalStateException" "java/lang/IndexOutOfBoundsException") ∈ kx_ws := kx_all (l := [Cond.not (.castable "java/lang/IllegalStateException" "java/lang/IndexOutOfBoundsException")]) (by decide +kernel) _ (List.mem_singleton.mpr rfl)
theorem kW_n11_9 : Cond.not (.castable "java/util/NoSuchElementException" "java/lang/IllegalArgumentException") ∈ kx_ws := kx_all (l := [Cond.not (.castable "java/util/NoSuchElementException" "java/lang/IllegalArgumentException")]) (by decide +kernel) _ (List.mem_singleton.mpr rfl)
theorem kW_n11_10 : Cond.not (.castable "java/util/NoSuchElementException" "java/lang/IllegalStateException") ∈ kx_ws := kx_all (l := [Cond.not (.castable "java/util/NoSuchElementException" "java/lang/IllegalStateException")]) (by decide +kernel) _ (List.mem_singleton.mpr rfl)
theorem kW_n11_12 : Cond.not (.castable "java/util/NoSuchElementException" "java/lang/UnsupportedOperationException") ∈ kx_ws := kx_all (l := [Cond.not (.castable "java/util/NoSuchElementException" "java/lang/UnsupportedOperationException")]) (by decide +kernel) _ (List.mem_singleton.mpr rfl)
theorem kW_n11_13 : Cond.not (.castable "java/util/NoSuchElementException" "java/lang/ArithmeticException") ∈ kx_ws := kx_all (l := [Cond.not (.castable "java/util/NoSuchElementException" "java/lang/ArithmeticException")]) (by decide +kernel) _ (List.mem_singleton.mpr rfl)
theorem kW_n11_14 : Cond.not (.castable "java/util/NoSuchElementException" "java/lang/IndexOutOfBoundsException") ∈ kx_ws := kx_all (l := [Cond.not (.castable "java/util/NoSuchElementException" "java/lang/IndexOutOfBoundsException")]) (by decide +kernel) _ (List.mem_singleton.mpr rfl)
theorem kW_n12_9 : Cond.not (.castable "java/lang/UnsupportedOperationException" "java/lang/IllegalArgumentException") ∈ kx_ws := kx_all (l := [Cond.not (.castable "java/lang/UnsupportedOperationException" "java/lang/IllegalArgumentException")]) (by decide +kernel) _ (List.mem_singleton.mpr rfl)
theorem kW_n12_10 : Cond.not (.castable "java/lang/UnsupportedOperationException" "java/lang/IllegalStateException") ∈ kx_ws := kx_all (l := [Cond.not (.castable "java/lang/UnsupportedOperationException" "java/lang/IllegalStateException")]) (by decide +kernel) _ (List.mem_singleton.mpr rfl)
theorem kW_n12_11 : Cond.not (.castable "java/lang/UnsupportedOperationException" "java/util/NoSuchElementException") ∈ kx_ws := kx_all (l := [Cond.not (.castable "java/lang/UnsupportedOperationException" "java/util/NoSuchElementException")]) (by decide +kernel) _ (List.mem_singleton.mpr rfl)
theorem kW_n12_13 : Cond.not (.castable "java/lang/UnsupportedOperationException" "java/lang/ArithmeticException") ∈ kx_ws := kx_all (l := [Cond.not (.castable "java/lang/UnsupportedOperationException" "java/lang/ArithmeticException")]) (by decide +kernel) _ (List.mem_singleton.mpr rfl)
theorem kW_n12_14 : Cond.not (.castable "java/lang/UnsupportedOperationException" "java/lang/IndexOutOfBoundsException") ∈ kx_ws := kx_all (l := [Cond.not (.castable "java/lang/UnsupportedOperationException" "java/lang/IndexOutOfBoundsException")]) (by decide +kernel) _ (List.mem_singleton.mpr rfl)
theorem kW_n13_9 : Cond.not (.castable "java/lang/ArithmeticException" "java/lang/IllegalArgumentException") ∈ kx_ws := kx_all (l := [Cond.not (.castable "java/lang/ArithmeticException" "java/lang/IllegalArgumentException")]) (by decide +kernel) _ (List.mem_singleton.mpr rfl)
theorem kW_n13_10 : Cond.not (.castable "java/lang/ArithmeticException" "java/lang/IllegalStateException") ∈ kx_ws := kx_all (l := [Cond.not (.castable "java/lang/ArithmeticException" "java/lang/IllegalStateException")]) (by decide +kernel) _ (List.mem_singleton.mpr rfl)
theorem kW_n13_11 : Cond.not (.castable "java/lang/ArithmeticException" "java/util/NoSuchElementException") ∈ kx_ws := kx_all (l := [Cond.not (.castable "java/lang/ArithmeticException" "java/util/NoSuchElementException")]) (by decide +kernel) _ (List.mem_singleton.mpr rfl)
theorem kW_n13_12 : Cond.not (.castable "java/lang/ArithmeticException" "java/lang/UnsupportedOperationException") ∈ kx_ws := kx_all (l := [Cond.not (.castable "java/lang/ArithmeticException" "java/lang/UnsupportedOperationException")]) (by decide +kernel) _ (List.mem_singleton.mpr rfl)
theorem kW_n13_14 : Cond.not (.castable "java/lang/ArithmeticException" "java/lang/IndexOutOfBoundsException") ∈ kx_ws := kx_all (l := [Cond.not (.castable "java/lang/ArithmeticException" "java/lang/IndexOutOfBoundsException")]) (by decide +kernel) _ (List.mem_singleton.mpr rfl)
theorem kW_n14_9 : Cond.not (.castable "java/lang/IndexOutOfBoundsException" "java/lang/IllegalArgumentException") ∈ kx_ws := kx_all (l := [Cond.not (.castable "java/lang/IndexOutOfBoundsException" "java/lang/IllegalArgumentException")]) (by decide +kernel) _ (List.mem_singleton.mpr rfl)
theorem kW_n14_10 : Cond.not (.castable "java/lang/IndexOutOfBoundsException" "java/lang/IllegalStateException") ∈ kx_ws := kx_all (l := [Cond.not (.castable "java/lang/IndexOutOfBoundsException" "java/lang/IllegalStateException")]) (by decide +kernel) _ (List.mem_singleton.mpr rfl)
theorem kW_n14_11 : Cond.not (.castable "java/lang/IndexOutOfBoundsException" "java/util/NoSuchElementException") ∈ kx_ws := kx_all (l := [Cond.not (.castable "java/lang/IndexOutOfBoundsException" "java/util/NoSuchElementException")]) (by decide +kernel) _ (List.mem_singleton.mpr rfl)
theorem kW_n14_12 : Cond.not (.castable "java/lang/IndexOutOfBoundsException" "java/lang/UnsupportedOperationException") ∈ kx_ws := kx_all (l := [Cond.not (.castable "java/lang/IndexOutOfBoundsException" "java/lang/UnsupportedOperationException")]) (by decide +kernel) _ (List.mem_singleton.mpr rfl)
theorem kW_n14_13 : Cond.not (.castable "java/lang/IndexOutOfBoundsException" "java/lang/ArithmeticException") ∈ kx_ws := kx_all (l := [Cond.not (.castable "java/lang/IndexOutOfBoundsException" "java/lang/ArithmeticException")]) (by decide +kernel) _ (List.mem_singleton.mpr rfl)
set_option maxRecDepth 100000 in
theorem cL_create_r {p0 p1 : Int32} {Pq : kx_H → Prop} (hst : l.stackTraces = false) {fs : List Value} (hx : kx_is G h x (.inr (0, fs))) (hC : kx_c G l mV_create d mc ms [.ref x, .int p0, .int p1] h (fun o h' => o = .returned none ∧ Pq h')) :
    kx_c G l mL_create (d + 1) mc ms [.ref x, .int p0, .int p1] h (fun o h' => o = .returned (some (.int 0)) ∧ Pq h') := by
  refine kx_in (by decide +kernel) (Nat.le_of_ble_eq_true rfl) hst ?_
  refine kx_low (kc' := 0 + mc) (ks' := 0 + ms) (by omega) (by omega) ?_
  refine kx_rn dL_create 3 3 [(0, .ref x), (1, .int p0), (2, .int p1)] [.int p1, .int p0, .ref x] rfl ?_
  refine cL_7 (as := [.int p0, .int p1]) (st := []) (mc := mc) (ms := ms) (kc := 0) (ks := 0) rfl (kx_tk_dec rfl dL_create) hx rfl rfl (Nat.le_of_ble_eq_true rfl) (hC) (fun o h' hq => ?_)
  obtain ⟨rfl, hp⟩ := hq
  show kx_w _ _ _ _ _ _ _ _ _ _ _
  refine kx_rn dL_create 2 16 [(0, .ref x), (1, .int p0), (2, .int p1)] [.int 0] rfl ?_
  refine kx_ret (ty := .int) (kx_tk_dec rfl dL_create) rfl rfl ?_
  exact ⟨rfl, hp⟩
set_option maxRecDepth 100000 in
theorem cL_create_9 {p0 p1 : Int32} {Pq : kx_H → Prop} (hst : l.stackTraces = false) {fs : List Value} (hx : kx_is G h x (.inr (0, fs))) (hC : kx_c G l mV_create d mc ms [.ref x, .int p0, .int p1] h (fun o h' => ∃ e, o = .threw e ∧ kx_is G h' e (.inr (9, [])) ∧ Pq h')) :
    kx_c G l mL_create (d + 1) mc ms [.ref x, .int p0, .int p1] h (fun o h' => o = .returned (some (.int 1)) ∧ Pq h') := by
  refine kx_in (by decide +kernel) (Nat.le_of_ble_eq_true rfl) hst ?_
  refine kx_low (kc' := 0 + mc) (ks' := 0 + ms) (by omega) (by omega) ?_
  refine kx_rn dL_create 3 3 [(0, .ref x), (1, .int p0), (2, .int p1)] [.int p1, .int p0, .ref x] rfl ?_
  refine cL_7 (as := [.int p0, .int p1]) (st := []) (mc := mc) (ms := ms) (kc := 0) (ks := 0) rfl (kx_tk_dec rfl dL_create) hx rfl rfl (Nat.le_of_ble_eq_true rfl) (hC) (fun o h' hq => ?_)
  obtain ⟨e, rfl, he, hp⟩ := hq
  refine kx_cat (j := 0) (q := (0, 6, 9, 13)) rfl he rfl (by decide) (by decide) kW_l9 kW_c9 (fun i hi z hz => by omega) ?_
  refine kx_rn dL_create 2 11 [(0, .ref x), (1, .int p0), (2, .int p1), (3, .ref e)] [.int 1] rfl ?_
  refine kx_ret (ty := .int) (kx_tk_dec rfl dL_create) rfl rfl ?_
  exact ⟨rfl, hp⟩
set_option maxRecDepth 100000 in
theorem cL_create_10 {p0 p1 : Int32} {Pq : kx_H → Prop} (hst : l.stackTraces = false) {fs : List Value} (hx : kx_is G h x (.inr (0, fs))) (hC : kx_c G l mV_create d mc ms [.ref x, .int p0, .int p1] h (fun o h' => ∃ e, o = .threw e ∧ kx_is G h' e (.inr (10, [])) ∧ Pq h')) :
    kx_c G l mL_create (d + 1) mc ms [.ref x, .int p0, .int p1] h (fun o h' => o = .returned (some (.int 2)) ∧ Pq h') := by
  refine kx_in (by decide +kernel) (Nat.le_of_ble_eq_true rfl) hst ?_
  refine kx_low (kc' := 0 + mc) (ks' := 0 + ms) (by omega) (by omega) ?_
  refine kx_rn dL_create 3 3 [(0, .ref x), (1, .int p0), (2, .int p1)] [.int p1, .int p0, .ref x] rfl ?_
  refine cL_7 (as := [.int p0, .int p1]) (st := []) (mc := mc) (ms := ms) (kc := 0) (ks := 0) rfl (kx_tk_dec rfl dL_create) hx rfl rfl (Nat.le_of_ble_eq_true rfl) (hC) (fun o h' hq => ?_)
  obtain ⟨e, rfl, he, hp⟩ := hq
  refine kx_cat (j := 1) (q := (0, 6, 12, 15)) rfl he rfl (by decide) (by decide) kW_l10 kW_c10 (fun i hi z hz => by
    have hi2 : i = 0 := by omega
    rcases hi2 with rfl
    · injection hz with hz; rw [← hz]; exact Or.inr ⟨by decide, _, kW_l9, kW_n10_9⟩) ?_
  refine kx_rn dL_create 2 14 [(0, .ref x), (1, .int p0), (2, .int p1), (3, .ref e)] [.int 2] rfl ?_
  refine kx_ret (ty := .int) (kx_tk_dec rfl dL_create) rfl rfl ?_
  exact ⟨rfl, hp⟩
set_option maxRecDepth 100000 in
theorem cL_type_r {p0 : Int32} {a : Nat} {Pq : Int32 → kx_H → Prop} (hP : ∀ v h1, Pq v h1 → ∃ f, kx_is G h1 a (kLa f)) (hst : l.stackTraces = false) {fs : List Value} (hx : kx_is G h x (.inr (0, fs))) (hC : kx_c G l mV_type d mc ms [.ref x, .int p0] h (fun o h' => ∃ v : Int32, o = .returned (some (.int v)) ∧ Pq v h')) :
    kx_c G l mL_type (d + 1) mc ms [.ref x, .int p0, .ref a] h (fun o h' => ∃ (v : Int32) (h1 : kx_H) (f : Nat → Int64), o = .returned (some (.int 0)) ∧ Pq v h1 ∧ kx_is G h1 a (kLa f) ∧ h' = kx_set h1 a (kLa (va_up f 0 v.toInt64))) := by
  refine kx_in (by decide +kernel) (Nat.le_of_ble_eq_true rfl) hst ?_
  refine kx_low (kc' := 0 + mc) (ks' := 0 + ms) (by omega) (by omega) ?_
  refine kx_rn dL_type 4 4 [(0, .ref x), (1, .int p0), (2, .ref a)] [.int p0, .ref x, .int 0, .ref a] rfl ?_
  refine cL_17 (as := [.int p0]) (st := [.int 0, .ref a]) (mc := mc) (ms := ms) (kc := 0) (ks := 0) rfl (kx_tk_dec rfl dL_type) hx rfl rfl (Nat.le_of_ble_eq_true rfl) (hC) (fun o h' hq => ?_)
  obtain ⟨v, rfl, hp⟩ := hq
  obtain ⟨f, hf⟩ := hP v h' hp
  show kx_w _ _ _ _ _ _ _ _ _ _ _
  refine kx_rn dL_type 1 8 [(0, .ref x), (1, .int p0), (2, .ref a)] [.long v.toInt64, .int 0, .ref a] rfl ?_
  refine kx_lstN (kx_tk_dec rfl dL_type) hf ?_
  refine kx_rn dL_type 2 19 [(0, .ref x), (1, .int p0), (2, .ref a)] [.int 0] rfl ?_
  refine kx_ret (ty := .int) (kx_tk_dec rfl dL_type) rfl rfl ?_
  exact ⟨v, _, f, rfl, hp, hf, rfl⟩
set_option maxRecDepth 100000 in
theorem cL_type_9 {p0 : Int32} {a : Nat} {Pq : kx_H → Prop} (hst : l.stackTraces = false) {fs : List Value} (hx : kx_is G h x (.inr (0, fs))) (hC : kx_c G l mV_type d mc ms [.ref x, .int p0] h (fun o h' => ∃ e, o = .threw e ∧ kx_is G h' e (.inr (9, [])) ∧ Pq h')) :
    kx_c G l mL_type (d + 1) mc ms [.ref x, .int p0, .ref a] h (fun o h' => o = .returned (some (.int 1)) ∧ Pq h') := by
  refine kx_in (by decide +kernel) (Nat.le_of_ble_eq_true rfl) hst ?_
  refine kx_low (kc' := 0 + mc) (ks' := 0 + ms) (by omega) (by omega) ?_
  refine kx_rn dL_type 4 4 [(0, .ref x), (1, .int p0), (2, .ref a)] [.int p0, .ref x, .int 0, .ref a] rfl ?_
  refine cL_17 (as := [.int p0]) (st := [.int 0, .ref a]) (mc := mc) (ms := ms) (kc := 0) (ks := 0) rfl (kx_tk_dec rfl dL_type) hx rfl rfl (Nat.le_of_ble_eq_true rfl) (hC) (fun o h' hq => ?_)
  obtain ⟨e, rfl, he, hp⟩ := hq
  refine kx_cat (j := 0) (q := (0, 9, 12, 13)) rfl he rfl (by decide) (by decide) kW_l9 kW_c9 (fun i hi z hz => by omega) ?_
  refine kx_rn dL_type 2 14 [(0, .ref x), (1, .int p0), (2, .ref a), (3, .ref e)] [.int 1] rfl ?_
  refine kx_ret (ty := .int) (kx_tk_dec rfl dL_type) rfl rfl ?_
  exact ⟨rfl, hp⟩
set_option maxRecDepth 100000 in
theorem cL_type_10 {p0 : Int32} {a : Nat} {Pq : kx_H → Prop} (hst : l.stackTraces = false) {fs : List Value} (hx : kx_is G h x (.inr (0, fs))) (hC : kx_c G l mV_type d mc ms [.ref x, .int p0] h (fun o h' => ∃ e, o = .threw e ∧ kx_is G h' e (.inr (10, [])) ∧ Pq h')) :
    kx_c G l mL_type (d + 1) mc ms [.ref x, .int p0, .ref a] h (fun o h' => o = .returned (some (.int 2)) ∧ Pq h') := by
  refine kx_in (by decide +kernel) (Nat.le_of_ble_eq_true rfl) hst ?_
  refine kx_low (kc' := 0 + mc) (ks' := 0 + ms) (by omega) (by omega) ?_
  refine kx_rn dL_type 4 4 [(0, .ref x), (1, .int p0), (2, .ref a)] [.int p0, .ref x, .int 0, .ref a] rfl ?_
  refine cL_17 (as := [.int p0]) (st := [.int 0, .ref a]) (mc := mc) (ms := ms) (kc := 0) (ks := 0) rfl (kx_tk_dec rfl dL_type) hx rfl rfl (Nat.le_of_ble_eq_true rfl) (hC) (fun o h' hq => ?_)
  obtain ⟨e, rfl, he, hp⟩ := hq
  refine kx_cat (j := 1) (q := (0, 9, 15, 15)) rfl he rfl (by decide) (by decide) kW_l10 kW_c10 (fun i hi z hz => by
    have hi2 : i = 0 := by omega
    rcases hi2 with rfl
    · injection hz with hz; rw [← hz]; exact Or.inr ⟨by decide, _, kW_l9, kW_n10_9⟩) ?_
  refine kx_rn dL_type 2 17 [(0, .ref x), (1, .int p0), (2, .ref a), (3, .ref e)] [.int 2] rfl ?_
  refine kx_ret (ty := .int) (kx_tk_dec rfl dL_type) rfl rfl ?_
  exact ⟨rfl, hp⟩
set_option maxRecDepth 100000 in
theorem cL_where_r {Pq : kx_H → Prop} (hst : l.stackTraces = false) {fs : List Value} (hx : kx_is G h x (.inr (0, fs))) (hC : kx_c G l mV_where d mc ms [.ref x] h (fun o h' => o = .returned none ∧ Pq h')) :
    kx_c G l mL_where (d + 1) mc ms [.ref x] h (fun o h' => o = .returned (some (.int 0)) ∧ Pq h') := by
  refine kx_in (by decide +kernel) (Nat.le_of_ble_eq_true rfl) hst ?_
  refine kx_low (kc' := 0 + mc) (ks' := 0 + ms) (by omega) (by omega) ?_
  refine kx_rn dL_where 1 1 [(0, .ref x)] [.ref x] rfl ?_
  refine cL_21 (as := []) (st := []) (mc := mc) (ms := ms) (kc := 0) (ks := 0) rfl (kx_tk_dec rfl dL_where) hx rfl rfl (Nat.le_of_ble_eq_true rfl) (hC) (fun o h' hq => ?_)
  obtain ⟨rfl, hp⟩ := hq
  show kx_w _ _ _ _ _ _ _ _ _ _ _
  refine kx_rn dL_where 2 11 [(0, .ref x)] [.int 0] rfl ?_
  refine kx_ret (ty := .int) (kx_tk_dec rfl dL_where) rfl rfl ?_
  exact ⟨rfl, hp⟩
set_option maxRecDepth 100000 in
theorem cL_where_9 {Pq : kx_H → Prop} (hst : l.stackTraces = false) {fs : List Value} (hx : kx_is G h x (.inr (0, fs))) (hC : kx_c G l mV_where d mc ms [.ref x] h (fun o h' => ∃ e, o = .threw e ∧ kx_is G h' e (.inr (9, [])) ∧ Pq h')) :
    kx_c G l mL_where (d + 1) mc ms [.ref x] h (fun o h' => o = .returned (some (.int 1)) ∧ Pq h') := by
  refine kx_in (by decide +kernel) (Nat.le_of_ble_eq_true rfl) hst ?_
  refine kx_low (kc' := 0 + mc) (ks' := 0 + ms) (by omega) (by omega) ?_
  refine kx_rn dL_where 1 1 [(0, .ref x)] [.ref x] rfl ?_
  refine cL_21 (as := []) (st := []) (mc := mc) (ms := ms) (kc := 0) (ks := 0) rfl (kx_tk_dec rfl dL_where) hx rfl rfl (Nat.le_of_ble_eq_true rfl) (hC) (fun o h' hq => ?_)
  obtain ⟨e, rfl, he, hp⟩ := hq
  refine kx_cat (j := 0) (q := (0, 4, 7, 13)) rfl he rfl (by decide) (by decide) kW_l9 kW_c9 (fun i hi z hz => by omega) ?_
  refine kx_rn dL_where 2 9 [(0, .ref x), (1, .ref e)] [.int 1] rfl ?_
  refine kx_ret (ty := .int) (kx_tk_dec rfl dL_where) rfl rfl ?_
  exact ⟨rfl, hp⟩
set_option maxRecDepth 100000 in
theorem cL_setting_r {a : Nat} {Pq : Int32 → kx_H → Prop} (hP : ∀ v h1, Pq v h1 → ∃ f, kx_is G h1 a (kLa f)) (hst : l.stackTraces = false) {fs : List Value} (hx : kx_is G h x (.inr (0, fs))) (hC : kx_c G l mV_setting d mc ms [.ref x] h (fun o h' => ∃ v : Int32, o = .returned (some (.int v)) ∧ Pq v h')) :
    kx_c G l mL_setting (d + 1) mc ms [.ref x, .ref a] h (fun o h' => ∃ (v : Int32) (h1 : kx_H) (f : Nat → Int64), o = .returned (some (.int 0)) ∧ Pq v h1 ∧ kx_is G h1 a (kLa f) ∧ h' = kx_set h1 a (kLa (va_up f 0 v.toInt64))) := by
  refine kx_in (by decide +kernel) (Nat.le_of_ble_eq_true rfl) hst ?_
  refine kx_low (kc' := 0 + mc) (ks' := 0 + ms) (by omega) (by omega) ?_
  refine kx_rn dL_setting 3 3 [(0, .ref x), (1, .ref a)] [.ref x, .int 0, .ref a] rfl ?_
  refine cL_24 (as := []) (st := [.int 0, .ref a]) (mc := mc) (ms := ms) (kc := 0) (ks := 0) rfl (kx_tk_dec rfl dL_setting) hx rfl rfl (Nat.le_of_ble_eq_true rfl) (hC) (fun o h' hq => ?_)
  obtain ⟨v, rfl, hp⟩ := hq
  obtain ⟨f, hf⟩ := hP v h' hp
  show kx_w _ _ _ _ _ _ _ _ _ _ _
  refine kx_rn dL_setting 1 7 [(0, .ref x), (1, .ref a)] [.long v.toInt64, .int 0, .ref a] rfl ?_
  refine kx_lstN (kx_tk_dec rfl dL_setting) hf ?_
  refine kx_rn dL_setting 2 15 [(0, .ref x), (1, .ref a)] [.int 0] rfl ?_
  refine kx_ret (ty := .int) (kx_tk_dec rfl dL_setting) rfl rfl ?_
  exact ⟨v, _, f, rfl, hp, hf, rfl⟩
set_option maxRecDepth 100000 in
theorem cL_setting_9 {a : Nat} {Pq : kx_H → Prop} (hst : l.stackTraces = false) {fs : List Value} (hx : kx_is G h x (.inr (0, fs))) (hC : kx_c G l mV_setting d mc ms [.ref x] h (fun o h' => ∃ e, o = .threw e ∧ kx_is G h' e (.inr (9, [])) ∧ Pq h')) :
    kx_c G l mL_setting (d + 1) mc ms [.ref x, .ref a] h (fun o h' => o = .returned (some (.int 1)) ∧ Pq h') := by
  refine kx_in (by decide +kernel) (Nat.le_of_ble_eq_true rfl) hst ?_
  refine kx_low (kc' := 0 + mc) (ks' := 0 + ms) (by omega) (by omega) ?_
  refine kx_rn dL_setting 3 3 [(0, .ref x), (1, .ref a)] [.ref x, .int 0, .ref a] rfl ?_
  refine cL_24 (as := []) (st := [.int 0, .ref a]) (mc := mc) (ms := ms) (kc := 0) (ks := 0) rfl (kx_tk_dec rfl dL_setting) hx rfl rfl (Nat.le_of_ble_eq_true rfl) (hC) (fun o h' hq => ?_)
  obtain ⟨e, rfl, he, hp⟩ := hq
  refine kx_cat (j := 0) (q := (0, 8, 11, 13)) rfl he rfl (by decide) (by decide) kW_l9 kW_c9 (fun i hi z hz => by omega) ?_
  refine kx_rn dL_setting 2 13 [(0, .ref x), (1, .ref a), (2, .ref e)] [.int 1] rfl ?_
  refine kx_ret (ty := .int) (kx_tk_dec rfl dL_setting) rfl rfl ?_
  exact ⟨rfl, hp⟩
set_option maxRecDepth 100000 in
theorem cL_begin_r {a : Nat} {Pq : Int32 → kx_H → Prop} (hP : ∀ v h1, Pq v h1 → ∃ f, kx_is G h1 a (kLa f)) (hst : l.stackTraces = false) {fs : List Value} (hx : kx_is G h x (.inr (0, fs))) (hC : kx_c G l mV_begin d mc ms [.ref x] h (fun o h' => ∃ v : Int32, o = .returned (some (.int v)) ∧ Pq v h')) :
    kx_c G l mL_begin (d + 1) mc ms [.ref x, .ref a] h (fun o h' => ∃ (v : Int32) (h1 : kx_H) (f : Nat → Int64), o = .returned (some (.int 0)) ∧ Pq v h1 ∧ kx_is G h1 a (kLa f) ∧ h' = kx_set h1 a (kLa (va_up f 0 v.toInt64))) := by
  refine kx_in (by decide +kernel) (Nat.le_of_ble_eq_true rfl) hst ?_
  refine kx_low (kc' := 0 + mc) (ks' := 0 + ms) (by omega) (by omega) ?_
  refine kx_rn dL_begin 3 3 [(0, .ref x), (1, .ref a)] [.ref x, .int 0, .ref a] rfl ?_
  refine cL_28 (as := []) (st := [.int 0, .ref a]) (mc := mc) (ms := ms) (kc := 0) (ks := 0) rfl (kx_tk_dec rfl dL_begin) hx rfl rfl (Nat.le_of_ble_eq_true rfl) (hC) (fun o h' hq => ?_)
  obtain ⟨v, rfl, hp⟩ := hq
  obtain ⟨f, hf⟩ := hP v h' hp
  show kx_w _ _ _ _ _ _ _ _ _ _ _
  refine kx_rn dL_begin 1 7 [(0, .ref x), (1, .ref a)] [.long v.toInt64, .int 0, .ref a] rfl ?_
  refine kx_lstN (kx_tk_dec rfl dL_begin) hf ?_
  refine kx_rn dL_begin 2 15 [(0, .ref x), (1, .ref a)] [.int 0] rfl ?_
  refine kx_ret (ty := .int) (kx_tk_dec rfl dL_begin) rfl rfl ?_
  exact ⟨v, _, f, rfl, hp, hf, rfl⟩
set_option maxRecDepth 100000 in
theorem cL_begin_10 {a : Nat} {Pq : kx_H → Prop} (hst : l.stackTraces = false) {fs : List Value} (hx : kx_is G h x (.inr (0, fs))) (hC : kx_c G l mV_begin d mc ms [.ref x] h (fun o h' => ∃ e, o = .threw e ∧ kx_is G h' e (.inr (10, [])) ∧ Pq h')) :
    kx_c G l mL_begin (d + 1) mc ms [.ref x, .ref a] h (fun o h' => o = .returned (some (.int 1)) ∧ Pq h') := by
  refine kx_in (by decide +kernel) (Nat.le_of_ble_eq_true rfl) hst ?_
  refine kx_low (kc' := 0 + mc) (ks' := 0 + ms) (by omega) (by omega) ?_
  refine kx_rn dL_begin 3 3 [(0, .ref x), (1, .ref a)] [.ref x, .int 0, .ref a] rfl ?_
  refine cL_28 (as := []) (st := [.int 0, .ref a]) (mc := mc) (ms := ms) (kc := 0) (ks := 0) rfl (kx_tk_dec rfl dL_begin) hx rfl rfl (Nat.le_of_ble_eq_true rfl) (hC) (fun o h' hq => ?_)
  obtain ⟨e, rfl, he, hp⟩ := hq
  refine kx_cat (j := 0) (q := (0, 8, 11, 15)) rfl he rfl (by decide) (by decide) kW_l10 kW_c10 (fun i hi z hz => by omega) ?_
  refine kx_rn dL_begin 2 13 [(0, .ref x), (1, .ref a), (2, .ref e)] [.int 1] rfl ?_
  refine kx_ret (ty := .int) (kx_tk_dec rfl dL_begin) rfl rfl ?_
  exact ⟨rfl, hp⟩
set_option maxRecDepth 100000 in
theorem cL_commit_r {p0 : Int32} {Pq : kx_H → Prop} (hst : l.stackTraces = false) {fs : List Value} (hx : kx_is G h x (.inr (0, fs))) (hC : kx_c G l mV_commit d mc ms [.ref x, .int p0] h (fun o h' => o = .returned none ∧ Pq h')) :
    kx_c G l mL_commit (d + 1) mc ms [.ref x, .int p0] h (fun o h' => o = .returned (some (.int 0)) ∧ Pq h') := by
  refine kx_in (by decide +kernel) (Nat.le_of_ble_eq_true rfl) hst ?_
  refine kx_low (kc' := 0 + mc) (ks' := 0 + ms) (by omega) (by omega) ?_
  refine kx_rn dL_commit 2 2 [(0, .ref x), (1, .int p0)] [.int p0, .ref x] rfl ?_
  refine cL_31 (as := [.int p0]) (st := []) (mc := mc) (ms := ms) (kc := 0) (ks := 0) rfl (kx_tk_dec rfl dL_commit) hx rfl rfl (Nat.le_of_ble_eq_true rfl) (hC) (fun o h' hq => ?_)
  obtain ⟨rfl, hp⟩ := hq
  show kx_w _ _ _ _ _ _ _ _ _ _ _
  refine kx_rn dL_commit 2 12 [(0, .ref x), (1, .int p0)] [.int 0] rfl ?_
  refine kx_ret (ty := .int) (kx_tk_dec rfl dL_commit) rfl rfl ?_
  exact ⟨rfl, hp⟩
set_option maxRecDepth 100000 in
theorem cL_commit_11 {p0 : Int32} {Pq : kx_H → Prop} (hst : l.stackTraces = false) {fs : List Value} (hx : kx_is G h x (.inr (0, fs))) (hC : kx_c G l mV_commit d mc ms [.ref x, .int p0] h (fun o h' => ∃ e, o = .threw e ∧ kx_is G h' e (.inr (11, [])) ∧ Pq h')) :
    kx_c G l mL_commit (d + 1) mc ms [.ref x, .int p0] h (fun o h' => o = .returned (some (.int 1)) ∧ Pq h') := by
  refine kx_in (by decide +kernel) (Nat.le_of_ble_eq_true rfl) hst ?_
  refine kx_low (kc' := 0 + mc) (ks' := 0 + ms) (by omega) (by omega) ?_
  refine kx_rn dL_commit 2 2 [(0, .ref x), (1, .int p0)] [.int p0, .ref x] rfl ?_
  refine cL_31 (as := [.int p0]) (st := []) (mc := mc) (ms := ms) (kc := 0) (ks := 0) rfl (kx_tk_dec rfl dL_commit) hx rfl rfl (Nat.le_of_ble_eq_true rfl) (hC) (fun o h' hq => ?_)
  obtain ⟨e, rfl, he, hp⟩ := hq
  refine kx_cat (j := 0) (q := (0, 5, 8, 35)) rfl he rfl (by decide) (by decide) kW_l11 kW_c11 (fun i hi z hz => by omega) ?_
  refine kx_rn dL_commit 2 10 [(0, .ref x), (1, .int p0), (2, .ref e)] [.int 1] rfl ?_
  refine kx_ret (ty := .int) (kx_tk_dec rfl dL_commit) rfl rfl ?_
  exact ⟨rfl, hp⟩
set_option maxRecDepth 100000 in
theorem cL_abort_r {p0 : Int32} {a : Nat} {Pq : Int32 → kx_H → Prop} (hP : ∀ v h1, Pq v h1 → ∃ f, kx_is G h1 a (kLa f)) (hst : l.stackTraces = false) {fs : List Value} (hx : kx_is G h x (.inr (0, fs))) (hC : kx_c G l mV_abort d mc ms [.ref x, .int p0] h (fun o h' => ∃ v : Int32, o = .returned (some (.int v)) ∧ Pq v h')) :
    kx_c G l mL_abort (d + 1) mc ms [.ref x, .int p0, .ref a] h (fun o h' => ∃ (v : Int32) (h1 : kx_H) (f : Nat → Int64), o = .returned (some (.int 0)) ∧ Pq v h1 ∧ kx_is G h1 a (kLa f) ∧ h' = kx_set h1 a (kLa (va_up f 0 v.toInt64))) := by
  refine kx_in (by decide +kernel) (Nat.le_of_ble_eq_true rfl) hst ?_
  refine kx_low (kc' := 0 + mc) (ks' := 0 + ms) (by omega) (by omega) ?_
  refine kx_rn dL_abort 4 4 [(0, .ref x), (1, .int p0), (2, .ref a)] [.int p0, .ref x, .int 0, .ref a] rfl ?_
  refine cL_37 (as := [.int p0]) (st := [.int 0, .ref a]) (mc := mc) (ms := ms) (kc := 0) (ks := 0) rfl (kx_tk_dec rfl dL_abort) hx rfl rfl (Nat.le_of_ble_eq_true rfl) (hC) (fun o h' hq => ?_)
  obtain ⟨v, rfl, hp⟩ := hq
  obtain ⟨f, hf⟩ := hP v h' hp
  show kx_w _ _ _ _ _ _ _ _ _ _ _
  refine kx_rn dL_abort 1 8 [(0, .ref x), (1, .int p0), (2, .ref a)] [.long v.toInt64, .int 0, .ref a] rfl ?_
  refine kx_lstN (kx_tk_dec rfl dL_abort) hf ?_
  refine kx_rn dL_abort 2 16 [(0, .ref x), (1, .int p0), (2, .ref a)] [.int 0] rfl ?_
  refine kx_ret (ty := .int) (kx_tk_dec rfl dL_abort) rfl rfl ?_
  exact ⟨v, _, f, rfl, hp, hf, rfl⟩
set_option maxRecDepth 100000 in
theorem cL_abort_11 {p0 : Int32} {a : Nat} {Pq : kx_H → Prop} (hst : l.stackTraces = false) {fs : List Value} (hx : kx_is G h x (.inr (0, fs))) (hC : kx_c G l mV_abort d mc ms [.ref x, .int p0] h (fun o h' => ∃ e, o = .threw e ∧ kx_is G h' e (.inr (11, [])) ∧ Pq h')) :
    kx_c G l mL_abort (d + 1) mc ms [.ref x, .int p0, .ref a] h (fun o h' => o = .returned (some (.int 1)) ∧ Pq h') := by
  refine kx_in (by decide +kernel) (Nat.le_of_ble_eq_true rfl) hst ?_
  refine kx_low (kc' := 0 + mc) (ks' := 0 + ms) (by omega) (by omega) ?_
  refine kx_rn dL_abort 4 4 [(0, .ref x), (1, .int p0), (2, .ref a)] [.int p0, .ref x, .int 0, .ref a] rfl ?_
  refine cL_37 (as := [.int p0]) (st := [.int 0, .ref a]) (mc := mc) (ms := ms) (kc := 0) (ks := 0) rfl (kx_tk_dec rfl dL_abort) hx rfl rfl (Nat.le_of_ble_eq_true rfl) (hC) (fun o h' hq => ?_)
  obtain ⟨e, rfl, he, hp⟩ := hq
  refine kx_cat (j := 0) (q := (0, 9, 12, 35)) rfl he rfl (by decide) (by decide) kW_l11 kW_c11 (fun i hi z hz => by omega) ?_
  refine kx_rn dL_abort 2 14 [(0, .ref x), (1, .int p0), (2, .ref a), (3, .ref e)] [.int 1] rfl ?_
  refine kx_ret (ty := .int) (kx_tk_dec rfl dL_abort) rfl rfl ?_
  exact ⟨rfl, hp⟩
set_option maxRecDepth 100000 in
theorem cL_insert_r {p0 p1 p2 p3 p4 p5 : Int32} {a : Nat} {Pq : Int32 → kx_H → Prop} (hP : ∀ v h1, Pq v h1 → ∃ f, kx_is G h1 a (kLa f)) (hst : l.stackTraces = false) {fs : List Value} (hx : kx_is G h x (.inr (0, fs))) (hC : kx_c G l mV_insert d mc ms [.ref x, .int p0, .int p1, .int p2, .int p3, .int p4, .int p5] h (fun o h' => ∃ v : Int32, o = .returned (some (.int v)) ∧ Pq v h')) :
    kx_c G l mL_insert (d + 1) mc ms [.ref x, .int p0, .int p1, .int p2, .int p3, .int p4, .int p5, .ref a] h (fun o h' => ∃ (v : Int32) (h1 : kx_H) (f : Nat → Int64), o = .returned (some (.int 0)) ∧ Pq v h1 ∧ kx_is G h1 a (kLa f) ∧ h' = kx_set h1 a (kLa (va_up f 0 v.toInt64))) := by
  refine kx_in (by decide +kernel) (Nat.le_of_ble_eq_true rfl) hst ?_
  refine kx_low (kc' := 0 + mc) (ks' := 0 + ms) (by omega) (by omega) ?_
  refine kx_rn dL_insert 9 13 [(0, .ref x), (1, .int p0), (2, .int p1), (3, .int p2), (4, .int p3), (5, .int p4), (6, .int p5), (7, .ref a)] [.int p5, .int p4, .int p3, .int p2, .int p1, .int p0, .ref x, .int 0, .ref a] rfl ?_
  refine cL_40 (as := [.int p0, .int p1, .int p2, .int p3, .int p4, .int p5]) (st := [.int 0, .ref a]) (mc := mc) (ms := ms) (kc := 0) (ks := 0) rfl (kx_tk_dec rfl dL_insert) hx rfl rfl (Nat.le_of_ble_eq_true rfl) (hC) (fun o h' hq => ?_)
  obtain ⟨v, rfl, hp⟩ := hq
  obtain ⟨f, hf⟩ := hP v h' hp
  show kx_w _ _ _ _ _ _ _ _ _ _ _
  refine kx_rn dL_insert 1 17 [(0, .ref x), (1, .int p0), (2, .int p1), (3, .int p2), (4, .int p3), (5, .int p4), (6, .int p5), (7, .ref a)] [.long v.toInt64, .int 0, .ref a] rfl ?_
  refine kx_lstN (kx_tk_dec rfl dL_insert) hf ?_
  refine kx_rn dL_insert 2 34 [(0, .ref x), (1, .int p0), (2, .int p1), (3, .int p2), (4, .int p3), (5, .int p4), (6, .int p5), (7, .ref a)] [.int 0] rfl ?_
  refine kx_ret (ty := .int) (kx_tk_dec rfl dL_insert) rfl rfl ?_
  exact ⟨v, _, f, rfl, hp, hf, rfl⟩
set_option maxRecDepth 100000 in
theorem cL_insert_11 {p0 p1 p2 p3 p4 p5 : Int32} {a : Nat} {Pq : kx_H → Prop} (hst : l.stackTraces = false) {fs : List Value} (hx : kx_is G h x (.inr (0, fs))) (hC : kx_c G l mV_insert d mc ms [.ref x, .int p0, .int p1, .int p2, .int p3, .int p4, .int p5] h (fun o h' => ∃ e, o = .threw e ∧ kx_is G h' e (.inr (11, [])) ∧ Pq h')) :
    kx_c G l mL_insert (d + 1) mc ms [.ref x, .int p0, .int p1, .int p2, .int p3, .int p4, .int p5, .ref a] h (fun o h' => o = .returned (some (.int 1)) ∧ Pq h') := by
  refine kx_in (by decide +kernel) (Nat.le_of_ble_eq_true rfl) hst ?_
  refine kx_low (kc' := 0 + mc) (ks' := 0 + ms) (by omega) (by omega) ?_
  refine kx_rn dL_insert 9 13 [(0, .ref x), (1, .int p0), (2, .int p1), (3, .int p2), (4, .int p3), (5, .int p4), (6, .int p5), (7, .ref a)] [.int p5, .int p4, .int p3, .int p2, .int p1, .int p0, .ref x, .int 0, .ref a] rfl ?_
  refine cL_40 (as := [.int p0, .int p1, .int p2, .int p3, .int p4, .int p5]) (st := [.int 0, .ref a]) (mc := mc) (ms := ms) (kc := 0) (ks := 0) rfl (kx_tk_dec rfl dL_insert) hx rfl rfl (Nat.le_of_ble_eq_true rfl) (hC) (fun o h' hq => ?_)
  obtain ⟨e, rfl, he, hp⟩ := hq
  refine kx_cat (j := 0) (q := (0, 18, 21, 35)) rfl he rfl (by decide) (by decide) kW_l11 kW_c11 (fun i hi z hz => by omega) ?_
  refine kx_rn dL_insert 2 24 [(0, .ref x), (1, .int p0), (2, .int p1), (3, .int p2), (4, .int p3), (5, .int p4), (6, .int p5), (7, .ref a), (8, .ref e)] [.int 1] rfl ?_
  refine kx_ret (ty := .int) (kx_tk_dec rfl dL_insert) rfl rfl ?_
  exact ⟨rfl, hp⟩
set_option maxRecDepth 100000 in
theorem cL_insert_10 {p0 p1 p2 p3 p4 p5 : Int32} {a : Nat} {Pq : kx_H → Prop} (hst : l.stackTraces = false) {fs : List Value} (hx : kx_is G h x (.inr (0, fs))) (hC : kx_c G l mV_insert d mc ms [.ref x, .int p0, .int p1, .int p2, .int p3, .int p4, .int p5] h (fun o h' => ∃ e, o = .threw e ∧ kx_is G h' e (.inr (10, [])) ∧ Pq h')) :
    kx_c G l mL_insert (d + 1) mc ms [.ref x, .int p0, .int p1, .int p2, .int p3, .int p4, .int p5, .ref a] h (fun o h' => o = .returned (some (.int 2)) ∧ Pq h') := by
  refine kx_in (by decide +kernel) (Nat.le_of_ble_eq_true rfl) hst ?_
  refine kx_low (kc' := 0 + mc) (ks' := 0 + ms) (by omega) (by omega) ?_
  refine kx_rn dL_insert 9 13 [(0, .ref x), (1, .int p0), (2, .int p1), (3, .int p2), (4, .int p3), (5, .int p4), (6, .int p5), (7, .ref a)] [.int p5, .int p4, .int p3, .int p2, .int p1, .int p0, .ref x, .int 0, .ref a] rfl ?_
  refine cL_40 (as := [.int p0, .int p1, .int p2, .int p3, .int p4, .int p5]) (st := [.int 0, .ref a]) (mc := mc) (ms := ms) (kc := 0) (ks := 0) rfl (kx_tk_dec rfl dL_insert) hx rfl rfl (Nat.le_of_ble_eq_true rfl) (hC) (fun o h' hq => ?_)
  obtain ⟨e, rfl, he, hp⟩ := hq
  refine kx_cat (j := 1) (q := (0, 18, 25, 15)) rfl he rfl (by decide) (by decide) kW_l10 kW_c10 (fun i hi z hz => by
    have hi2 : i = 0 := by omega
    rcases hi2 with rfl
    · injection hz with hz; rw [← hz]; exact Or.inr ⟨by decide, _, kW_l11, kW_n10_11⟩) ?_
  refine kx_rn dL_insert 2 28 [(0, .ref x), (1, .int p0), (2, .int p1), (3, .int p2), (4, .int p3), (5, .int p4), (6, .int p5), (7, .ref a), (8, .ref e)] [.int 2] rfl ?_
  refine kx_ret (ty := .int) (kx_tk_dec rfl dL_insert) rfl rfl ?_
  exact ⟨rfl, hp⟩
set_option maxRecDepth 100000 in
theorem cL_insert_12 {p0 p1 p2 p3 p4 p5 : Int32} {a : Nat} {Pq : kx_H → Prop} (hst : l.stackTraces = false) {fs : List Value} (hx : kx_is G h x (.inr (0, fs))) (hC : kx_c G l mV_insert d mc ms [.ref x, .int p0, .int p1, .int p2, .int p3, .int p4, .int p5] h (fun o h' => ∃ e, o = .threw e ∧ kx_is G h' e (.inr (12, [])) ∧ Pq h')) :
    kx_c G l mL_insert (d + 1) mc ms [.ref x, .int p0, .int p1, .int p2, .int p3, .int p4, .int p5, .ref a] h (fun o h' => o = .returned (some (.int 3)) ∧ Pq h') := by
  refine kx_in (by decide +kernel) (Nat.le_of_ble_eq_true rfl) hst ?_
  refine kx_low (kc' := 0 + mc) (ks' := 0 + ms) (by omega) (by omega) ?_
  refine kx_rn dL_insert 9 13 [(0, .ref x), (1, .int p0), (2, .int p1), (3, .int p2), (4, .int p3), (5, .int p4), (6, .int p5), (7, .ref a)] [.int p5, .int p4, .int p3, .int p2, .int p1, .int p0, .ref x, .int 0, .ref a] rfl ?_
  refine cL_40 (as := [.int p0, .int p1, .int p2, .int p3, .int p4, .int p5]) (st := [.int 0, .ref a]) (mc := mc) (ms := ms) (kc := 0) (ks := 0) rfl (kx_tk_dec rfl dL_insert) hx rfl rfl (Nat.le_of_ble_eq_true rfl) (hC) (fun o h' hq => ?_)
  obtain ⟨e, rfl, he, hp⟩ := hq
  refine kx_cat (j := 2) (q := (0, 18, 29, 44)) rfl he rfl (by decide) (by decide) kW_l12 kW_c12 (fun i hi z hz => by
    have hi2 : i = 0 ∨ i = 1 := by omega
    rcases hi2 with rfl | rfl
    · injection hz with hz; rw [← hz]; exact Or.inr ⟨by decide, _, kW_l11, kW_n12_11⟩
    · injection hz with hz; rw [← hz]; exact Or.inr ⟨by decide, _, kW_l10, kW_n12_10⟩) ?_
  refine kx_rn dL_insert 2 32 [(0, .ref x), (1, .int p0), (2, .int p1), (3, .int p2), (4, .int p3), (5, .int p4), (6, .int p5), (7, .ref a), (8, .ref e)] [.int 3] rfl ?_
  refine kx_ret (ty := .int) (kx_tk_dec rfl dL_insert) rfl rfl ?_
  exact ⟨rfl, hp⟩
set_option maxRecDepth 100000 in
theorem cL_select_r {p0 p1 : Int32} {a : Nat} {Pq : Int32 → kx_H → Prop} (hP : ∀ v h1, Pq v h1 → ∃ f, kx_is G h1 a (kLa f)) (hst : l.stackTraces = false) {fs : List Value} (hx : kx_is G h x (.inr (0, fs))) (hC : kx_c G l mV_select d mc ms [.ref x, .int p0, .int p1] h (fun o h' => ∃ v : Int32, o = .returned (some (.int v)) ∧ Pq v h')) :
    kx_c G l mL_select (d + 1) mc ms [.ref x, .int p0, .int p1, .ref a] h (fun o h' => ∃ (v : Int32) (h1 : kx_H) (f : Nat → Int64), o = .returned (some (.int 0)) ∧ Pq v h1 ∧ kx_is G h1 a (kLa f) ∧ h' = kx_set h1 a (kLa (va_up f 0 v.toInt64))) := by
  refine kx_in (by decide +kernel) (Nat.le_of_ble_eq_true rfl) hst ?_
  refine kx_low (kc' := 0 + mc) (ks' := 0 + ms) (by omega) (by omega) ?_
  refine kx_rn dL_select 5 5 [(0, .ref x), (1, .int p0), (2, .int p1), (3, .ref a)] [.int p1, .int p0, .ref x, .int 0, .ref a] rfl ?_
  refine cL_46 (as := [.int p0, .int p1]) (st := [.int 0, .ref a]) (mc := mc) (ms := ms) (kc := 0) (ks := 0) rfl (kx_tk_dec rfl dL_select) hx rfl rfl (Nat.le_of_ble_eq_true rfl) (hC) (fun o h' hq => ?_)
  obtain ⟨v, rfl, hp⟩ := hq
  obtain ⟨f, hf⟩ := hP v h' hp
  show kx_w _ _ _ _ _ _ _ _ _ _ _
  refine kx_rn dL_select 1 9 [(0, .ref x), (1, .int p0), (2, .int p1), (3, .ref a)] [.long v.toInt64, .int 0, .ref a] rfl ?_
  refine kx_lstN (kx_tk_dec rfl dL_select) hf ?_
  refine kx_rn dL_select 2 26 [(0, .ref x), (1, .int p0), (2, .int p1), (3, .ref a)] [.int 0] rfl ?_
  refine kx_ret (ty := .int) (kx_tk_dec rfl dL_select) rfl rfl ?_
  exact ⟨v, _, f, rfl, hp, hf, rfl⟩
set_option maxRecDepth 100000 in
theorem cL_select_11 {p0 p1 : Int32} {a : Nat} {Pq : kx_H → Prop} (hst : l.stackTraces = false) {fs : List Value} (hx : kx_is G h x (.inr (0, fs))) (hC : kx_c G l mV_select d mc ms [.ref x, .int p0, .int p1] h (fun o h' => ∃ e, o = .threw e ∧ kx_is G h' e (.inr (11, [])) ∧ Pq h')) :
    kx_c G l mL_select (d + 1) mc ms [.ref x, .int p0, .int p1, .ref a] h (fun o h' => o = .returned (some (.int 1)) ∧ Pq h') := by
  refine kx_in (by decide +kernel) (Nat.le_of_ble_eq_true rfl) hst ?_
  refine kx_low (kc' := 0 + mc) (ks' := 0 + ms) (by omega) (by omega) ?_
  refine kx_rn dL_select 5 5 [(0, .ref x), (1, .int p0), (2, .int p1), (3, .ref a)] [.int p1, .int p0, .ref x, .int 0, .ref a] rfl ?_
  refine cL_46 (as := [.int p0, .int p1]) (st := [.int 0, .ref a]) (mc := mc) (ms := ms) (kc := 0) (ks := 0) rfl (kx_tk_dec rfl dL_select) hx rfl rfl (Nat.le_of_ble_eq_true rfl) (hC) (fun o h' hq => ?_)
  obtain ⟨e, rfl, he, hp⟩ := hq
  refine kx_cat (j := 0) (q := (0, 10, 13, 35)) rfl he rfl (by decide) (by decide) kW_l11 kW_c11 (fun i hi z hz => by omega) ?_
  refine kx_rn dL_select 2 16 [(0, .ref x), (1, .int p0), (2, .int p1), (3, .ref a), (4, .ref e)] [.int 1] rfl ?_
  refine kx_ret (ty := .int) (kx_tk_dec rfl dL_select) rfl rfl ?_
  exact ⟨rfl, hp⟩
set_option maxRecDepth 100000 in
theorem cL_select_10 {p0 p1 : Int32} {a : Nat} {Pq : kx_H → Prop} (hst : l.stackTraces = false) {fs : List Value} (hx : kx_is G h x (.inr (0, fs))) (hC : kx_c G l mV_select d mc ms [.ref x, .int p0, .int p1] h (fun o h' => ∃ e, o = .threw e ∧ kx_is G h' e (.inr (10, [])) ∧ Pq h')) :
    kx_c G l mL_select (d + 1) mc ms [.ref x, .int p0, .int p1, .ref a] h (fun o h' => o = .returned (some (.int 2)) ∧ Pq h') := by
  refine kx_in (by decide +kernel) (Nat.le_of_ble_eq_true rfl) hst ?_
  refine kx_low (kc' := 0 + mc) (ks' := 0 + ms) (by omega) (by omega) ?_
  refine kx_rn dL_select 5 5 [(0, .ref x), (1, .int p0), (2, .int p1), (3, .ref a)] [.int p1, .int p0, .ref x, .int 0, .ref a] rfl ?_
  refine cL_46 (as := [.int p0, .int p1]) (st := [.int 0, .ref a]) (mc := mc) (ms := ms) (kc := 0) (ks := 0) rfl (kx_tk_dec rfl dL_select) hx rfl rfl (Nat.le_of_ble_eq_true rfl) (hC) (fun o h' hq => ?_)
  obtain ⟨e, rfl, he, hp⟩ := hq
  refine kx_cat (j := 1) (q := (0, 10, 17, 15)) rfl he rfl (by decide) (by decide) kW_l10 kW_c10 (fun i hi z hz => by
    have hi2 : i = 0 := by omega
    rcases hi2 with rfl
    · injection hz with hz; rw [← hz]; exact Or.inr ⟨by decide, _, kW_l11, kW_n10_11⟩) ?_
  refine kx_rn dL_select 2 20 [(0, .ref x), (1, .int p0), (2, .int p1), (3, .ref a), (4, .ref e)] [.int 2] rfl ?_
  refine kx_ret (ty := .int) (kx_tk_dec rfl dL_select) rfl rfl ?_
  exact ⟨rfl, hp⟩
set_option maxRecDepth 100000 in
theorem cL_select_13 {p0 p1 : Int32} {a : Nat} {Pq : kx_H → Prop} (hst : l.stackTraces = false) {fs : List Value} (hx : kx_is G h x (.inr (0, fs))) (hC : kx_c G l mV_select d mc ms [.ref x, .int p0, .int p1] h (fun o h' => ∃ e, o = .threw e ∧ kx_is G h' e (.inr (13, [])) ∧ Pq h')) :
    kx_c G l mL_select (d + 1) mc ms [.ref x, .int p0, .int p1, .ref a] h (fun o h' => o = .returned (some (.int 3)) ∧ Pq h') := by
  refine kx_in (by decide +kernel) (Nat.le_of_ble_eq_true rfl) hst ?_
  refine kx_low (kc' := 0 + mc) (ks' := 0 + ms) (by omega) (by omega) ?_
  refine kx_rn dL_select 5 5 [(0, .ref x), (1, .int p0), (2, .int p1), (3, .ref a)] [.int p1, .int p0, .ref x, .int 0, .ref a] rfl ?_
  refine cL_46 (as := [.int p0, .int p1]) (st := [.int 0, .ref a]) (mc := mc) (ms := ms) (kc := 0) (ks := 0) rfl (kx_tk_dec rfl dL_select) hx rfl rfl (Nat.le_of_ble_eq_true rfl) (hC) (fun o h' hq => ?_)
  obtain ⟨e, rfl, he, hp⟩ := hq
  refine kx_cat (j := 2) (q := (0, 10, 21, 50)) rfl he rfl (by decide) (by decide) kW_l13 kW_c13 (fun i hi z hz => by
    have hi2 : i = 0 ∨ i = 1 := by omega
    rcases hi2 with rfl | rfl
    · injection hz with hz; rw [← hz]; exact Or.inr ⟨by decide, _, kW_l11, kW_n13_11⟩
    · injection hz with hz; rw [← hz]; exact Or.inr ⟨by decide, _, kW_l10, kW_n13_10⟩) ?_
  refine kx_rn dL_select 2 24 [(0, .ref x), (1, .int p0), (2, .int p1), (3, .ref a), (4, .ref e)] [.int 3] rfl ?_
  refine kx_ret (ty := .int) (kx_tk_dec rfl dL_select) rfl rfl ?_
  exact ⟨rfl, hp⟩
set_option maxRecDepth 100000 in
theorem cL_update_r {p0 p1 : Int32} {a : Nat} {Pq : Int32 → kx_H → Prop} (hP : ∀ v h1, Pq v h1 → ∃ f, kx_is G h1 a (kLa f)) (hst : l.stackTraces = false) {fs : List Value} (hx : kx_is G h x (.inr (0, fs))) (hC : kx_c G l mV_update d mc ms [.ref x, .int p0, .int p1] h (fun o h' => ∃ v : Int32, o = .returned (some (.int v)) ∧ Pq v h')) :
    kx_c G l mL_update (d + 1) mc ms [.ref x, .int p0, .int p1, .ref a] h (fun o h' => ∃ (v : Int32) (h1 : kx_H) (f : Nat → Int64), o = .returned (some (.int 0)) ∧ Pq v h1 ∧ kx_is G h1 a (kLa f) ∧ h' = kx_set h1 a (kLa (va_up f 0 v.toInt64))) := by
  refine kx_in (by decide +kernel) (Nat.le_of_ble_eq_true rfl) hst ?_
  refine kx_low (kc' := 0 + mc) (ks' := 0 + ms) (by omega) (by omega) ?_
  refine kx_rn dL_update 5 5 [(0, .ref x), (1, .int p0), (2, .int p1), (3, .ref a)] [.int p1, .int p0, .ref x, .int 0, .ref a] rfl ?_
  refine cL_52 (as := [.int p0, .int p1]) (st := [.int 0, .ref a]) (mc := mc) (ms := ms) (kc := 0) (ks := 0) rfl (kx_tk_dec rfl dL_update) hx rfl rfl (Nat.le_of_ble_eq_true rfl) (hC) (fun o h' hq => ?_)
  obtain ⟨v, rfl, hp⟩ := hq
  obtain ⟨f, hf⟩ := hP v h' hp
  show kx_w _ _ _ _ _ _ _ _ _ _ _
  refine kx_rn dL_update 1 9 [(0, .ref x), (1, .int p0), (2, .int p1), (3, .ref a)] [.long v.toInt64, .int 0, .ref a] rfl ?_
  refine kx_lstN (kx_tk_dec rfl dL_update) hf ?_
  refine kx_rn dL_update 2 34 [(0, .ref x), (1, .int p0), (2, .int p1), (3, .ref a)] [.int 0] rfl ?_
  refine kx_ret (ty := .int) (kx_tk_dec rfl dL_update) rfl rfl ?_
  exact ⟨v, _, f, rfl, hp, hf, rfl⟩
set_option maxRecDepth 100000 in
theorem cL_update_11 {p0 p1 : Int32} {a : Nat} {Pq : kx_H → Prop} (hst : l.stackTraces = false) {fs : List Value} (hx : kx_is G h x (.inr (0, fs))) (hC : kx_c G l mV_update d mc ms [.ref x, .int p0, .int p1] h (fun o h' => ∃ e, o = .threw e ∧ kx_is G h' e (.inr (11, [])) ∧ Pq h')) :
    kx_c G l mL_update (d + 1) mc ms [.ref x, .int p0, .int p1, .ref a] h (fun o h' => o = .returned (some (.int 1)) ∧ Pq h') := by
  refine kx_in (by decide +kernel) (Nat.le_of_ble_eq_true rfl) hst ?_
  refine kx_low (kc' := 0 + mc) (ks' := 0 + ms) (by omega) (by omega) ?_
  refine kx_rn dL_update 5 5 [(0, .ref x), (1, .int p0), (2, .int p1), (3, .ref a)] [.int p1, .int p0, .ref x, .int 0, .ref a] rfl ?_
  refine cL_52 (as := [.int p0, .int p1]) (st := [.int 0, .ref a]) (mc := mc) (ms := ms) (kc := 0) (ks := 0) rfl (kx_tk_dec rfl dL_update) hx rfl rfl (Nat.le_of_ble_eq_true rfl) (hC) (fun o h' hq => ?_)
  obtain ⟨e, rfl, he, hp⟩ := hq
  refine kx_cat (j := 0) (q := (0, 10, 13, 35)) rfl he rfl (by decide) (by decide) kW_l11 kW_c11 (fun i hi z hz => by omega) ?_
  refine kx_rn dL_update 2 16 [(0, .ref x), (1, .int p0), (2, .int p1), (3, .ref a), (4, .ref e)] [.int 1] rfl ?_
  refine kx_ret (ty := .int) (kx_tk_dec rfl dL_update) rfl rfl ?_
  exact ⟨rfl, hp⟩
set_option maxRecDepth 100000 in
theorem cL_update_9 {p0 p1 : Int32} {a : Nat} {Pq : kx_H → Prop} (hst : l.stackTraces = false) {fs : List Value} (hx : kx_is G h x (.inr (0, fs))) (hC : kx_c G l mV_update d mc ms [.ref x, .int p0, .int p1] h (fun o h' => ∃ e, o = .threw e ∧ kx_is G h' e (.inr (9, [])) ∧ Pq h')) :
    kx_c G l mL_update (d + 1) mc ms [.ref x, .int p0, .int p1, .ref a] h (fun o h' => o = .returned (some (.int 2)) ∧ Pq h') := by
  refine kx_in (by decide +kernel) (Nat.le_of_ble_eq_true rfl) hst ?_
  refine kx_low (kc' := 0 + mc) (ks' := 0 + ms) (by omega) (by omega) ?_
  refine kx_rn dL_update 5 5 [(0, .ref x), (1, .int p0), (2, .int p1), (3, .ref a)] [.int p1, .int p0, .ref x, .int 0, .ref a] rfl ?_
  refine cL_52 (as := [.int p0, .int p1]) (st := [.int 0, .ref a]) (mc := mc) (ms := ms) (kc := 0) (ks := 0) rfl (kx_tk_dec rfl dL_update) hx rfl rfl (Nat.le_of_ble_eq_true rfl) (hC) (fun o h' hq => ?_)
  obtain ⟨e, rfl, he, hp⟩ := hq
  refine kx_cat (j := 1) (q := (0, 10, 17, 13)) rfl he rfl (by decide) (by decide) kW_l9 kW_c9 (fun i hi z hz => by
    have hi2 : i = 0 := by omega
    rcases hi2 with rfl
    · injection hz with hz; rw [← hz]; exact Or.inr ⟨by decide, _, kW_l11, kW_n9_11⟩) ?_
  refine kx_rn dL_update 2 20 [(0, .ref x), (1, .int p0), (2, .int p1), (3, .ref a), (4, .ref e)] [.int 2] rfl ?_
  refine kx_ret (ty := .int) (kx_tk_dec rfl dL_update) rfl rfl ?_
  exact ⟨rfl, hp⟩
set_option maxRecDepth 100000 in
theorem cL_update_10 {p0 p1 : Int32} {a : Nat} {Pq : kx_H → Prop} (hst : l.stackTraces = false) {fs : List Value} (hx : kx_is G h x (.inr (0, fs))) (hC : kx_c G l mV_update d mc ms [.ref x, .int p0, .int p1] h (fun o h' => ∃ e, o = .threw e ∧ kx_is G h' e (.inr (10, [])) ∧ Pq h')) :
    kx_c G l mL_update (d + 1) mc ms [.ref x, .int p0, .int p1, .ref a] h (fun o h' => o = .returned (some (.int 3)) ∧ Pq h') := by
  refine kx_in (by decide +kernel) (Nat.le_of_ble_eq_true rfl) hst ?_
  refine kx_low (kc' := 0 + mc) (ks' := 0 + ms) (by omega) (by omega) ?_
  refine kx_rn dL_update 5 5 [(0, .ref x), (1, .int p0), (2, .int p1), (3, .ref a)] [.int p1, .int p0, .ref x, .int 0, .ref a] rfl ?_
  refine cL_52 (as := [.int p0, .int p1]) (st := [.int 0, .ref a]) (mc := mc) (ms := ms) (kc := 0) (ks := 0) rfl (kx_tk_dec rfl dL_update) hx rfl rfl (Nat.le_of_ble_eq_true rfl) (hC) (fun o h' hq => ?_)
  obtain ⟨e, rfl, he, hp⟩ := hq
  refine kx_cat (j := 2) (q := (0, 10, 21, 15)) rfl he rfl (by decide) (by decide) kW_l10 kW_c10 (fun i hi z hz => by
    have hi2 : i = 0 ∨ i = 1 := by omega
    rcases hi2 with rfl | rfl
    · injection hz with hz; rw [← hz]; exact Or.inr ⟨by decide, _, kW_l11, kW_n10_11⟩
    · injection hz with hz; rw [← hz]; exact Or.inr ⟨by decide, _, kW_l9, kW_n10_9⟩) ?_
  refine kx_rn dL_update 2 24 [(0, .ref x), (1, .int p0), (2, .int p1), (3, .ref a), (4, .ref e)] [.int 3] rfl ?_
  refine kx_ret (ty := .int) (kx_tk_dec rfl dL_update) rfl rfl ?_
  exact ⟨rfl, hp⟩
set_option maxRecDepth 100000 in
theorem cL_update_13 {p0 p1 : Int32} {a : Nat} {Pq : kx_H → Prop} (hst : l.stackTraces = false) {fs : List Value} (hx : kx_is G h x (.inr (0, fs))) (hC : kx_c G l mV_update d mc ms [.ref x, .int p0, .int p1] h (fun o h' => ∃ e, o = .threw e ∧ kx_is G h' e (.inr (13, [])) ∧ Pq h')) :
    kx_c G l mL_update (d + 1) mc ms [.ref x, .int p0, .int p1, .ref a] h (fun o h' => o = .returned (some (.int 4)) ∧ Pq h') := by
  refine kx_in (by decide +kernel) (Nat.le_of_ble_eq_true rfl) hst ?_
  refine kx_low (kc' := 0 + mc) (ks' := 0 + ms) (by omega) (by omega) ?_
  refine kx_rn dL_update 5 5 [(0, .ref x), (1, .int p0), (2, .int p1), (3, .ref a)] [.int p1, .int p0, .ref x, .int 0, .ref a] rfl ?_
  refine cL_52 (as := [.int p0, .int p1]) (st := [.int 0, .ref a]) (mc := mc) (ms := ms) (kc := 0) (ks := 0) rfl (kx_tk_dec rfl dL_update) hx rfl rfl (Nat.le_of_ble_eq_true rfl) (hC) (fun o h' hq => ?_)
  obtain ⟨e, rfl, he, hp⟩ := hq
  refine kx_cat (j := 3) (q := (0, 10, 25, 50)) rfl he rfl (by decide) (by decide) kW_l13 kW_c13 (fun i hi z hz => by
    have hi2 : i = 0 ∨ i = 1 ∨ i = 2 := by omega
    rcases hi2 with rfl | rfl | rfl
    · injection hz with hz; rw [← hz]; exact Or.inr ⟨by decide, _, kW_l11, kW_n13_11⟩
    · injection hz with hz; rw [← hz]; exact Or.inr ⟨by decide, _, kW_l9, kW_n13_9⟩
    · injection hz with hz; rw [← hz]; exact Or.inr ⟨by decide, _, kW_l10, kW_n13_10⟩) ?_
  refine kx_rn dL_update 2 28 [(0, .ref x), (1, .int p0), (2, .int p1), (3, .ref a), (4, .ref e)] [.int 4] rfl ?_
  refine kx_ret (ty := .int) (kx_tk_dec rfl dL_update) rfl rfl ?_
  exact ⟨rfl, hp⟩
set_option maxRecDepth 100000 in
theorem cL_update_12 {p0 p1 : Int32} {a : Nat} {Pq : kx_H → Prop} (hst : l.stackTraces = false) {fs : List Value} (hx : kx_is G h x (.inr (0, fs))) (hC : kx_c G l mV_update d mc ms [.ref x, .int p0, .int p1] h (fun o h' => ∃ e, o = .threw e ∧ kx_is G h' e (.inr (12, [])) ∧ Pq h')) :
    kx_c G l mL_update (d + 1) mc ms [.ref x, .int p0, .int p1, .ref a] h (fun o h' => o = .returned (some (.int 5)) ∧ Pq h') := by
  refine kx_in (by decide +kernel) (Nat.le_of_ble_eq_true rfl) hst ?_
  refine kx_low (kc' := 0 + mc) (ks' := 0 + ms) (by omega) (by omega) ?_
  refine kx_rn dL_update 5 5 [(0, .ref x), (1, .int p0), (2, .int p1), (3, .ref a)] [.int p1, .int p0, .ref x, .int 0, .ref a] rfl ?_
  refine cL_52 (as := [.int p0, .int p1]) (st := [.int 0, .ref a]) (mc := mc) (ms := ms) (kc := 0) (ks := 0) rfl (kx_tk_dec rfl dL_update) hx rfl rfl (Nat.le_of_ble_eq_true rfl) (hC) (fun o h' hq => ?_)
  obtain ⟨e, rfl, he, hp⟩ := hq
  refine kx_cat (j := 4) (q := (0, 10, 29, 44)) rfl he rfl (by decide) (by decide) kW_l12 kW_c12 (fun i hi z hz => by
    have hi2 : i = 0 ∨ i = 1 ∨ i = 2 ∨ i = 3 := by omega
    rcases hi2 with rfl | rfl | rfl | rfl
    · injection hz with hz; rw [← hz]; exact Or.inr ⟨by decide, _, kW_l11, kW_n12_11⟩
    · injection hz with hz; rw [← hz]; exact Or.inr ⟨by decide, _, kW_l9, kW_n12_9⟩
    · injection hz with hz; rw [← hz]; exact Or.inr ⟨by decide, _, kW_l10, kW_n12_10⟩
    · injection hz with hz; rw [← hz]; exact Or.inr ⟨by decide, _, kW_l13, kW_n12_13⟩) ?_
  refine kx_rn dL_update 2 32 [(0, .ref x), (1, .int p0), (2, .int p1), (3, .ref a), (4, .ref e)] [.int 5] rfl ?_
  refine kx_ret (ty := .int) (kx_tk_dec rfl dL_update) rfl rfl ?_
  exact ⟨rfl, hp⟩
set_option maxRecDepth 100000 in
theorem cL_delete_r {p0 p1 : Int32} {a : Nat} {Pq : Int32 → kx_H → Prop} (hP : ∀ v h1, Pq v h1 → ∃ f, kx_is G h1 a (kLa f)) (hst : l.stackTraces = false) {fs : List Value} (hx : kx_is G h x (.inr (0, fs))) (hC : kx_c G l mV_delete d mc ms [.ref x, .int p0, .int p1] h (fun o h' => ∃ v : Int32, o = .returned (some (.int v)) ∧ Pq v h')) :
    kx_c G l mL_delete (d + 1) mc ms [.ref x, .int p0, .int p1, .ref a] h (fun o h' => ∃ (v : Int32) (h1 : kx_H) (f : Nat → Int64), o = .returned (some (.int 0)) ∧ Pq v h1 ∧ kx_is G h1 a (kLa f) ∧ h' = kx_set h1 a (kLa (va_up f 0 v.toInt64))) := by
  refine kx_in (by decide +kernel) (Nat.le_of_ble_eq_true rfl) hst ?_
  refine kx_low (kc' := 0 + mc) (ks' := 0 + ms) (by omega) (by omega) ?_
  refine kx_rn dL_delete 5 5 [(0, .ref x), (1, .int p0), (2, .int p1), (3, .ref a)] [.int p1, .int p0, .ref x, .int 0, .ref a] rfl ?_
  refine cL_55 (as := [.int p0, .int p1]) (st := [.int 0, .ref a]) (mc := mc) (ms := ms) (kc := 0) (ks := 0) rfl (kx_tk_dec rfl dL_delete) hx rfl rfl (Nat.le_of_ble_eq_true rfl) (hC) (fun o h' hq => ?_)
  obtain ⟨v, rfl, hp⟩ := hq
  obtain ⟨f, hf⟩ := hP v h' hp
  show kx_w _ _ _ _ _ _ _ _ _ _ _
  refine kx_rn dL_delete 1 9 [(0, .ref x), (1, .int p0), (2, .int p1), (3, .ref a)] [.long v.toInt64, .int 0, .ref a] rfl ?_
  refine kx_lstN (kx_tk_dec rfl dL_delete) hf ?_
  refine kx_rn dL_delete 2 30 [(0, .ref x), (1, .int p0), (2, .int p1), (3, .ref a)] [.int 0] rfl ?_
  refine kx_ret (ty := .int) (kx_tk_dec rfl dL_delete) rfl rfl ?_
  exact ⟨v, _, f, rfl, hp, hf, rfl⟩
set_option maxRecDepth 100000 in
theorem cL_delete_11 {p0 p1 : Int32} {a : Nat} {Pq : kx_H → Prop} (hst : l.stackTraces = false) {fs : List Value} (hx : kx_is G h x (.inr (0, fs))) (hC : kx_c G l mV_delete d mc ms [.ref x, .int p0, .int p1] h (fun o h' => ∃ e, o = .threw e ∧ kx_is G h' e (.inr (11, [])) ∧ Pq h')) :
    kx_c G l mL_delete (d + 1) mc ms [.ref x, .int p0, .int p1, .ref a] h (fun o h' => o = .returned (some (.int 1)) ∧ Pq h') := by
  refine kx_in (by decide +kernel) (Nat.le_of_ble_eq_true rfl) hst ?_
  refine kx_low (kc' := 0 + mc) (ks' := 0 + ms) (by omega) (by omega) ?_
  refine kx_rn dL_delete 5 5 [(0, .ref x), (1, .int p0), (2, .int p1), (3, .ref a)] [.int p1, .int p0, .ref x, .int 0, .ref a] rfl ?_
  refine cL_55 (as := [.int p0, .int p1]) (st := [.int 0, .ref a]) (mc := mc) (ms := ms) (kc := 0) (ks := 0) rfl (kx_tk_dec rfl dL_delete) hx rfl rfl (Nat.le_of_ble_eq_true rfl) (hC) (fun o h' hq => ?_)
  obtain ⟨e, rfl, he, hp⟩ := hq
  refine kx_cat (j := 0) (q := (0, 10, 13, 35)) rfl he rfl (by decide) (by decide) kW_l11 kW_c11 (fun i hi z hz => by omega) ?_
  refine kx_rn dL_delete 2 16 [(0, .ref x), (1, .int p0), (2, .int p1), (3, .ref a), (4, .ref e)] [.int 1] rfl ?_
  refine kx_ret (ty := .int) (kx_tk_dec rfl dL_delete) rfl rfl ?_
  exact ⟨rfl, hp⟩
set_option maxRecDepth 100000 in
theorem cL_delete_10 {p0 p1 : Int32} {a : Nat} {Pq : kx_H → Prop} (hst : l.stackTraces = false) {fs : List Value} (hx : kx_is G h x (.inr (0, fs))) (hC : kx_c G l mV_delete d mc ms [.ref x, .int p0, .int p1] h (fun o h' => ∃ e, o = .threw e ∧ kx_is G h' e (.inr (10, [])) ∧ Pq h')) :
    kx_c G l mL_delete (d + 1) mc ms [.ref x, .int p0, .int p1, .ref a] h (fun o h' => o = .returned (some (.int 2)) ∧ Pq h') := by
  refine kx_in (by decide +kernel) (Nat.le_of_ble_eq_true rfl) hst ?_
  refine kx_low (kc' := 0 + mc) (ks' := 0 + ms) (by omega) (by omega) ?_
  refine kx_rn dL_delete 5 5 [(0, .ref x), (1, .int p0), (2, .int p1), (3, .ref a)] [.int p1, .int p0, .ref x, .int 0, .ref a] rfl ?_
  refine cL_55 (as := [.int p0, .int p1]) (st := [.int 0, .ref a]) (mc := mc) (ms := ms) (kc := 0) (ks := 0) rfl (kx_tk_dec rfl dL_delete) hx rfl rfl (Nat.le_of_ble_eq_true rfl) (hC) (fun o h' hq => ?_)
  obtain ⟨e, rfl, he, hp⟩ := hq
  refine kx_cat (j := 1) (q := (0, 10, 17, 15)) rfl he rfl (by decide) (by decide) kW_l10 kW_c10 (fun i hi z hz => by
    have hi2 : i = 0 := by omega
    rcases hi2 with rfl
    · injection hz with hz; rw [← hz]; exact Or.inr ⟨by decide, _, kW_l11, kW_n10_11⟩) ?_
  refine kx_rn dL_delete 2 20 [(0, .ref x), (1, .int p0), (2, .int p1), (3, .ref a), (4, .ref e)] [.int 2] rfl ?_
  refine kx_ret (ty := .int) (kx_tk_dec rfl dL_delete) rfl rfl ?_
  exact ⟨rfl, hp⟩
set_option maxRecDepth 100000 in
theorem cL_delete_13 {p0 p1 : Int32} {a : Nat} {Pq : kx_H → Prop} (hst : l.stackTraces = false) {fs : List Value} (hx : kx_is G h x (.inr (0, fs))) (hC : kx_c G l mV_delete d mc ms [.ref x, .int p0, .int p1] h (fun o h' => ∃ e, o = .threw e ∧ kx_is G h' e (.inr (13, [])) ∧ Pq h')) :
    kx_c G l mL_delete (d + 1) mc ms [.ref x, .int p0, .int p1, .ref a] h (fun o h' => o = .returned (some (.int 3)) ∧ Pq h') := by
  refine kx_in (by decide +kernel) (Nat.le_of_ble_eq_true rfl) hst ?_
  refine kx_low (kc' := 0 + mc) (ks' := 0 + ms) (by omega) (by omega) ?_
  refine kx_rn dL_delete 5 5 [(0, .ref x), (1, .int p0), (2, .int p1), (3, .ref a)] [.int p1, .int p0, .ref x, .int 0, .ref a] rfl ?_
  refine cL_55 (as := [.int p0, .int p1]) (st := [.int 0, .ref a]) (mc := mc) (ms := ms) (kc := 0) (ks := 0) rfl (kx_tk_dec rfl dL_delete) hx rfl rfl (Nat.le_of_ble_eq_true rfl) (hC) (fun o h' hq => ?_)
  obtain ⟨e, rfl, he, hp⟩ := hq
  refine kx_cat (j := 2) (q := (0, 10, 21, 50)) rfl he rfl (by decide) (by decide) kW_l13 kW_c13 (fun i hi z hz => by
    have hi2 : i = 0 ∨ i = 1 := by omega
    rcases hi2 with rfl | rfl
    · injection hz with hz; rw [← hz]; exact Or.inr ⟨by decide, _, kW_l11, kW_n13_11⟩
    · injection hz with hz; rw [← hz]; exact Or.inr ⟨by decide, _, kW_l10, kW_n13_10⟩) ?_
  refine kx_rn dL_delete 2 24 [(0, .ref x), (1, .int p0), (2, .int p1), (3, .ref a), (4, .ref e)] [.int 3] rfl ?_
  refine kx_ret (ty := .int) (kx_tk_dec rfl dL_delete) rfl rfl ?_
  exact ⟨rfl, hp⟩
set_option maxRecDepth 100000 in
theorem cL_delete_12 {p0 p1 : Int32} {a : Nat} {Pq : kx_H → Prop} (hst : l.stackTraces = false) {fs : List Value} (hx : kx_is G h x (.inr (0, fs))) (hC : kx_c G l mV_delete d mc ms [.ref x, .int p0, .int p1] h (fun o h' => ∃ e, o = .threw e ∧ kx_is G h' e (.inr (12, [])) ∧ Pq h')) :
    kx_c G l mL_delete (d + 1) mc ms [.ref x, .int p0, .int p1, .ref a] h (fun o h' => o = .returned (some (.int 4)) ∧ Pq h') := by
  refine kx_in (by decide +kernel) (Nat.le_of_ble_eq_true rfl) hst ?_
  refine kx_low (kc' := 0 + mc) (ks' := 0 + ms) (by omega) (by omega) ?_
  refine kx_rn dL_delete 5 5 [(0, .ref x), (1, .int p0), (2, .int p1), (3, .ref a)] [.int p1, .int p0, .ref x, .int 0, .ref a] rfl ?_
  refine cL_55 (as := [.int p0, .int p1]) (st := [.int 0, .ref a]) (mc := mc) (ms := ms) (kc := 0) (ks := 0) rfl (kx_tk_dec rfl dL_delete) hx rfl rfl (Nat.le_of_ble_eq_true rfl) (hC) (fun o h' hq => ?_)
  obtain ⟨e, rfl, he, hp⟩ := hq
  refine kx_cat (j := 3) (q := (0, 10, 25, 44)) rfl he rfl (by decide) (by decide) kW_l12 kW_c12 (fun i hi z hz => by
    have hi2 : i = 0 ∨ i = 1 ∨ i = 2 := by omega
    rcases hi2 with rfl | rfl | rfl
    · injection hz with hz; rw [← hz]; exact Or.inr ⟨by decide, _, kW_l11, kW_n12_11⟩
    · injection hz with hz; rw [← hz]; exact Or.inr ⟨by decide, _, kW_l10, kW_n12_10⟩
    · injection hz with hz; rw [← hz]; exact Or.inr ⟨by decide, _, kW_l13, kW_n12_13⟩) ?_
  refine kx_rn dL_delete 2 28 [(0, .ref x), (1, .int p0), (2, .int p1), (3, .ref a), (4, .ref e)] [.int 4] rfl ?_
  refine kx_ret (ty := .int) (kx_tk_dec rfl dL_delete) rfl rfl ?_
  exact ⟨rfl, hp⟩
set_option maxRecDepth 100000 in
theorem cL_result_r {p0 p1 : Int32} {a : Nat} {Pq : Int32 → kx_H → Prop} (hP : ∀ v h1, Pq v h1 → ∃ f, kx_is G h1 a (kLa f)) (hst : l.stackTraces = false) {fs : List Value} (hx : kx_is G h x (.inr (0, fs))) (hC : kx_c G l mV_result d mc ms [.ref x, .int p0, .int p1] h (fun o h' => ∃ v : Int32, o = .returned (some (.int v)) ∧ Pq v h')) :
    kx_c G l mL_result (d + 1) mc ms [.ref x, .int p0, .int p1, .ref a] h (fun o h' => ∃ (v : Int32) (h1 : kx_H) (f : Nat → Int64), o = .returned (some (.int 0)) ∧ Pq v h1 ∧ kx_is G h1 a (kLa f) ∧ h' = kx_set h1 a (kLa (va_up f 0 v.toInt64))) := by
  refine kx_in (by decide +kernel) (Nat.le_of_ble_eq_true rfl) hst ?_
  refine kx_low (kc' := 0 + mc) (ks' := 0 + ms) (by omega) (by omega) ?_
  refine kx_rn dL_result 5 5 [(0, .ref x), (1, .int p0), (2, .int p1), (3, .ref a)] [.int p1, .int p0, .ref x, .int 0, .ref a] rfl ?_
  refine cL_58 (as := [.int p0, .int p1]) (st := [.int 0, .ref a]) (mc := mc) (ms := ms) (kc := 0) (ks := 0) rfl (kx_tk_dec rfl dL_result) hx rfl rfl (Nat.le_of_ble_eq_true rfl) (hC) (fun o h' hq => ?_)
  obtain ⟨v, rfl, hp⟩ := hq
  obtain ⟨f, hf⟩ := hP v h' hp
  show kx_w _ _ _ _ _ _ _ _ _ _ _
  refine kx_rn dL_result 1 9 [(0, .ref x), (1, .int p0), (2, .int p1), (3, .ref a)] [.long v.toInt64, .int 0, .ref a] rfl ?_
  refine kx_lstN (kx_tk_dec rfl dL_result) hf ?_
  refine kx_rn dL_result 2 22 [(0, .ref x), (1, .int p0), (2, .int p1), (3, .ref a)] [.int 0] rfl ?_
  refine kx_ret (ty := .int) (kx_tk_dec rfl dL_result) rfl rfl ?_
  exact ⟨v, _, f, rfl, hp, hf, rfl⟩
set_option maxRecDepth 100000 in
theorem cL_result_11 {p0 p1 : Int32} {a : Nat} {Pq : kx_H → Prop} (hst : l.stackTraces = false) {fs : List Value} (hx : kx_is G h x (.inr (0, fs))) (hC : kx_c G l mV_result d mc ms [.ref x, .int p0, .int p1] h (fun o h' => ∃ e, o = .threw e ∧ kx_is G h' e (.inr (11, [])) ∧ Pq h')) :
    kx_c G l mL_result (d + 1) mc ms [.ref x, .int p0, .int p1, .ref a] h (fun o h' => o = .returned (some (.int 1)) ∧ Pq h') := by
  refine kx_in (by decide +kernel) (Nat.le_of_ble_eq_true rfl) hst ?_
  refine kx_low (kc' := 0 + mc) (ks' := 0 + ms) (by omega) (by omega) ?_
  refine kx_rn dL_result 5 5 [(0, .ref x), (1, .int p0), (2, .int p1), (3, .ref a)] [.int p1, .int p0, .ref x, .int 0, .ref a] rfl ?_
  refine cL_58 (as := [.int p0, .int p1]) (st := [.int 0, .ref a]) (mc := mc) (ms := ms) (kc := 0) (ks := 0) rfl (kx_tk_dec rfl dL_result) hx rfl rfl (Nat.le_of_ble_eq_true rfl) (hC) (fun o h' hq => ?_)
  obtain ⟨e, rfl, he, hp⟩ := hq
  refine kx_cat (j := 0) (q := (0, 10, 13, 35)) rfl he rfl (by decide) (by decide) kW_l11 kW_c11 (fun i hi z hz => by omega) ?_
  refine kx_rn dL_result 2 16 [(0, .ref x), (1, .int p0), (2, .int p1), (3, .ref a), (4, .ref e)] [.int 1] rfl ?_
  refine kx_ret (ty := .int) (kx_tk_dec rfl dL_result) rfl rfl ?_
  exact ⟨rfl, hp⟩
set_option maxRecDepth 100000 in
theorem cL_result_14 {p0 p1 : Int32} {a : Nat} {Pq : kx_H → Prop} (hst : l.stackTraces = false) {fs : List Value} (hx : kx_is G h x (.inr (0, fs))) (hC : kx_c G l mV_result d mc ms [.ref x, .int p0, .int p1] h (fun o h' => ∃ e, o = .threw e ∧ kx_is G h' e (.inr (14, [])) ∧ Pq h')) :
    kx_c G l mL_result (d + 1) mc ms [.ref x, .int p0, .int p1, .ref a] h (fun o h' => o = .returned (some (.int 2)) ∧ Pq h') := by
  refine kx_in (by decide +kernel) (Nat.le_of_ble_eq_true rfl) hst ?_
  refine kx_low (kc' := 0 + mc) (ks' := 0 + ms) (by omega) (by omega) ?_
  refine kx_rn dL_result 5 5 [(0, .ref x), (1, .int p0), (2, .int p1), (3, .ref a)] [.int p1, .int p0, .ref x, .int 0, .ref a] rfl ?_
  refine cL_58 (as := [.int p0, .int p1]) (st := [.int 0, .ref a]) (mc := mc) (ms := ms) (kc := 0) (ks := 0) rfl (kx_tk_dec rfl dL_result) hx rfl rfl (Nat.le_of_ble_eq_true rfl) (hC) (fun o h' hq => ?_)
  obtain ⟨e, rfl, he, hp⟩ := hq
  refine kx_cat (j := 1) (q := (0, 10, 17, 61)) rfl he rfl (by decide) (by decide) kW_l14 kW_c14 (fun i hi z hz => by
    have hi2 : i = 0 := by omega
    rcases hi2 with rfl
    · injection hz with hz; rw [← hz]; exact Or.inr ⟨by decide, _, kW_l11, kW_n14_11⟩) ?_
  refine kx_rn dL_result 2 20 [(0, .ref x), (1, .int p0), (2, .int p1), (3, .ref a), (4, .ref e)] [.int 2] rfl ?_
  refine kx_ret (ty := .int) (kx_tk_dec rfl dL_result) rfl rfl ?_
  exact ⟨rfl, hp⟩
set_option maxRecDepth 100000 in
theorem cL_mean_r {p0 : Int32} {a : Nat} {Pq : UInt64 → kx_H → Prop} (hP : ∀ v h1, Pq v h1 → ∃ f, kx_is G h1 a (kDa f)) (hst : l.stackTraces = false) {fs : List Value} (hx : kx_is G h x (.inr (0, fs))) (hC : kx_c G l mV_mean d mc ms [.ref x, .int p0] h (fun o h' => ∃ v : UInt64, o = .returned (some (.double v)) ∧ Pq v h')) :
    kx_c G l mL_mean (d + 1) mc ms [.ref x, .int p0, .ref a] h (fun o h' => ∃ (v : UInt64) (h1 : kx_H) (f : Nat → UInt64), o = .returned (some (.int 0)) ∧ Pq v h1 ∧ kx_is G h1 a (kDa f) ∧ h' = kx_set h1 a (kDa (va_up f 0 v))) := by
  refine kx_in (by decide +kernel) (Nat.le_of_ble_eq_true rfl) hst ?_
  refine kx_low (kc' := 0 + mc) (ks' := 0 + ms) (by omega) (by omega) ?_
  refine kx_rn dL_mean 4 4 [(0, .ref x), (1, .int p0), (2, .ref a)] [.int p0, .ref x, .int 0, .ref a] rfl ?_
  refine cL_63 (as := [.int p0]) (st := [.int 0, .ref a]) (mc := mc) (ms := ms) (kc := 0) (ks := 0) rfl (kx_tk_dec rfl dL_mean) hx rfl rfl (Nat.le_of_ble_eq_true rfl) (hC) (fun o h' hq => ?_)
  obtain ⟨v, rfl, hp⟩ := hq
  obtain ⟨f, hf⟩ := hP v h' hp
  show kx_w _ _ _ _ _ _ _ _ _ _ _
  refine kx_dstN (kx_tk_dec rfl dL_mean) hf ?_
  refine kx_rn dL_mean 2 18 [(0, .ref x), (1, .int p0), (2, .ref a)] [.int 0] rfl ?_
  refine kx_ret (ty := .int) (kx_tk_dec rfl dL_mean) rfl rfl ?_
  exact ⟨v, _, f, rfl, hp, hf, rfl⟩
set_option maxRecDepth 100000 in
theorem cL_mean_14 {p0 : Int32} {a : Nat} {Pq : kx_H → Prop} (hst : l.stackTraces = false) {fs : List Value} (hx : kx_is G h x (.inr (0, fs))) (hC : kx_c G l mV_mean d mc ms [.ref x, .int p0] h (fun o h' => ∃ e, o = .threw e ∧ kx_is G h' e (.inr (14, [])) ∧ Pq h')) :
    kx_c G l mL_mean (d + 1) mc ms [.ref x, .int p0, .ref a] h (fun o h' => o = .returned (some (.int 1)) ∧ Pq h') := by
  refine kx_in (by decide +kernel) (Nat.le_of_ble_eq_true rfl) hst ?_
  refine kx_low (kc' := 0 + mc) (ks' := 0 + ms) (by omega) (by omega) ?_
  refine kx_rn dL_mean 4 4 [(0, .ref x), (1, .int p0), (2, .ref a)] [.int p0, .ref x, .int 0, .ref a] rfl ?_
  refine cL_63 (as := [.int p0]) (st := [.int 0, .ref a]) (mc := mc) (ms := ms) (kc := 0) (ks := 0) rfl (kx_tk_dec rfl dL_mean) hx rfl rfl (Nat.le_of_ble_eq_true rfl) (hC) (fun o h' hq => ?_)
  obtain ⟨e, rfl, he, hp⟩ := hq
  refine kx_cat (j := 0) (q := (0, 8, 11, 61)) rfl he rfl (by decide) (by decide) kW_l14 kW_c14 (fun i hi z hz => by omega) ?_
  refine kx_rn dL_mean 2 13 [(0, .ref x), (1, .int p0), (2, .ref a), (3, .ref e)] [.int 1] rfl ?_
  refine kx_ret (ty := .int) (kx_tk_dec rfl dL_mean) rfl rfl ?_
  exact ⟨rfl, hp⟩
set_option maxRecDepth 100000 in
theorem cL_mean_13 {p0 : Int32} {a : Nat} {Pq : kx_H → Prop} (hst : l.stackTraces = false) {fs : List Value} (hx : kx_is G h x (.inr (0, fs))) (hC : kx_c G l mV_mean d mc ms [.ref x, .int p0] h (fun o h' => ∃ e, o = .threw e ∧ kx_is G h' e (.inr (13, [])) ∧ Pq h')) :
    kx_c G l mL_mean (d + 1) mc ms [.ref x, .int p0, .ref a] h (fun o h' => o = .returned (some (.int 2)) ∧ Pq h') := by
  refine kx_in (by decide +kernel) (Nat.le_of_ble_eq_true rfl) hst ?_
  refine kx_low (kc' := 0 + mc) (ks' := 0 + ms) (by omega) (by omega) ?_
  refine kx_rn dL_mean 4 4 [(0, .ref x), (1, .int p0), (2, .ref a)] [.int p0, .ref x, .int 0, .ref a] rfl ?_
  refine cL_63 (as := [.int p0]) (st := [.int 0, .ref a]) (mc := mc) (ms := ms) (kc := 0) (ks := 0) rfl (kx_tk_dec rfl dL_mean) hx rfl rfl (Nat.le_of_ble_eq_true rfl) (hC) (fun o h' hq => ?_)
  obtain ⟨e, rfl, he, hp⟩ := hq
  refine kx_cat (j := 1) (q := (0, 8, 14, 50)) rfl he rfl (by decide) (by decide) kW_l13 kW_c13 (fun i hi z hz => by
    have hi2 : i = 0 := by omega
    rcases hi2 with rfl
    · injection hz with hz; rw [← hz]; exact Or.inr ⟨by decide, _, kW_l14, kW_n13_14⟩) ?_
  refine kx_rn dL_mean 2 16 [(0, .ref x), (1, .int p0), (2, .ref a), (3, .ref e)] [.int 2] rfl ?_
  refine kx_ret (ty := .int) (kx_tk_dec rfl dL_mean) rfl rfl ?_
  exact ⟨rfl, hp⟩
set_option maxRecDepth 100000 in
theorem cL_versions_r {p0 p1 : Int32} {a : Nat} {Pq : Int32 → kx_H → Prop} (hP : ∀ v h1, Pq v h1 → ∃ f, kx_is G h1 a (kLa f)) (hst : l.stackTraces = false) {fs : List Value} (hx : kx_is G h x (.inr (0, fs))) (hC : kx_c G l mV_versions d mc ms [.ref x, .int p0, .int p1] h (fun o h' => ∃ v : Int32, o = .returned (some (.int v)) ∧ Pq v h')) :
    kx_c G l mL_versions (d + 1) mc ms [.ref x, .int p0, .int p1, .ref a] h (fun o h' => ∃ (v : Int32) (h1 : kx_H) (f : Nat → Int64), o = .returned (some (.int 0)) ∧ Pq v h1 ∧ kx_is G h1 a (kLa f) ∧ h' = kx_set h1 a (kLa (va_up f 0 v.toInt64))) := by
  refine kx_in (by decide +kernel) (Nat.le_of_ble_eq_true rfl) hst ?_
  refine kx_low (kc' := 0 + mc) (ks' := 0 + ms) (by omega) (by omega) ?_
  refine kx_rn dL_versions 5 5 [(0, .ref x), (1, .int p0), (2, .int p1), (3, .ref a)] [.int p1, .int p0, .ref x, .int 0, .ref a] rfl ?_
  refine cL_67 (as := [.int p0, .int p1]) (st := [.int 0, .ref a]) (mc := mc) (ms := ms) (kc := 0) (ks := 0) rfl (kx_tk_dec rfl dL_versions) hx rfl rfl (Nat.le_of_ble_eq_true rfl) (hC) (fun o h' hq => ?_)
  obtain ⟨v, rfl, hp⟩ := hq
  obtain ⟨f, hf⟩ := hP v h' hp
  show kx_w _ _ _ _ _ _ _ _ _ _ _
  refine kx_rn dL_versions 1 9 [(0, .ref x), (1, .int p0), (2, .int p1), (3, .ref a)] [.long v.toInt64, .int 0, .ref a] rfl ?_
  refine kx_lstN (kx_tk_dec rfl dL_versions) hf ?_
  refine kx_rn dL_versions 2 18 [(0, .ref x), (1, .int p0), (2, .int p1), (3, .ref a)] [.int 0] rfl ?_
  refine kx_ret (ty := .int) (kx_tk_dec rfl dL_versions) rfl rfl ?_
  exact ⟨v, _, f, rfl, hp, hf, rfl⟩
set_option maxRecDepth 100000 in
theorem cL_versions_11 {p0 p1 : Int32} {a : Nat} {Pq : kx_H → Prop} (hst : l.stackTraces = false) {fs : List Value} (hx : kx_is G h x (.inr (0, fs))) (hC : kx_c G l mV_versions d mc ms [.ref x, .int p0, .int p1] h (fun o h' => ∃ e, o = .threw e ∧ kx_is G h' e (.inr (11, [])) ∧ Pq h')) :
    kx_c G l mL_versions (d + 1) mc ms [.ref x, .int p0, .int p1, .ref a] h (fun o h' => o = .returned (some (.int 1)) ∧ Pq h') := by
  refine kx_in (by decide +kernel) (Nat.le_of_ble_eq_true rfl) hst ?_
  refine kx_low (kc' := 0 + mc) (ks' := 0 + ms) (by omega) (by omega) ?_
  refine kx_rn dL_versions 5 5 [(0, .ref x), (1, .int p0), (2, .int p1), (3, .ref a)] [.int p1, .int p0, .ref x, .int 0, .ref a] rfl ?_
  refine cL_67 (as := [.int p0, .int p1]) (st := [.int 0, .ref a]) (mc := mc) (ms := ms) (kc := 0) (ks := 0) rfl (kx_tk_dec rfl dL_versions) hx rfl rfl (Nat.le_of_ble_eq_true rfl) (hC) (fun o h' hq => ?_)
  obtain ⟨e, rfl, he, hp⟩ := hq
  refine kx_cat (j := 0) (q := (0, 10, 13, 35)) rfl he rfl (by decide) (by decide) kW_l11 kW_c11 (fun i hi z hz => by omega) ?_
  refine kx_rn dL_versions 2 16 [(0, .ref x), (1, .int p0), (2, .int p1), (3, .ref a), (4, .ref e)] [.int 1] rfl ?_
  refine kx_ret (ty := .int) (kx_tk_dec rfl dL_versions) rfl rfl ?_
  exact ⟨rfl, hp⟩
end KC50
