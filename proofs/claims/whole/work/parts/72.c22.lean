/-! ===== the other side: conditions, settings ===== -/
section KC23
variable {G : kx_G} {l : Launch} {d : Nat} {h : kx_H} {q p s k tx ln : Nat} {T : Nat → Int32} {col : Int32}
def QPart (G : kx_G) (l : Launch) (h : kx_H) (q p s k tx ln : Nat) (T : Nat → Int32) (col : Int32) (o : Nat) : Prop := ∀ (d u a : Nat) (F : Nat → Int32) (es : List Int32), u + o = 5 → a ≤ ln → es.length ≤ a → prg F es → kx_c G l mQ_readPart (d + 4 + 2 * o) 0 0 [.ref q, .int (nI u)] (qH h q p s k tx ln (nI a) col F es.length) (qRd h q p s k tx ln col T es (dPart T ln o a))
def QAll (G : kx_G) (l : Launch) (h : kx_H) (q p s k tx ln : Nat) (T : Nat → Int32) (col : Int32) (o : Nat) : Prop := ∀ (d u a : Nat) (F : Nat → Int32) (es : List Int32), u + o = 5 → a ≤ ln → es.length ≤ a → prg F es → kx_c G l mQ_readAll (d + 5 + 2 * o) 0 0 [.ref q, .int (nI u)] (qH h q p s k tx ln (nI a) col F es.length) (qRd h q p s k tx ln col T es (sqO isJn (dPart T ln o) T ln 40 a))
set_option maxRecDepth 100000 in
theorem cQ_readAll (hst : l.stackTraces = false) (b : qFx G h q p s tx T) (hln : ln ≤ 40) {o : Nat} (hPart : QPart G l h q p s k tx ln T col o) : QAll G l h q p s k tx ln T col o := by
  intro d u a F es hu ha he hp
  rw [show d + 5 + 2 * o = (d + 4 + 2 * o) + 1 by omega]
  refine kx_in (by decide +kernel) (Nat.le_of_ble_eq_true rfl) hst ?_
  have hN : ∀ (i a1 n1 : Nat) (F1 : Nat → Int32), i ≤ 40 → n1 ≤ 40 → (sqO isJn (dPart T ln o) T ln 40 a).1 = false → (sqO isJn (dPart T ln o) T ln 40 a).2.1 = a1 → kx_w G l mQ_readAll ((d + 4 + 2 * o) + 1) (qRd h q p s k tx ln col T es (sqO isJn (dPart T ln o) T ln 40 a)) 0 0 8 [(0, .ref q), (1, .int (nI u)), (2, .int (b01 false)), (3, .int (nI i))] [] (qH h q p s k tx ln (nI a1) col F1 n1) := by
    intro i a1 n1 F1 hi hn1 hr1 hr2
    refine kx_rn dQ_readAll 2 11 [(0, .ref q), (1, .int (nI u)), (2, .int (b01 false)), (3, .int (nI i))] [.int 40, .int (nI i)] rfl ?_
    refine kx_ic (tgt := 65) (kx_tk_dec rfl dQ_readAll) rfl (fun e11 => ?_) (fun e11 => ?_)
    · skip
      replace e11 : 40 ≤ nI i := e11
      replace e11 : 40 ≤ i := (nI_leI (a := 40) (b := i) (by omega) (by omega)).mp e11
      refine kx_rn dQ_readAll 1 66 [(0, .ref q), (1, .int (nI u)), (2, .int (b01 false)), (3, .int (nI i))] [.int (b01 false)] rfl ?_
      refine kx_ret (ty := .boolean) (kx_tk_dec rfl dQ_readAll) rfl (b01_nr _) ?_
      exact ⟨false, F1, n1, rfl, by rw [hr2], hn1, Or.inl ⟨hr1.symm, fun z => by cases z⟩⟩
    · skip
      replace e11 : ¬ 40 ≤ nI i := e11
      replace e11 : ¬ 40 ≤ i := fun z => e11 ((nI_leI (a := 40) (b := i) (by omega) (by omega)).mpr z)
      refine kx_rn dQ_readAll 1 15 [(0, .ref q), (1, .int (nI u)), (2, .int (b01 false)), (3, .int (nI i))] [.int (b01 false)] rfl ?_
      refine kx_if (tgt := 65) (kx_tk_dec rfl dQ_readAll) rfl (fun e15 => ?_) (fun e15 => ?_)
      · skip
        replace e15 : b01 false = 0 := e15
        replace e15 : false = false := b01_f e15
        refine kx_rn dQ_readAll 1 66 [(0, .ref q), (1, .int (nI u)), (2, .int (b01 false)), (3, .int (nI i))] [.int (b01 false)] rfl ?_
        refine kx_ret (ty := .boolean) (kx_tk_dec rfl dQ_readAll) rfl (b01_nr _) ?_
        exact ⟨false, F1, n1, rfl, by rw [hr2], hn1, Or.inl ⟨hr1.symm, fun z => by cases z⟩⟩
      · skip
        replace e15 : ¬ b01 false = 0 := e15
        replace e15 : false = true := b01_t e15
        cases e15
  have hP : ∀ (i a1 n1 : Nat) (F1 : Nat → Int32), i ≤ 40 → n1 ≤ 40 → (sqO isJn (dPart T ln o) T ln 40 a).1 = false → (sqO isJn (dPart T ln o) T ln 40 a).2.1 = a1 → isDig (kCur T ln a1) = true → kx_w G l mQ_readAll ((d + 4 + 2 * o) + 1) (qRd h q p s k tx ln col T es (sqO isJn (dPart T ln o) T ln 40 a)) 0 0 8 [(0, .ref q), (1, .int (nI u)), (2, .int (b01 true)), (3, .int (nI i))] [] (qH h q p s k tx ln (nI a1) col F1 n1) := by
    intro i a1 n1 F1 hi hn1 hr1 hr2 hdg
    have hlt := dig_in hdg
    refine kx_rn dQ_readAll 2 11 [(0, .ref q), (1, .int (nI u)), (2, .int (b01 true)), (3, .int (nI i))] [.int 40, .int (nI i)] rfl ?_
    refine kx_ic (tgt := 65) (kx_tk_dec rfl dQ_readAll) rfl (fun e11 => ?_) (fun e11 => ?_)
    · skip
      replace e11 : 40 ≤ nI i := e11
      replace e11 : 40 ≤ i := (nI_leI (a := 40) (b := i) (by omega) (by omega)).mp e11
      refine kx_rn dQ_readAll 1 66 [(0, .ref q), (1, .int (nI u)), (2, .int (b01 true)), (3, .int (nI i))] [.int (b01 true)] rfl ?_
      refine kx_ret (ty := .boolean) (kx_tk_dec rfl dQ_readAll) rfl (b01_nr _) ?_
      exact ⟨true, F1, n1, rfl, by rw [hr2], hn1, Or.inr ⟨rfl, hr1, by rw [hr2]; exact hdg⟩⟩
    · skip
      replace e11 : ¬ 40 ≤ nI i := e11
      replace e11 : ¬ 40 ≤ i := fun z => e11 ((nI_leI (a := 40) (b := i) (by omega) (by omega)).mpr z)
      refine kx_rn dQ_readAll 1 15 [(0, .ref q), (1, .int (nI u)), (2, .int (b01 true)), (3, .int (nI i))] [.int (b01 true)] rfl ?_
      refine kx_if (tgt := 65) (kx_tk_dec rfl dQ_readAll) rfl (fun e15 => ?_) (fun e15 => ?_)
      · skip
        replace e15 : b01 true = 0 := e15
        replace e15 : true = false := b01_f e15
        cases e15
      · skip
        replace e15 : ¬ b01 true = 0 := e15
        replace e15 : true = true := b01_t e15
        refine kx_rn dQ_readAll 1 19 [(0, .ref q), (1, .int (nI u)), (2, .int (b01 true)), (3, .int (nI i))] [.ref q] rfl ?_
        refine cQ_36 (as := []) (st := []) (mc := 0) (ms := 0) (kc := 0) (ks := 0) rfl (kx_tk_dec rfl dQ_readAll) (qH_q b) rfl rfl (Nat.le_of_ble_eq_true rfl) (cQ_next hst b hln (by omega)) (fun o h' hq => ?_)
        obtain ⟨rfl, rfl⟩ := hq
        show kx_w _ _ _ _ _ _ _ _ _ _ _
        refine cQ_53 (as := [.int (kCur T ln a1)]) (st := []) (mc := 0) (ms := 0) (kc := 0) (ks := 0) rfl (kx_tk_dec rfl dQ_readAll) rfl rfl (Nat.le_of_ble_eq_true rfl) (cQ_isJoin hst) (fun o h' hq => ?_)
        obtain ⟨rfl, rfl⟩ := hq
        show kx_w _ _ _ _ _ _ _ _ _ _ _
        refine kx_if (tgt := 65) (kx_tk_dec rfl dQ_readAll) rfl (fun e25 => ?_) (fun e25 => ?_)
        · skip
          replace e25 : b01 (isJn (kCur T ln a1)) = 0 := e25
          replace e25 : isJn (kCur T ln a1) = false := b01_f e25
          refine kx_rn dQ_readAll 1 66 [(0, .ref q), (1, .int (nI u)), (2, .int (b01 true)), (3, .int (nI i))] [.int (b01 true)] rfl ?_
          refine kx_ret (ty := .boolean) (kx_tk_dec rfl dQ_readAll) rfl (b01_nr _) ?_
          exact ⟨true, F1, n1, rfl, by rw [hr2], hn1, Or.inr ⟨rfl, hr1, by rw [hr2]; exact hdg⟩⟩
        · skip
          replace e25 : ¬ b01 (isJn (kCur T ln a1)) = 0 := e25
          replace e25 : isJn (kCur T ln a1) = true := b01_t e25
          rw [(dig_not hdg).2.2.1] at e25; cases e25
  have loop : ∀ f (i a1 : Nat) (fs : List Int32) (F1 : Nat → Int32), i + f = 40 → a1 ≤ ln → es.length + fs.length ≤ a1 → prg F1 (es ++ fs) → lpO isJn (dPart T ln o) T ln f a1 fs = sqO isJn (dPart T ln o) T ln 40 a → kx_w G l mQ_readAll ((d + 4 + 2 * o) + 1) (qRd h q p s k tx ln col T es (sqO isJn (dPart T ln o) T ln 40 a)) 0 0 8 [(0, .ref q), (1, .int (nI u)), (2, .int (b01 true)), (3, .int (nI i))] [] (qH h q p s k tx ln (nI a1) col F1 ((es ++ fs).length)) := by
    intro f
    induction f with
    | zero =>
      intro i a1 fs F1 hi ha1 hfs hpr hres
      have hlen : (es ++ fs).length = es.length + fs.length := List.length_append
      refine kx_rn dQ_readAll 2 11 [(0, .ref q), (1, .int (nI u)), (2, .int (b01 true)), (3, .int (nI i))] [.int 40, .int (nI i)] rfl ?_
      refine kx_ic (tgt := 65) (kx_tk_dec rfl dQ_readAll) rfl (fun e11 => ?_) (fun e11 => ?_)
      · skip
        replace e11 : 40 ≤ nI i := e11
        replace e11 : 40 ≤ i := (nI_leI (a := 40) (b := i) (by omega) (by omega)).mp e11
        refine kx_rn dQ_readAll 1 66 [(0, .ref q), (1, .int (nI u)), (2, .int (b01 true)), (3, .int (nI i))] [.int (b01 true)] rfl ?_
        refine kx_ret (ty := .boolean) (kx_tk_dec rfl dQ_readAll) rfl (b01_nr _) ?_
        have hr : sqO isJn (dPart T ln o) T ln 40 a = (true, a1, fs) := by rw [← hres]; rfl
        rw [hr]
        exact ⟨true, F1, _, rfl, rfl, by omega, Or.inl ⟨rfl, fun _ => ⟨rfl, hpr⟩⟩⟩
      · skip
        replace e11 : ¬ 40 ≤ nI i := e11
        replace e11 : ¬ 40 ≤ i := fun z => e11 ((nI_leI (a := 40) (b := i) (by omega) (by omega)).mpr z)
        exfalso; omega
    | succ f ih =>
      intro i a1 fs F1 hi ha1 hfs hpr hres
      have hlen : (es ++ fs).length = es.length + fs.length := List.length_append
      refine kx_rn dQ_readAll 2 11 [(0, .ref q), (1, .int (nI u)), (2, .int (b01 true)), (3, .int (nI i))] [.int 40, .int (nI i)] rfl ?_
      refine kx_ic (tgt := 65) (kx_tk_dec rfl dQ_readAll) rfl (fun e11 => ?_) (fun e11 => ?_)
      · skip
        replace e11 : 40 ≤ nI i := e11
        replace e11 : 40 ≤ i := (nI_leI (a := 40) (b := i) (by omega) (by omega)).mp e11
        exfalso; omega
      · skip
        replace e11 : ¬ 40 ≤ nI i := e11
        replace e11 : ¬ 40 ≤ i := fun z => e11 ((nI_leI (a := 40) (b := i) (by omega) (by omega)).mpr z)
        refine kx_rn dQ_readAll 1 15 [(0, .ref q), (1, .int (nI u)), (2, .int (b01 true)), (3, .int (nI i))] [.int (b01 true)] rfl ?_
        refine kx_if (tgt := 65) (kx_tk_dec rfl dQ_readAll) rfl (fun e15 => ?_) (fun e15 => ?_)
        · skip
          replace e15 : b01 true = 0 := e15
          replace e15 : true = false := b01_f e15
          cases e15
        · skip
          replace e15 : ¬ b01 true = 0 := e15
          replace e15 : true = true := b01_t e15
          refine kx_rn dQ_readAll 1 19 [(0, .ref q), (1, .int (nI u)), (2, .int (b01 true)), (3, .int (nI i))] [.ref q] rfl ?_
          refine cQ_36 (as := []) (st := []) (mc := 0) (ms := 0) (kc := 0) (ks := 0) rfl (kx_tk_dec rfl dQ_readAll) (qH_q b) rfl rfl (Nat.le_of_ble_eq_true rfl) (cQ_next hst b hln (by omega)) (fun o h' hq => ?_)
          obtain ⟨rfl, rfl⟩ := hq
          show kx_w _ _ _ _ _ _ _ _ _ _ _
          refine cQ_53 (as := [.int (kCur T ln a1)]) (st := []) (mc := 0) (ms := 0) (kc := 0) (ks := 0) rfl (kx_tk_dec rfl dQ_readAll) rfl rfl (Nat.le_of_ble_eq_true rfl) (cQ_isJoin hst) (fun o h' hq => ?_)
          obtain ⟨rfl, rfl⟩ := hq
          show kx_w _ _ _ _ _ _ _ _ _ _ _
          refine kx_if (tgt := 65) (kx_tk_dec rfl dQ_readAll) rfl (fun e25 => ?_) (fun e25 => ?_)
          · skip
            replace e25 : b01 (isJn (kCur T ln a1)) = 0 := e25
            replace e25 : isJn (kCur T ln a1) = false := b01_f e25
            refine kx_rn dQ_readAll 1 66 [(0, .ref q), (1, .int (nI u)), (2, .int (b01 true)), (3, .int (nI i))] [.int (b01 true)] rfl ?_
            refine kx_ret (ty := .boolean) (kx_tk_dec rfl dQ_readAll) rfl (b01_nr _) ?_
            have hr : sqO isJn (dPart T ln o) T ln 40 a = (true, a1, fs) := by rw [← hres]; simp only [lpO]; rw [if_neg (by rw [e25]; decide)]
            rw [hr]
            exact ⟨true, F1, _, rfl, rfl, by omega, Or.inl ⟨rfl, fun _ => ⟨rfl, hpr⟩⟩⟩
          · skip
            replace e25 : ¬ b01 (isJn (kCur T ln a1)) = 0 := e25
            replace e25 : isJn (kCur T ln a1) = true := b01_t e25
            refine kx_rn dQ_readAll 1 29 [(0, .ref q), (1, .int (nI u)), (2, .int (b01 true)), (3, .int (nI i))] [.ref q] rfl ?_
            refine cQ_36 (as := []) (st := []) (mc := 0) (ms := 0) (kc := 0) (ks := 0) rfl (kx_tk_dec rfl dQ_readAll) (qH_q b) rfl rfl (Nat.le_of_ble_eq_true rfl) (cQ_next hst b hln (by omega)) (fun o h' hq => ?_)
            obtain ⟨rfl, rfl⟩ := hq
            show kx_w _ _ _ _ _ _ _ _ _ _ _
            refine kx_rn dQ_readAll 3 36 [(0, .ref q), (1, .int (nI u)), (2, .int (b01 true)), (3, .int (nI i)), (4, .int (kCur T ln a1))] [.ref q, .ref q] rfl ?_
            refine pQ_18 (v := .int (nI a1)) rfl (kx_tk_dec rfl dQ_readAll) (qH_q b) rfl ?_
            refine kx_rn dQ_readAll 2 41 [(0, .ref q), (1, .int (nI u)), (2, .int (b01 true)), (3, .int (nI i)), (4, .int (kCur T ln a1))] [.int ((nI a1) + 1), .ref q] rfl ?_
            rw [show (nI a1) + 1 = nI (a1 + 1) from kn_ad rfl rfl]
            refine qQ_18 rfl (kx_tk_dec rfl dQ_readAll) (qH_q b) rfl rfl (Nat.le_of_ble_eq_true rfl) ?_
            refine kx_heq (qH_sq (at1 := nI (a1 + 1)) (col' := col)) ?_
            refine kx_rn dQ_readAll 2 46 [(0, .ref q), (1, .int (nI u)), (2, .int (b01 true)), (3, .int (nI i)), (4, .int (kCur T ln a1))] [.int (nI u), .ref q] rfl ?_
            have hlt : a1 < ln := Nat.lt_of_not_le fun z => by rw [kCur_out (by omega)] at e25; exact absurd e25 (by decide)
            refine cQ_50 (as := [.int (nI u)]) (st := []) (mc := 0) (ms := 0) (kc := 0) (ks := 0) rfl (kx_tk_dec rfl dQ_readAll) (qH_q b) rfl rfl (Nat.le_of_ble_eq_true rfl) (hPart d u (a1 + 1) F1 (es ++ fs) hu (by omega) (by omega) hpr) (fun o h' hq => ?_)
            obtain ⟨b2, F2, n2, rfl, rfl, hn2, hcs⟩ := hq
            show kx_w _ _ _ _ _ _ _ _ _ _ _
            obtain ⟨g1, g2, g3⟩ := dPart_gd T ln o (a1 + 1) (by omega)
            refine kx_rn dQ_readAll 2 51 [(0, .ref q), (1, .int (nI u)), (2, .int (b01 b2)), (3, .int (nI i)), (4, .int (kCur T ln a1))] [.ref q] rfl ?_
            refine pQ_12 (v := .ref p) rfl (kx_tk_dec rfl dQ_readAll) (qH_q b) rfl ?_
            refine kx_rn dQ_readAll 1 56 [(0, .ref q), (1, .int (nI u)), (2, .int (b01 b2)), (3, .int (nI i)), (4, .int (kCur T ln a1))] [.int (kCur T ln a1), .ref p] rfl ?_
            refine cQ_56 (as := [.int (kCur T ln a1)]) (st := []) (mc := 0) (ms := 0) (kc := 0) (ks := 0) rfl (kx_tk_dec rfl dQ_readAll) (qH_p b) rfl rfl (Nat.le_of_ble_eq_true rfl) (cQ_add (x := kCur T ln a1) hst b (by omega)) (fun o h' hq => ?_)
            obtain ⟨rfl, F6, n6, rfl, hn6, ha6⟩ := hq
            show kx_w _ _ _ _ _ _ _ _ _ _ _
            refine kx_rn dQ_readAll 2 8 [(0, .ref q), (1, .int (nI u)), (2, .int (b01 b2)), (3, .int ((nI i) + 1)), (4, .int (kCur T ln a1))] [] rfl ?_
            rw [show (nI i) + 1 = nI (i + 1) from kn_ad rfl rfl]
            refine kx_lsub (lv' := [(0, .ref q), (1, .int (nI u)), (2, .int (b01 b2)), (3, .int (nI (i + 1)))]) (.cons₂ _ (.cons₂ _ (.cons₂ _ (.cons₂ _ (.cons _ .slnil))))) ?_
            have hl2 : lpO isJn (dPart T ln o) T ln (f + 1) a1 fs = if (dPart T ln o (a1 + 1)).1 = true then lpO isJn (dPart T ln o) T ln f (dPart T ln o (a1 + 1)).2.1 (fs ++ (dPart T ln o (a1 + 1)).2.2 ++ [-100 - kCur T ln a1]) else (false, (dPart T ln o (a1 + 1)).2.1, []) := by
              simp only [lpO]; rw [if_pos e25]
            rcases hcs with ⟨hb2, hgood⟩ | ⟨hb2, hr1, hdg⟩
            · by_cases hb3 : b2 = true
              · obtain ⟨hn3, hp3⟩ := hgood hb3
                have hr1 : (dPart T ln o (a1 + 1)).1 = true := by rw [← hb2]; exact hb3
                obtain ⟨g4, g5⟩ := g3 hr1
                rw [List.length_append] at hn3
                obtain ⟨rfl, rfl⟩ := ha6 (by omega)
                rw [if_pos hr1] at hl2
                rw [hb3]
                have hlast : es ++ fs ++ (dPart T ln o (a1 + 1)).2.2 ++ [-100 - kCur T ln a1] = es ++ (fs ++ (dPart T ln o (a1 + 1)).2.2 ++ [-100 - kCur T ln a1]) := by simp only [List.append_assoc]
                have hpx : prg (va_up F2 n2 (kCur T ln a1)) (es ++ (fs ++ (dPart T ln o (a1 + 1)).2.2 ++ [-100 - kCur T ln a1])) := by
                  rw [← hlast]; exact prg_add hp3 (by rw [hn3]; simp only [List.length_append]) (cv_ch (Or.inr (Or.inr e25)))
                have hln : n2 + 1 = (es ++ (fs ++ (dPart T ln o (a1 + 1)).2.2 ++ [-100 - kCur T ln a1])).length := by
                  rw [← hlast]; simp only [List.length_append, List.length_cons, List.length_nil] at hn3 ⊢; omega
                rw [hln]
                exact ih (i + 1) _ (fs ++ (dPart T ln o (a1 + 1)).2.2 ++ [-100 - kCur T ln a1]) _ (by omega) g2 (by simp only [List.length_append, List.length_cons, List.length_nil]; omega) hpx (by rw [← hres, hl2])
              · rw [kB_f hb3]
                have hr1 : (dPart T ln o (a1 + 1)).1 = false := by rw [← hb2]; exact kB_f hb3
                rw [if_neg (by rw [hr1]; decide)] at hl2
                exact hN (i + 1) _ _ _ (by omega) hn6 (by rw [← hres, hl2]) (by rw [← hres, hl2])
            · rw [hb2]
              rw [if_neg (by rw [hr1]; decide)] at hl2
              exact hP (i + 1) _ _ _ (by omega) hn6 (by rw [← hres, hl2]) (by rw [← hres, hl2]) hdg
  refine kx_rn dQ_readAll 2 2 [(0, .ref q), (1, .int (nI u))] [.int (nI u), .ref q] rfl ?_
  refine cQ_50 (as := [.int (nI u)]) (st := []) (mc := 0) (ms := 0) (kc := 0) (ks := 0) rfl (kx_tk_dec rfl dQ_readAll) (qH_q b) rfl rfl (Nat.le_of_ble_eq_true rfl) (hPart d u a F es hu ha he hp) (fun o h' hq => ?_)
  obtain ⟨b2, F2, n2, rfl, rfl, hn2, hcs⟩ := hq
  show kx_w _ _ _ _ _ _ _ _ _ _ _
  obtain ⟨g1, g2, g3⟩ := dPart_gd T ln o a ha
  refine kx_rn dQ_readAll 3 8 [(0, .ref q), (1, .int (nI u)), (2, .int (b01 b2)), (3, .int 0)] [] rfl ?_
  rcases hcs with ⟨hb2, hgood⟩ | ⟨hb2, hr1, hdg⟩
  · by_cases hb3 : b2 = true
    · obtain ⟨hn3, hp3⟩ := hgood hb3
      have hr1 : (dPart T ln o a).1 = true := by rw [← hb2]; exact hb3
      obtain ⟨g4, g5⟩ := g3 hr1
      rw [hb3, hn3]
      exact loop 40 0 _ (dPart T ln o a).2.2 F2 rfl g2 (by omega) hp3 (by unfold sqO; rw [if_pos hr1])
    · rw [kB_f hb3]
      have hr1 : (dPart T ln o a).1 = false := by rw [← hb2]; exact kB_f hb3
      exact hN 0 _ _ _ (by omega) hn2 (by unfold sqO; rw [if_neg (by rw [hr1]; decide)]) (by unfold sqO; rw [if_neg (by rw [hr1]; decide)])
  · rw [hb2]
    exact hP 0 _ _ _ (by omega) hn2 (by unfold sqO; rw [if_neg (by rw [hr1]; decide)]) (by unfold sqO; rw [if_neg (by rw [hr1]; decide)]) hdg
set_option maxRecDepth 100000 in
theorem cQ_part0 (hst : l.stackTraces = false) (b : qFx G h q p s tx T) (hln : ln ≤ 40) : QPart G l h q p s k tx ln T col 0 := by
  intro d u a F es hu ha he hp
  refine kx_in (by decide +kernel) (Nat.le_of_ble_eq_true rfl) hst ?_
  show kx_w G l mQ_readPart (d + 3 + 1) _ _ _ _ _ _ _
  refine kx_rn dQ_readPart 1 1 [(0, .ref q), (1, .int (nI u))] [.ref q] rfl ?_
  refine cQ_36 (as := []) (st := []) (mc := 0) (ms := 0) (kc := 0) (ks := 0) rfl (kx_tk_dec rfl dQ_readPart) (qH_q b) rfl rfl (Nat.le_of_ble_eq_true rfl) (cQ_next hst b hln (by omega)) (fun o h' hq => ?_)
  obtain ⟨rfl, rfl⟩ := hq
  show kx_w _ _ _ _ _ _ _ _ _ _ _
  refine kx_rn dQ_readPart 3 8 [(0, .ref q), (1, .int (nI u)), (2, .int (kCur T ln a))] [.int 40, .int (kCur T ln a)] rfl ?_
  refine kx_ic (tgt := 22) (kx_tk_dec rfl dQ_readPart) rfl (fun e8 => ?_) (fun e8 => ?_)
  · skip
    replace e8 : kCur T ln a = 40 := e8
    refine kx_rn dQ_readPart 2 24 [(0, .ref q), (1, .int (nI u)), (2, .int (kCur T ln a))] [.int 5, .int (nI u)] rfl ?_
    refine kx_ic (tgt := 29) (kx_tk_dec rfl dQ_readPart) rfl (fun e24 => ?_) (fun e24 => ?_)
    · skip
      replace e24 : nI u < 5 := e24
      replace e24 : u < 5 := (nI_ltI (a := u) (b := 5) (by omega) (by omega)).mp e24
      exfalso; omega
    · skip
      replace e24 : ¬ nI u < 5 := e24
      replace e24 : ¬ u < 5 := fun z => e24 ((nI_ltI (a := u) (b := 5) (by omega) (by omega)).mpr z)
      refine kx_rn dQ_readPart 1 28 [(0, .ref q), (1, .int (nI u)), (2, .int (kCur T ln a))] [.int 0] rfl ?_
      refine kx_ret (ty := .boolean) (kx_tk_dec rfl dQ_readPart) rfl rfl ?_
      have hr : dPart T ln 0 a = (false, a, []) := by simp only [dPart]; rw [if_pos (Or.inl e8)]
      rw [hr]
      exact ⟨false, F, _, rfl, rfl, by omega, Or.inl ⟨rfl, fun z => by cases z⟩⟩
  · skip
    replace e8 : ¬ kCur T ln a = 40 := e8
    refine kx_rn dQ_readPart 2 14 [(0, .ref q), (1, .int (nI u)), (2, .int (kCur T ln a))] [.int 33, .int (kCur T ln a)] rfl ?_
    refine kx_ic (tgt := 22) (kx_tk_dec rfl dQ_readPart) rfl (fun e14 => ?_) (fun e14 => ?_)
    · skip
      replace e14 : kCur T ln a = 33 := e14
      refine kx_rn dQ_readPart 2 24 [(0, .ref q), (1, .int (nI u)), (2, .int (kCur T ln a))] [.int 5, .int (nI u)] rfl ?_
      refine kx_ic (tgt := 29) (kx_tk_dec rfl dQ_readPart) rfl (fun e24 => ?_) (fun e24 => ?_)
      · skip
        replace e24 : nI u < 5 := e24
        replace e24 : u < 5 := (nI_ltI (a := u) (b := 5) (by omega) (by omega)).mp e24
        exfalso; omega
      · skip
        replace e24 : ¬ nI u < 5 := e24
        replace e24 : ¬ u < 5 := fun z => e24 ((nI_ltI (a := u) (b := 5) (by omega) (by omega)).mpr z)
        refine kx_rn dQ_readPart 1 28 [(0, .ref q), (1, .int (nI u)), (2, .int (kCur T ln a))] [.int 0] rfl ?_
        refine kx_ret (ty := .boolean) (kx_tk_dec rfl dQ_readPart) rfl rfl ?_
        have hr : dPart T ln 0 a = (false, a, []) := by simp only [dPart]; rw [if_pos (Or.inr e14)]
        rw [hr]
        exact ⟨false, F, _, rfl, rfl, by omega, Or.inl ⟨rfl, fun z => by cases z⟩⟩
    · skip
      replace e14 : ¬ kCur T ln a = 33 := e14
      refine kx_rn dQ_readPart 1 18 [(0, .ref q), (1, .int (nI u)), (2, .int (kCur T ln a))] [.ref q] rfl ?_
      refine cQ_60 (as := []) (st := []) (mc := 0) (ms := 0) (kc := 0) (ks := 0) rfl (kx_tk_dec rfl dQ_readPart) (qH_q b) rfl rfl (Nat.le_of_ble_eq_true rfl) (cQ_readComparison (d := d) hst b hln ha he hp) (fun o h' hq => ?_)
      obtain ⟨b2, F2, n2, rfl, rfl, hn2, hcs⟩ := hq
      show kx_w _ _ _ _ _ _ _ _ _ _ _
      refine kx_ret (ty := .boolean) (kx_tk_dec rfl dQ_readPart) rfl (b01_nr _) ?_
      have hr : dPart T ln 0 a = rComp T ln a := by simp only [dPart]; rw [if_neg (fun z => z.elim e8 e14)]
      rw [hr]
      exact ⟨b2, F2, n2, rfl, rfl, hn2, hcs⟩
set_option maxRecDepth 100000 in
theorem cQ_partS (hst : l.stackTraces = false) (b : qFx G h q p s tx T) (hln : ln ≤ 40) {o : Nat} (hPart : QPart G l h q p s k tx ln T col o) (hAll : QAll G l h q p s k tx ln T col o) : QPart G l h q p s k tx ln T col (o + 1) := by
  intro d u a F es hu ha he hp
  rw [show d + 4 + 2 * (o + 1) = (d + 5 + 2 * o) + 1 by omega]
  refine kx_in (by decide +kernel) (Nat.le_of_ble_eq_true rfl) hst ?_
  refine kx_rn dQ_readPart 1 1 [(0, .ref q), (1, .int (nI u))] [.ref q] rfl ?_
  refine cQ_36 (as := []) (st := []) (mc := 0) (ms := 0) (kc := 0) (ks := 0) rfl (kx_tk_dec rfl dQ_readPart) (qH_q b) rfl rfl (Nat.le_of_ble_eq_true rfl) (cQ_next hst b hln (by omega)) (fun o h' hq => ?_)
  obtain ⟨rfl, rfl⟩ := hq
  show kx_w _ _ _ _ _ _ _ _ _ _ _
  refine kx_rn dQ_readPart 3 8 [(0, .ref q), (1, .int (nI u)), (2, .int (kCur T ln a))] [.int 40, .int (kCur T ln a)] rfl ?_
  refine kx_ic (tgt := 22) (kx_tk_dec rfl dQ_readPart) rfl (fun e8 => ?_) (fun e8 => ?_)
  · skip
    replace e8 : kCur T ln a = 40 := e8
    refine kx_rn dQ_readPart 2 24 [(0, .ref q), (1, .int (nI u)), (2, .int (kCur T ln a))] [.int 5, .int (nI u)] rfl ?_
    refine kx_ic (tgt := 29) (kx_tk_dec rfl dQ_readPart) rfl (fun e24 => ?_) (fun e24 => ?_)
    · skip
      replace e24 : nI u < 5 := e24
      replace e24 : u < 5 := (nI_ltI (a := u) (b := 5) (by omega) (by omega)).mp e24
      have hlt : a < ln := Nat.lt_of_not_le fun z => by rw [kCur_out (by omega)] at e8; exact absurd e8 (by decide)
      refine kx_rn dQ_readPart 2 31 [(0, .ref q), (1, .int (nI u)), (2, .int (kCur T ln a))] [.ref q, .ref q] rfl ?_
      refine pQ_18 (v := .int (nI a)) rfl (kx_tk_dec rfl dQ_readPart) (qH_q b) rfl ?_
      refine kx_rn dQ_readPart 2 36 [(0, .ref q), (1, .int (nI u)), (2, .int (kCur T ln a))] [.int ((nI a) + 1), .ref q] rfl ?_
      rw [show (nI a) + 1 = nI (a + 1) from kn_ad rfl rfl]
      refine qQ_18 rfl (kx_tk_dec rfl dQ_readPart) (qH_q b) rfl rfl (Nat.le_of_ble_eq_true rfl) ?_
      refine kx_heq (qH_sq (at1 := nI (a + 1)) (col' := col)) ?_
      refine kx_rn dQ_readPart 2 42 [(0, .ref q), (1, .int (nI u)), (2, .int (kCur T ln a))] [.int 40, .int (kCur T ln a)] rfl ?_
      refine kx_ic (tgt := 70) (kx_tk_dec rfl dQ_readPart) rfl (fun e42 => ?_) (fun e42 => ?_)
      · skip
        replace e42 : ¬ kCur T ln a = 40 := e42
        exact absurd e8 e42
      · skip
        replace e42 : kCur T ln a = 40 := e42
        refine kx_rn dQ_readPart 4 49 [(0, .ref q), (1, .int (nI u)), (2, .int (kCur T ln a))] [.int ((nI u) + 1), .ref q] rfl ?_
        rw [show (nI u) + 1 = nI (u + 1) from kn_ad rfl rfl]
        refine cQ_32 (as := [.int (nI (u + 1))]) (st := []) (mc := 0) (ms := 0) (kc := 0) (ks := 0) rfl (kx_tk_dec rfl dQ_readPart) (qH_q b) rfl rfl (Nat.le_of_ble_eq_true rfl) (hAll d (u + 1) (a + 1) F es (by omega) hlt (by omega) hp) (fun o h' hq => ?_)
        obtain ⟨b2, F2, n2, rfl, rfl, hn2, hcs⟩ := hq
        show kx_w _ _ _ _ _ _ _ _ _ _ _
        obtain ⟨g1, g2, g3⟩ := sqO_gd (tx := T) (show isJn (-1) = false by decide) (dPart_gd T ln o) 40 (a + 1) hlt
        refine kx_if (tgt := 68) (kx_tk_dec rfl dQ_readPart) rfl (fun e52 => ?_) (fun e52 => ?_)
        · skip
          replace e52 : b01 b2 = 0 := e52
          replace e52 : b2 = false := b01_f e52
          refine kx_rn dQ_readPart 1 69 [(0, .ref q), (1, .int (nI u)), (2, .int (kCur T ln a))] [.int 0] rfl ?_
          refine kx_ret (ty := .boolean) (kx_tk_dec rfl dQ_readPart) rfl rfl ?_
          have hr1 : (sqO isJn (dPart T ln o) T ln 40 (a + 1)).1 = false := by
            rcases hcs with ⟨hb2, hgood⟩ | ⟨hb2, hr1, hdg⟩
            · rw [← hb2]; exact e52
            · exact hr1
          have hr : dPart T ln (o + 1) a = (false, (sqO isJn (dPart T ln o) T ln 40 (a + 1)).2.1, []) := by simp only [dPart]; rw [if_pos e8, if_neg (fun z => by rw [hr1] at z; exact absurd z.1 (by decide))]
          rw [hr]
          exact ⟨false, F2, n2, rfl, rfl, hn2, Or.inl ⟨rfl, fun z => by cases z⟩⟩
        · skip
          replace e52 : ¬ b01 b2 = 0 := e52
          replace e52 : b2 = true := b01_t e52
          refine kx_rn dQ_readPart 2 58 [(0, .ref q), (1, .int (nI u)), (2, .int (kCur T ln a))] [.int 41, .ref q] rfl ?_
          have hsp := cQ_skip (k := k) (col := col) (F := F2) (n := n2) (c := 41) (d := d + 4 + 2 * o) (a := (sqO isJn (dPart T ln o) T ln 40 (a + 1)).2.1) hst b hln (by omega)
          rw [show d + 4 + 2 * o + 1 = d + 5 + 2 * o by omega] at hsp
          refine cQ_43 (as := [.int 41]) (st := []) (mc := 0) (ms := 0) (kc := 0) (ks := 0) rfl (kx_tk_dec rfl dQ_readPart) (qH_q b) rfl rfl (Nat.le_of_ble_eq_true rfl) (hsp) (fun o h' hq => ?_)
          obtain ⟨z, rfl, hsk⟩ := hq
          show kx_w _ _ _ _ _ _ _ _ _ _ _
          refine kx_if (tgt := 68) (kx_tk_dec rfl dQ_readPart) rfl (fun e61 => ?_) (fun e61 => ?_)
          · skip
            replace e61 : b01 z = 0 := e61
            replace e61 : z = false := b01_f e61
            refine kx_rn dQ_readPart 1 69 [(0, .ref q), (1, .int (nI u)), (2, .int (kCur T ln a))] [.int 0] rfl ?_
            refine kx_ret (ty := .boolean) (kx_tk_dec rfl dQ_readPart) rfl rfl ?_
            rcases hsk with ⟨z1, -, -⟩ | ⟨z1, z2, rfl⟩
            · rw [z1] at e61; cases e61
            · have hr : dPart T ln (o + 1) a = (false, (sqO isJn (dPart T ln o) T ln 40 (a + 1)).2.1, []) := by simp only [dPart]; rw [if_pos e8, if_neg (fun z => z2 z.2)]
              rw [hr]
              exact ⟨false, F2, n2, rfl, rfl, hn2, Or.inl ⟨rfl, fun z => by cases z⟩⟩
          · skip
            replace e61 : ¬ b01 z = 0 := e61
            replace e61 : z = true := b01_t e61
            refine kx_rn dQ_readPart 2 69 [(0, .ref q), (1, .int (nI u)), (2, .int (kCur T ln a))] [.int 1] rfl ?_
            refine kx_ret (ty := .boolean) (kx_tk_dec rfl dQ_readPart) rfl rfl ?_
            rcases hsk with ⟨z1, z2, rfl⟩ | ⟨z1, z2, -⟩
            · rcases hcs with ⟨hb2, hgood⟩ | ⟨hb2, hr1, hdg⟩
              · have hr : dPart T ln (o + 1) a = (true, (sqO isJn (dPart T ln o) T ln 40 (a + 1)).2.1 + 1, (sqO isJn (dPart T ln o) T ln 40 (a + 1)).2.2) := by simp only [dPart]; rw [if_pos e8, if_pos ⟨by rw [← hb2]; exact e52, z2⟩]
                rw [hr]
                exact ⟨true, F2, n2, rfl, rfl, hn2, Or.inl ⟨rfl, fun _ => hgood e52⟩⟩
              · exact absurd z2 (dig_not hdg).2.2.2
            · rw [z1] at e61; cases e61
    · skip
      replace e24 : ¬ nI u < 5 := e24
      replace e24 : ¬ u < 5 := fun z => e24 ((nI_ltI (a := u) (b := 5) (by omega) (by omega)).mpr z)
      refine kx_rn dQ_readPart 1 28 [(0, .ref q), (1, .int (nI u)), (2, .int (kCur T ln a))] [.int 0] rfl ?_
      refine kx_ret (ty := .boolean) (kx_tk_dec rfl dQ_readPart) rfl rfl ?_
      exfalso; omega
  · skip
    replace e8 : ¬ kCur T ln a = 40 := e8
    refine kx_rn dQ_readPart 2 14 [(0, .ref q), (1, .int (nI u)), (2, .int (kCur T ln a))] [.int 33, .int (kCur T ln a)] rfl ?_
    refine kx_ic (tgt := 22) (kx_tk_dec rfl dQ_readPart) rfl (fun e14 => ?_) (fun e14 => ?_)
    · skip
      replace e14 : kCur T ln a = 33 := e14
      refine kx_rn dQ_readPart 2 24 [(0, .ref q), (1, .int (nI u)), (2, .int (kCur T ln a))] [.int 5, .int (nI u)] rfl ?_
      refine kx_ic (tgt := 29) (kx_tk_dec rfl dQ_readPart) rfl (fun e24 => ?_) (fun e24 => ?_)
      · skip
        replace e24 : nI u < 5 := e24
        replace e24 : u < 5 := (nI_ltI (a := u) (b := 5) (by omega) (by omega)).mp e24
        have hlt : a < ln := Nat.lt_of_not_le fun z => by rw [kCur_out (by omega)] at e14; exact absurd e14 (by decide)
        refine kx_rn dQ_readPart 2 31 [(0, .ref q), (1, .int (nI u)), (2, .int (kCur T ln a))] [.ref q, .ref q] rfl ?_
        refine pQ_18 (v := .int (nI a)) rfl (kx_tk_dec rfl dQ_readPart) (qH_q b) rfl ?_
        refine kx_rn dQ_readPart 2 36 [(0, .ref q), (1, .int (nI u)), (2, .int (kCur T ln a))] [.int ((nI a) + 1), .ref q] rfl ?_
        rw [show (nI a) + 1 = nI (a + 1) from kn_ad rfl rfl]
        refine qQ_18 rfl (kx_tk_dec rfl dQ_readPart) (qH_q b) rfl rfl (Nat.le_of_ble_eq_true rfl) ?_
        refine kx_heq (qH_sq (at1 := nI (a + 1)) (col' := col)) ?_
        refine kx_rn dQ_readPart 2 42 [(0, .ref q), (1, .int (nI u)), (2, .int (kCur T ln a))] [.int 40, .int (kCur T ln a)] rfl ?_
        refine kx_ic (tgt := 70) (kx_tk_dec rfl dQ_readPart) rfl (fun e42 => ?_) (fun e42 => ?_)
        · skip
          replace e42 : ¬ kCur T ln a = 40 := e42
          refine kx_rn dQ_readPart 4 74 [(0, .ref q), (1, .int (nI u)), (2, .int (kCur T ln a))] [.int ((nI u) + 1), .ref q] rfl ?_
          rw [show (nI u) + 1 = nI (u + 1) from kn_ad rfl rfl]
          have hpt := hPart (d + 1) (u + 1) (a + 1) F es (by omega) hlt (by omega) hp
          rw [show d + 1 + 4 + 2 * o = d + 5 + 2 * o by omega] at hpt
          refine cQ_50 (as := [.int (nI (u + 1))]) (st := []) (mc := 0) (ms := 0) (kc := 0) (ks := 0) rfl (kx_tk_dec rfl dQ_readPart) (qH_q b) rfl rfl (Nat.le_of_ble_eq_true rfl) (hpt) (fun o h' hq => ?_)
          obtain ⟨b2, F2, n2, rfl, rfl, hn2, hcs⟩ := hq
          show kx_w _ _ _ _ _ _ _ _ _ _ _
          obtain ⟨g1, g2, g3⟩ := dPart_gd T ln o (a + 1) hlt
          refine kx_rn dQ_readPart 2 79 [(0, .ref q), (1, .int (nI u)), (2, .int (kCur T ln a)), (3, .int (b01 b2))] [.ref q] rfl ?_
          refine pQ_12 (v := .ref p) rfl (kx_tk_dec rfl dQ_readPart) (qH_q b) rfl ?_
          refine kx_rn dQ_readPart 1 84 [(0, .ref q), (1, .int (nI u)), (2, .int (kCur T ln a)), (3, .int (b01 b2))] [.int 33, .ref p] rfl ?_
          refine cQ_56 (as := [.int 33]) (st := []) (mc := 0) (ms := 0) (kc := 0) (ks := 0) rfl (kx_tk_dec rfl dQ_readPart) (qH_p b) rfl rfl (Nat.le_of_ble_eq_true rfl) (cQ_add (x := 33) hst b (by omega)) (fun o h' hq => ?_)
          obtain ⟨rfl, F7, n7, rfl, hn7, ha7⟩ := hq
          show kx_w _ _ _ _ _ _ _ _ _ _ _
          refine kx_rn dQ_readPart 1 88 [(0, .ref q), (1, .int (nI u)), (2, .int (kCur T ln a)), (3, .int (b01 b2))] [.int (b01 b2)] rfl ?_
          refine kx_ret (ty := .boolean) (kx_tk_dec rfl dQ_readPart) rfl (b01_nr _) ?_
          have hr : dPart T ln (o + 1) a = if (dPart T ln o (a + 1)).1 = true then (true, (dPart T ln o (a + 1)).2.1, (dPart T ln o (a + 1)).2.2 ++ [-133]) else (false, (dPart T ln o (a + 1)).2.1, []) := by simp only [dPart]; rw [if_neg e8, if_pos e14]
          rcases hcs with ⟨hb2, hgood⟩ | ⟨hb2, hr1, hdg⟩
          · by_cases hb3 : b2 = true
            · obtain ⟨hn3, hp3⟩ := hgood hb3
              have hr1 : (dPart T ln o (a + 1)).1 = true := by rw [← hb2]; exact hb3
              obtain ⟨g4, g5⟩ := g3 hr1
              rw [List.length_append] at hn3
              obtain ⟨rfl, rfl⟩ := ha7 (by omega)
              rw [hr, if_pos hr1]
              refine ⟨true, _, _, by rw [hb3], rfl, hn7, Or.inl ⟨rfl, fun _ => ⟨?_, ?_⟩⟩⟩
              · simp only [List.length_append, List.length_cons, List.length_nil] at hn3 ⊢; omega
              · show prg _ (es ++ ((dPart T ln o (a + 1)).2.2 ++ [-133]))
                rw [← List.append_assoc]; exact prg_add hp3 (by rw [hn3]; simp only [List.length_append]) rfl
            · have hr1 : (dPart T ln o (a + 1)).1 = false := by rw [← hb2]; exact kB_f hb3
              rw [hr, if_neg (by rw [hr1]; decide)]
              exact ⟨false, _, _, by rw [kB_f hb3], rfl, hn7, Or.inl ⟨rfl, fun z => by cases z⟩⟩
          · rw [hr, if_neg (by rw [hr1]; decide)]
            exact ⟨true, _, _, by rw [hb2], rfl, hn7, Or.inr ⟨rfl, rfl, hdg⟩⟩
        · skip
          replace e42 : kCur T ln a = 40 := e42
          exact absurd e42 e8
      · skip
        replace e24 : ¬ nI u < 5 := e24
        replace e24 : ¬ u < 5 := fun z => e24 ((nI_ltI (a := u) (b := 5) (by omega) (by omega)).mpr z)
        refine kx_rn dQ_readPart 1 28 [(0, .ref q), (1, .int (nI u)), (2, .int (kCur T ln a))] [.int 0] rfl ?_
        refine kx_ret (ty := .boolean) (kx_tk_dec rfl dQ_readPart) rfl rfl ?_
        exfalso; omega
    · skip
      replace e14 : ¬ kCur T ln a = 33 := e14
      refine kx_rn dQ_readPart 1 18 [(0, .ref q), (1, .int (nI u)), (2, .int (kCur T ln a))] [.ref q] rfl ?_
      have hcp := cQ_readComparison (k := k) (col := col) (d := d + 2 + 2 * o) hst b hln ha he hp
      rw [show d + 2 + 2 * o + 3 = d + 5 + 2 * o by omega] at hcp
      refine cQ_60 (as := []) (st := []) (mc := 0) (ms := 0) (kc := 0) (ks := 0) rfl (kx_tk_dec rfl dQ_readPart) (qH_q b) rfl rfl (Nat.le_of_ble_eq_true rfl) (hcp) (fun o h' hq => ?_)
      obtain ⟨b2, F2, n2, rfl, rfl, hn2, hcs⟩ := hq
      show kx_w _ _ _ _ _ _ _ _ _ _ _
      refine kx_ret (ty := .boolean) (kx_tk_dec rfl dQ_readPart) rfl (b01_nr _) ?_
      have hr : dPart T ln (o + 1) a = rComp T ln a := by simp only [dPart]; rw [if_neg e8, if_neg e14]
      rw [hr]
      exact ⟨b2, F2, n2, rfl, rfl, hn2, hcs⟩
theorem cQ_parts (hst : l.stackTraces = false) (b : qFx G h q p s tx T) (hln : ln ≤ 40) : ∀ o, QPart G l h q p s k tx ln T col o
  | 0 => cQ_part0 hst b hln
  | o + 1 => cQ_partS hst b hln (cQ_parts hst b hln o) (cQ_readAll hst b hln (cQ_parts hst b hln o))
set_option maxRecDepth 100000 in
theorem cQ_readCondition {F : Nat → Int32} (hst : l.stackTraces = false) (b : qFx G h q p s tx T) (hln : ln ≤ 40) :
    kx_c G l mQ_readCondition (d + 16) 0 0 [.ref q] (qH h q p s k tx ln (nI 0) col F 0) (fun o h' => ∃ (F' : Nat → Int32) (n' : Nat), o = .returned (some (.int (b01 (pCond T ln).1))) ∧ h' = qH h q p s k tx ln (nI (pCond T ln).2.1) col F' n' ∧ n' ≤ 40 ∧ ((pCond T ln).1 = true → n' = (pCond T ln).2.2.length ∧ prg F' (pCond T ln).2.2)) := by
  refine kx_in (by decide +kernel) (Nat.le_of_ble_eq_true rfl) hst ?_
  have hAll := cQ_readAll (k := k) (col := col) hst b hln (cQ_parts (k := k) (col := col) hst b hln 5)
  refine kx_rn dQ_readCondition 1 1 [(0, .ref q)] [.ref q] rfl ?_
  refine pQ_29 (v := .int (nI ln)) rfl (kx_tk_dec rfl dQ_readCondition) (qH_q b) rfl ?_
  refine kx_if (tgt := 26) (kx_tk_dec rfl dQ_readCondition) rfl (fun e4 => ?_) (fun e4 => ?_)
  · skip
    replace e4 : nI ln = 0 := e4
    replace e4 : ln = 0 := (nI_eq (a := ln) (b := 0) (by omega) (by omega)).mp e4
    refine kx_rn dQ_readCondition 2 31 [(0, .ref q)] [.int 1] rfl ?_
    refine kx_ret (ty := .boolean) (kx_tk_dec rfl dQ_readCondition) rfl rfl ?_
    have hr : pCond T ln = (true, 0, []) := by unfold pCond; rw [if_pos e4]
    rw [hr]
    exact ⟨F, 0, rfl, rfl, by omega, fun _ => ⟨rfl, fun j y hy => by cases hy⟩⟩
  · skip
    replace e4 : ¬ nI ln = 0 := e4
    replace e4 : ¬ ln = 0 := fun z => e4 ((nI_eq (a := ln) (b := 0) (by omega) (by omega)).mpr z)
    refine kx_rn dQ_readCondition 2 9 [(0, .ref q)] [.int 0, .ref q] rfl ?_
    refine cQ_32 (as := [.int 0]) (st := []) (mc := 0) (ms := 0) (kc := 0) (ks := 0) rfl (kx_tk_dec rfl dQ_readCondition) (qH_q b) rfl rfl (Nat.le_of_ble_eq_true rfl) (hAll d 0 0 F [] rfl (Nat.zero_le _) (Nat.le_refl _) (fun j y hy => by cases hy)) (fun o h' hq => ?_)
    obtain ⟨b2, F2, n2, rfl, rfl, hn2, hcs⟩ := hq
    show kx_w _ _ _ _ _ _ _ _ _ _ _
    obtain ⟨g1, g2, g3⟩ := sqO_gd (tx := T) (show isJn (-1) = false by decide) (dPart_gd T ln 5) 40 0 (Nat.zero_le _)
    refine kx_if (tgt := 30) (kx_tk_dec rfl dQ_readCondition) rfl (fun e12 => ?_) (fun e12 => ?_)
    · skip
      replace e12 : b01 b2 = 0 := e12
      replace e12 : b2 = false := b01_f e12
      refine kx_rn dQ_readCondition 1 31 [(0, .ref q)] [.int 0] rfl ?_
      refine kx_ret (ty := .boolean) (kx_tk_dec rfl dQ_readCondition) rfl rfl ?_
      have hr1 : (sqO isJn (dPart T ln 5) T ln 40 0).1 = false := by
        rcases hcs with ⟨hb2, hgood⟩ | ⟨hb2, hr1, hdg⟩
        · rw [← hb2]; exact e12
        · exact hr1
      have hr : pCond T ln = (false, (sqO isJn (dPart T ln 5) T ln 40 0).2.1, []) := by unfold pCond; rw [if_neg e4, if_neg (fun z => by rw [hr1] at z; exact absurd z.1 (by decide))]
      rw [hr]
      exact ⟨F2, n2, rfl, rfl, hn2, fun z => by cases z⟩
    · skip
      replace e12 : ¬ b01 b2 = 0 := e12
      replace e12 : b2 = true := b01_t e12
      refine kx_rn dQ_readCondition 1 16 [(0, .ref q)] [.ref q] rfl ?_
      refine pQ_18 (v := .int (nI ((sqO isJn (dPart T ln 5) T ln 40 0).2.1))) rfl (kx_tk_dec rfl dQ_readCondition) (qH_q b) rfl ?_
      refine kx_rn dQ_readCondition 1 20 [(0, .ref q)] [.ref q, .int (nI ((sqO isJn (dPart T ln 5) T ln 40 0).2.1))] rfl ?_
      refine pQ_29 (v := .int (nI ln)) rfl (kx_tk_dec rfl dQ_readCondition) (qH_q b) rfl ?_
      refine kx_ic (tgt := 30) (kx_tk_dec rfl dQ_readCondition) rfl (fun e23 => ?_) (fun e23 => ?_)
      · skip
        replace e23 : ¬ nI ((sqO isJn (dPart T ln 5) T ln 40 0).2.1) = nI ln := e23
        replace e23 : ¬ (sqO isJn (dPart T ln 5) T ln 40 0).2.1 = ln := fun z => e23 ((nI_eq (a := (sqO isJn (dPart T ln 5) T ln 40 0).2.1) (b := ln) (by omega) (by omega)).mpr z)
        refine kx_rn dQ_readCondition 1 31 [(0, .ref q)] [.int 0] rfl ?_
        refine kx_ret (ty := .boolean) (kx_tk_dec rfl dQ_readCondition) rfl rfl ?_
        have hr : pCond T ln = (false, (sqO isJn (dPart T ln 5) T ln 40 0).2.1, []) := by unfold pCond; rw [if_neg e4, if_neg (fun z => e23 z.2)]
        rw [hr]
        exact ⟨F2, n2, rfl, rfl, hn2, fun z => by cases z⟩
      · skip
        replace e23 : nI ((sqO isJn (dPart T ln 5) T ln 40 0).2.1) = nI ln := e23
        replace e23 : (sqO isJn (dPart T ln 5) T ln 40 0).2.1 = ln := (nI_eq (a := (sqO isJn (dPart T ln 5) T ln 40 0).2.1) (b := ln) (by omega) (by omega)).mp e23
        refine kx_rn dQ_readCondition 2 31 [(0, .ref q)] [.int 1] rfl ?_
        refine kx_ret (ty := .boolean) (kx_tk_dec rfl dQ_readCondition) rfl rfl ?_
        rcases hcs with ⟨hb2, hgood⟩ | ⟨hb2, hr1, hdg⟩
        · have hr : pCond T ln = (true, ln, (sqO isJn (dPart T ln 5) T ln 40 0).2.2) := by unfold pCond; rw [if_neg e4, if_pos ⟨by rw [← hb2]; exact e12, e23⟩]
          rw [hr]
          exact ⟨F2, n2, rfl, by rw [e23], hn2, fun _ => hgood e12⟩
        · have := dig_in hdg; omega
set_option maxRecDepth 100000 in
theorem cQ_readSetting {F : Nat → Int32} (hst : l.stackTraces = false) (b : qFx G h q p s tx T) (hln : ln ≤ 40) :
    kx_c G l mQ_readSetting (d + 3) 0 0 [.ref q] (qH h q p s k tx ln (nI 0) col F 0) (fun o h' => ∃ (F' : Nat → Int32) (n' : Nat) (col' : Int32), o = .returned (some (.int (b01 (pSet T ln).1))) ∧ h' = qH h q p s k tx ln (nI (pSet T ln).2.1) col' F' n' ∧ n' ≤ 40 ∧ ((pSet T ln).1 = true → col' = T 0 - 97 ∧ n' = (pSet T ln).2.2.length ∧ prg F' (pSet T ln).2.2)) := by
  refine kx_in (by decide +kernel) (Nat.le_of_ble_eq_true rfl) hst ?_
  refine kx_rn dQ_readSetting 1 1 [(0, .ref q)] [.ref q] rfl ?_
  refine cQ_36 (as := []) (st := []) (mc := 0) (ms := 0) (kc := 0) (ks := 0) rfl (kx_tk_dec rfl dQ_readSetting) (qH_q b) rfl rfl (Nat.le_of_ble_eq_true rfl) (cQ_next hst b hln (by omega)) (fun o h' hq => ?_)
  obtain ⟨rfl, rfl⟩ := hq
  show kx_w _ _ _ _ _ _ _ _ _ _ _
  refine cQ_40 (as := [.int (kCur T ln 0)]) (st := []) (mc := 0) (ms := 0) (kc := 0) (ks := 0) rfl (kx_tk_dec rfl dQ_readSetting) rfl rfl (Nat.le_of_ble_eq_true rfl) (cP_isColumn hst) (fun o h' hq => ?_)
  obtain ⟨rfl, rfl⟩ := hq
  show kx_w _ _ _ _ _ _ _ _ _ _ _
  refine kx_if (tgt := 12) (kx_tk_dec rfl dQ_readSetting) rfl (fun e7 => ?_) (fun e7 => ?_)
  · skip
    replace e7 : ¬ b01 (isCol (kCur T ln 0)) = 0 := e7
    replace e7 : isCol (kCur T ln 0) = true := b01_t e7
    refine kx_rn dQ_readSetting 2 14 [(0, .ref q)] [.ref q, .ref q] rfl ?_
    refine cQ_36 (as := []) (st := [.ref q]) (mc := 0) (ms := 0) (kc := 0) (ks := 0) rfl (kx_tk_dec rfl dQ_readSetting) (qH_q b) rfl rfl (Nat.le_of_ble_eq_true rfl) (cQ_next hst b hln (by omega)) (fun o h' hq => ?_)
    obtain ⟨rfl, rfl⟩ := hq
    show kx_w _ _ _ _ _ _ _ _ _ _ _
    refine kx_rn dQ_readSetting 2 20 [(0, .ref q)] [.int ((kCur T ln 0) - 97), .ref q] rfl ?_
    refine qQ_22 rfl (kx_tk_dec rfl dQ_readSetting) (qH_q b) rfl rfl (Nat.le_of_ble_eq_true rfl) ?_
    refine kx_heq (qH_sq (at1 := nI 0) (col' := (kCur T ln 0) - 97)) ?_
    refine kx_rn dQ_readSetting 2 25 [(0, .ref q)] [.ref q, .ref q] rfl ?_
    refine pQ_18 (v := .int (nI 0)) rfl (kx_tk_dec rfl dQ_readSetting) (qH_q b) rfl ?_
    refine kx_rn dQ_readSetting 2 30 [(0, .ref q)] [.int ((nI 0) + 1), .ref q] rfl ?_
    rw [show (nI 0) + 1 = nI (0 + 1) from kn_ad rfl rfl]
    refine qQ_18 rfl (kx_tk_dec rfl dQ_readSetting) (qH_q b) rfl rfl (Nat.le_of_ble_eq_true rfl) ?_
    refine kx_heq (qH_sq (at1 := nI (0 + 1)) (col' := (kCur T ln 0) - 97)) ?_
    refine kx_rn dQ_readSetting 2 36 [(0, .ref q)] [.int 61, .ref q] rfl ?_
    refine cQ_43 (as := [.int 61]) (st := []) (mc := 0) (ms := 0) (kc := 0) (ks := 0) rfl (kx_tk_dec rfl dQ_readSetting) (qH_q b) rfl rfl (Nat.le_of_ble_eq_true rfl) (cQ_skip (d := d + 1) (a := 1) (col := (kCur T ln 0) - 97) hst b hln (by omega)) (fun o h' hq => ?_)
    obtain ⟨z, rfl, hsk⟩ := hq
    show kx_w _ _ _ _ _ _ _ _ _ _ _
    refine kx_if (tgt := 64) (kx_tk_dec rfl dQ_readSetting) rfl (fun e39 => ?_) (fun e39 => ?_)
    · skip
      replace e39 : b01 z = 0 := e39
      replace e39 : z = false := b01_f e39
      refine kx_rn dQ_readSetting 1 65 [(0, .ref q)] [.int 0] rfl ?_
      refine kx_ret (ty := .boolean) (kx_tk_dec rfl dQ_readSetting) rfl rfl ?_
      rcases hsk with ⟨z1, -, -⟩ | ⟨z1, z2, rfl⟩
      · rw [z1] at e39; cases e39
      · have hr : pSet T ln = (false, 1, []) := by unfold pSet; rw [if_pos e7, if_neg z2]
        rw [hr]
        exact ⟨F, 0, _, rfl, rfl, by omega, fun z => by cases z⟩
    · skip
      replace e39 : ¬ b01 z = 0 := e39
      replace e39 : z = true := b01_t e39
      have hsk1 : kCur T ln 1 = 61 ∧ h' = qH h q p s k tx ln (nI (1 + 1)) ((kCur T ln 0) - 97) F 0 := by
        rcases hsk with ⟨z1, z2, z3⟩ | ⟨z1, -, -⟩
        · exact ⟨z2, z3⟩
        · rw [z1] at e39; cases e39
      obtain ⟨h61, rfl⟩ := hsk1
      have hlt1 : 1 < ln := Nat.lt_of_not_le fun z => by rw [kCur_out (by omega)] at h61; exact absurd h61 (by decide)
      refine kx_rn dQ_readSetting 1 43 [(0, .ref q)] [.ref q] rfl ?_
      refine cQ_46 (as := []) (st := []) (mc := 0) (ms := 0) (kc := 0) (ks := 0) rfl (kx_tk_dec rfl dQ_readSetting) (qH_q b) rfl rfl (Nat.le_of_ble_eq_true rfl) (cQ_readTerm (d := d) (a := 2) (F := F) (es := []) (col := (kCur T ln 0) - 97) hst b hln hlt1 (Nat.zero_le _) (fun j y hy => by cases hy)) (fun o h' hq => ?_)
      obtain ⟨b2, F2, n2, rfl, rfl, hn2, hcs⟩ := hq
      show kx_w _ _ _ _ _ _ _ _ _ _ _
      obtain ⟨g1, g2, g3⟩ := rTerm_gd T ln 2 hlt1
      refine kx_if (tgt := 64) (kx_tk_dec rfl dQ_readSetting) rfl (fun e46 => ?_) (fun e46 => ?_)
      · skip
        replace e46 : b01 b2 = 0 := e46
        replace e46 : b2 = false := b01_f e46
        refine kx_rn dQ_readSetting 1 65 [(0, .ref q)] [.int 0] rfl ?_
        refine kx_ret (ty := .boolean) (kx_tk_dec rfl dQ_readSetting) rfl rfl ?_
        have hr1 : (rTerm T ln 2).1 = false := by
          rcases hcs with ⟨hb2, hgood⟩ | ⟨hb2, hr1, hdg⟩
          · rw [← hb2]; exact e46
          · exact hr1
        have hr : pSet T ln = (false, (rTerm T ln 2).2.1, []) := by unfold pSet; rw [if_pos e7, if_pos h61, if_neg (fun z => by rw [hr1] at z; exact absurd z.1 (by decide))]
        rw [hr]
        exact ⟨F2, n2, _, rfl, rfl, hn2, fun z => by cases z⟩
      · skip
        replace e46 : ¬ b01 b2 = 0 := e46
        replace e46 : b2 = true := b01_t e46
        refine kx_rn dQ_readSetting 1 50 [(0, .ref q)] [.ref q] rfl ?_
        refine pQ_18 (v := .int (nI ((rTerm T ln 2).2.1))) rfl (kx_tk_dec rfl dQ_readSetting) (qH_q b) rfl ?_
        refine kx_rn dQ_readSetting 1 54 [(0, .ref q)] [.ref q, .int (nI ((rTerm T ln 2).2.1))] rfl ?_
        refine pQ_29 (v := .int (nI ln)) rfl (kx_tk_dec rfl dQ_readSetting) (qH_q b) rfl ?_
        refine kx_ic (tgt := 64) (kx_tk_dec rfl dQ_readSetting) rfl (fun e57 => ?_) (fun e57 => ?_)
        · skip
          replace e57 : ¬ nI ((rTerm T ln 2).2.1) = nI ln := e57
          replace e57 : ¬ (rTerm T ln 2).2.1 = ln := fun z => e57 ((nI_eq (a := (rTerm T ln 2).2.1) (b := ln) (by omega) (by omega)).mpr z)
          refine kx_rn dQ_readSetting 1 65 [(0, .ref q)] [.int 0] rfl ?_
          refine kx_ret (ty := .boolean) (kx_tk_dec rfl dQ_readSetting) rfl rfl ?_
          have hr : pSet T ln = (false, (rTerm T ln 2).2.1, []) := by unfold pSet; rw [if_pos e7, if_pos h61, if_neg (fun z => e57 z.2)]
          rw [hr]
          exact ⟨F2, n2, _, rfl, rfl, hn2, fun z => by cases z⟩
        · skip
          replace e57 : nI ((rTerm T ln 2).2.1) = nI ln := e57
          replace e57 : (rTerm T ln 2).2.1 = ln := (nI_eq (a := (rTerm T ln 2).2.1) (b := ln) (by omega) (by omega)).mp e57
          refine kx_rn dQ_readSetting 2 65 [(0, .ref q)] [.int 1] rfl ?_
          refine kx_ret (ty := .boolean) (kx_tk_dec rfl dQ_readSetting) rfl rfl ?_
          rcases hcs with ⟨hb2, hgood⟩ | ⟨hb2, hr1, hdg⟩
          · have hr : pSet T ln = (true, ln, (rTerm T ln 2).2.2) := by unfold pSet; rw [if_pos e7, if_pos h61, if_pos ⟨by rw [← hb2]; exact e46, e57⟩]
            rw [hr]
            exact ⟨F2, n2, _, rfl, by rw [e57], hn2, fun _ => ⟨by rw [kCur_in (by omega)], hgood e46⟩⟩
          · have := dig_in hdg; omega
  · skip
    replace e7 : b01 (isCol (kCur T ln 0)) = 0 := e7
    replace e7 : isCol (kCur T ln 0) = false := b01_f e7
    refine kx_rn dQ_readSetting 1 11 [(0, .ref q)] [.int 0] rfl ?_
    refine kx_ret (ty := .boolean) (kx_tk_dec rfl dQ_readSetting) rfl rfl ?_
    have hr : pSet T ln = (false, 0, []) := by unfold pSet; rw [if_neg (by rw [e7]; decide)]
    rw [hr]
    exact ⟨F, 0, col, rfl, rfl, by omega, fun z => by cases z⟩
end KC23
