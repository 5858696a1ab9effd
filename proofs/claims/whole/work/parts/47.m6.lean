/-! ===== the reference: vacuum, count ===== -/
section KM6
variable {G : kx_G} {l : Launch} {d : Nat} {h0 : kx_H} {m : Nat} {S : Nat → Int32} {A : Nat → Nat → Int32}
def nsum (f : Nat → Nat) : Nat → Nat
  | 0 => 0
  | n + 1 => nsum f n + f n
theorem nsum_le {f : Nat → Nat} {b : Nat} (h : ∀ i, f i ≤ b) : ∀ n, nsum f n ≤ n * b
  | 0 => by simp [nsum]
  | n + 1 => by
    have h1 := nsum_le h n
    have h2 := h n
    simp only [nsum]
    rw [Nat.succ_mul]
    omega
theorem nsum_congr {f g : Nat → Nat} : ∀ {n : Nat}, (∀ i, i < n → f i = g i) → nsum f n = nsum g n
  | 0, _ => rfl
  | n + 1, h => by
    simp only [nsum]
    rw [nsum_congr (n := n) (fun i hi => h i (by omega)), h n (by omega)]
theorem hw_ge {f : Nat → Bool} : ∀ {n w : Nat}, 1 ≤ w → w ≤ n → f w = true → w ≤ hw f n
  | 0, w, h1, h2, _ => by omega
  | n + 1, w, h1, h2, h3 => by
    simp only [hw]
    by_cases e : f (n + 1) = true
    · rw [if_pos e]; exact h2
    · rw [if_neg e]
      refine hw_ge h1 ?_ h3
      rcases Nat.lt_or_ge w (n + 1) with z | z
      · omega
      · have : w = n + 1 := by omega
        rw [this] at h3
        exact absurd h3 e
theorem cnt_succ (p : Nat → Bool) (n : Nat) : cnt p (n + 1) = cnt p n + (if p n = true then 1 else 0) := rfl
/-- the least open transaction, or bg + 1 -/
def mLeast (A : Nat → Nat → Int32) (bg ls : Nat) : Prop := 1 ≤ ls ∧ ls ≤ bg + 1 ∧ (∀ t, 1 ≤ t → t < ls → ¬ A 6 t = 1) ∧ (ls ≤ bg → A 6 ls = 1)
/-- the newest version of row q that all see -/
def vKp (A6 : Nat → Int32) (V : Nat → Nat) (ls q : Nat) : Nat := hw (fun w => decide (¬ V (40 * q + w - 1) = 0 ∧ A6 w = 2)) (min ls 40)
def vOut (A6 : Nat → Int32) (V : Nat → Nat) (ls q i : Nat) : Bool := decide (i + 1 < vKp A6 V ls q ∧ ¬ V (40 * q + i) = 0 ∧ A6 (i + 1) = 2)
def vVac (A6 : Nat → Int32) (V : Nat → Nat) (ls q i : Nat) : Nat := if vOut A6 V ls q i = true then 0 else V (40 * q + i)
theorem vKp_step {A6 : Nat → Int32} {V : Nat → Nat} {ls q n : Nat} (hn : n < 40) (h : ¬ (¬ V (40 * q + n) = 0 ∧ A6 (n + 1) = 2 ∧ n + 1 ≤ ls)) : decide (n < vKp A6 V ls q) = decide (n + 1 < vKp A6 V ls q) := by
  have key : ¬ vKp A6 V ls q = n + 1 := by
    intro e
    have h1 := hw_at (f := fun w => decide (¬ V (40 * q + w - 1) = 0 ∧ A6 w = 2)) (n := min ls 40) (by unfold vKp at e; omega)
    have h2 := hw_le (fun w => decide (¬ V (40 * q + w - 1) = 0 ∧ A6 w = 2)) (min ls 40)
    unfold vKp at e
    rw [e] at h1 h2
    rw [decide_eq_true_eq, show 40 * q + (n + 1) - 1 = 40 * q + n by omega] at h1
    exact h ⟨h1.1, h1.2, by omega⟩
  rw [decide_eq_decide]
  omega
theorem vKp_yes {A6 : Nat → Int32} {V : Nat → Nat} {ls q n : Nat} (hn : n < 40) (h1 : ¬ V (40 * q + n) = 0) (h2 : A6 (n + 1) = 2) (h3 : n + 1 ≤ ls) : n < vKp A6 V ls q := by
  have := hw_ge (f := fun w => decide (¬ V (40 * q + w - 1) = 0 ∧ A6 w = 2)) (n := min ls 40) (w := n + 1) (by omega) (by omega) (by rw [decide_eq_true_eq, show 40 * q + (n + 1) - 1 = 40 * q + n by omega]; exact ⟨h1, h2⟩)
  unfold vKp
  omega
theorem cM_vacuum (hst : l.stackTraces = false) (hm : mOk G h0 m) {bg : Nat} (hb : S 7 = nI bg) (hbg : bg ≤ 40) {V : Nat → Nat} (hV : ∀ v, A 4 v = nI (V v)) (hV2 : ∀ v, V v < 256) :
    kx_c G l mM_vacuum d 0 0 [.ref m] (mH h0 m S A) (fun o h' => ∃ ls, mLeast A bg ls ∧ o = .returned (some (.int (nI (nsum (fun q => cnt (vOut (A 6) V ls q) 40) 72)))) ∧ ∃ (F : Nat → Int32) (U : Nat → Nat), h' = mH h0 m (va_up S 0 0) (va_up A 4 F) ∧ (∀ v, F v = nI (U v)) ∧ (∀ v, U v < 256) ∧ ∀ q i, q < 72 → i < 40 → U (40 * q + i) = vVac (A 6) V ls q i) := by
  refine kx_in (by decide +kernel) (Nat.le_of_ble_eq_true rfl) hst ?_
  have vac : ∀ ls, mLeast A bg ls → kx_w G l mM_vacuum d (fun o h' => ∃ ls, mLeast A bg ls ∧ o = .returned (some (.int (nI (nsum (fun q => cnt (vOut (A 6) V ls q) 40) 72)))) ∧ ∃ (F : Nat → Int32) (U : Nat → Nat), h' = mH h0 m (va_up S 0 0) (va_up A 4 F) ∧ (∀ v, F v = nI (U v)) ∧ (∀ v, U v < 256) ∧ ∀ q i, q < 72 → i < 40 → U (40 * q + i) = vVac (A 6) V ls q i) 0 0 35 [(0, .ref m), (1, .int (nI ls)), (2, .int 0), (3, .int 0)] [] (mH h0 m (va_up S 0 0) A) := by
    intro ls hls
    have hls2 := hls.2.1
    have outer : ∀ n (q c0 : Nat) (F : Nat → Int32) (U : Nat → Nat), q + n = 72 → c0 = nsum (fun q => cnt (vOut (A 6) V ls q) 40) q → (∀ v, F v = nI (U v)) → (∀ v, U v < 256) → (∀ p i, i < 40 → U (40 * p + i) = if p < q then vVac (A 6) V ls p i else V (40 * p + i)) → kx_w G l mM_vacuum d (fun o h' => ∃ ls, mLeast A bg ls ∧ o = .returned (some (.int (nI (nsum (fun q => cnt (vOut (A 6) V ls q) 40) 72)))) ∧ ∃ (F : Nat → Int32) (U : Nat → Nat), h' = mH h0 m (va_up S 0 0) (va_up A 4 F) ∧ (∀ v, F v = nI (U v)) ∧ (∀ v, U v < 256) ∧ ∀ q i, q < 72 → i < 40 → U (40 * q + i) = vVac (A 6) V ls q i) 0 0 35 [(0, .ref m), (1, .int (nI ls)), (2, .int (nI c0)), (3, .int (nI (40 * q)))] [] (mH h0 m (va_up S 0 0) (va_up A 4 F)) := by
      intro n
      induction n with
      | zero =>
        intro q c0 F U hq hc0 hF hU2 hU
        refine kx_rn dM_vacuum 2 39 [(0, .ref m), (1, .int (nI ls)), (2, .int (nI c0)), (3, .int (nI (40 * q)))] [.int 2880, .int (nI (40 * q))] rfl ?_
        refine kx_ic (tgt := 123) (kx_tk_dec rfl dM_vacuum) rfl (fun e39 => ?_) (fun e39 => ?_)
        · skip
          replace e39 : 2880 ≤ nI (40 * q) := e39
          replace e39 : 2880 ≤ 40 * q := (nI_leI (a := 2880) (b := 40 * q) (by omega) (by omega)).mp e39
          refine kx_rn dM_vacuum 1 124 [(0, .ref m), (1, .int (nI ls)), (2, .int (nI c0)), (3, .int (nI (40 * q)))] [.int (nI c0)] rfl ?_
          refine kx_ret (ty := .int) (kx_tk_dec rfl dM_vacuum) rfl rfl ?_
          exact ⟨ls, hls, by rw [hc0, show q = 72 by omega], F, U, rfl, hF, hU2, fun p i hp hi => by rw [hU p i hi, if_pos (by omega)]⟩
        · skip
          replace e39 : ¬ 2880 ≤ nI (40 * q) := e39
          replace e39 : ¬ 2880 ≤ 40 * q := fun z => e39 ((nI_leI (a := 2880) (b := 40 * q) (by omega) (by omega)).mpr z)
          exfalso; omega
      | succ n ih =>
        intro q c0 F U hq hc0 hF hU2 hU
        have hc0l := nsum_le (f := fun q => cnt (vOut (A 6) V ls q) 40) (b := 40) (fun q => cnt_le _ 40) q
        have inner : ∀ n (c : Nat) (lt : Bool) (F : Nat → Int32) (U : Nat → Nat), n ≤ 40 → c + cnt (vOut (A 6) V ls q) n = c0 + cnt (vOut (A 6) V ls q) 40 → lt = decide (n < vKp (A 6) V ls q) → (∀ v, F v = nI (U v)) → (∀ v, U v < 256) → (∀ p i, i < 40 → U (40 * p + i) = if p < q ∨ (p = q ∧ n ≤ i) then vVac (A 6) V ls p i else V (40 * p + i)) → kx_w G l mM_vacuum d (fun o h' => ∃ ls, mLeast A bg ls ∧ o = .returned (some (.int (nI (nsum (fun q => cnt (vOut (A 6) V ls q) 40) 72)))) ∧ ∃ (F : Nat → Int32) (U : Nat → Nat), h' = mH h0 m (va_up S 0 0) (va_up A 4 F) ∧ (∀ v, F v = nI (U v)) ∧ (∀ v, U v < 256) ∧ ∀ q i, q < 72 → i < 40 → U (40 * q + i) = vVac (A 6) V ls q i) 0 0 49 [(0, .ref m), (1, .int (nI ls)), (2, .int (nI c)), (3, .int (nI (40 * q))), (4, .int (b01 lt)), (5, .int (nI n))] [] (mH h0 m (va_up S 0 0) (va_up A 4 F)) := by
          intro n
          induction n with
          | zero =>
            intro c lt F U hw40 hc hlt hF hU2 hU
            refine kx_rn dM_vacuum 1 51 [(0, .ref m), (1, .int (nI ls)), (2, .int (nI c)), (3, .int (nI (40 * q))), (4, .int (b01 lt)), (5, .int 0)] [.int 0] rfl ?_
            refine kx_if (tgt := 117) (kx_tk_dec rfl dM_vacuum) rfl (fun e51 => ?_) (fun e51 => ?_)
            · skip
              replace e51 : (0 : Int32) ≤ 0 := e51
              refine kx_rn dM_vacuum 2 35 [(0, .ref m), (1, .int (nI ls)), (2, .int (nI c)), (3, .int ((nI (40 * q)) + 40)), (4, .int (b01 lt)), (5, .int 0)] [] rfl ?_
              rw [show (nI (40 * q)) + 40 = nI ((40 * q) + 40) from kn_ad rfl rfl]
              refine kx_lsub (lv' := [(0, .ref m), (1, .int (nI ls)), (2, .int (nI c)), (3, .int (nI ((40 * q) + 40)))]) (.cons₂ _ (.cons₂ _ (.cons₂ _ (.cons₂ _ (.cons _ (.cons _ .slnil)))))) ?_
              refine ih (q + 1) c F U (by omega) (by have hc2 : c = c0 + cnt (vOut (A 6) V ls q) 40 := hc; rw [hc2, hc0]; rfl) hF hU2 (fun p i hi => ?_)
              rw [hU p i hi]
              by_cases z : p < q + 1
              · rw [if_pos (by omega), if_pos z]
              · rw [if_neg (by omega), if_neg z]
            · skip
              replace e51 : ¬ (0 : Int32) ≤ 0 := e51
              exact absurd (by decide) e51
          | succ n ihw =>
            intro c lt F U hw40 hc hlt hF hU2 hU
            have hcl := cnt_le (vOut (A 6) V ls q) 40
            refine kx_rn dM_vacuum 1 51 [(0, .ref m), (1, .int (nI ls)), (2, .int (nI c)), (3, .int (nI (40 * q))), (4, .int (b01 lt)), (5, .int (nI (n + 1)))] [.int (nI (n + 1))] rfl ?_
            refine kx_if (tgt := 117) (kx_tk_dec rfl dM_vacuum) rfl (fun e51 => ?_) (fun e51 => ?_)
            · skip
              replace e51 : nI (n + 1) ≤ 0 := e51
              replace e51 : n + 1 ≤ 0 := (nI_leI (a := n + 1) (b := 0) (by omega) (by omega)).mp e51
              exfalso; omega
            · skip
              replace e51 : ¬ nI (n + 1) ≤ 0 := e51
              replace e51 : ¬ n + 1 ≤ 0 := fun z => e51 ((nI_leI (a := n + 1) (b := 0) (by omega) (by omega)).mpr z)
              refine kx_rn dM_vacuum 1 55 [(0, .ref m), (1, .int (nI ls)), (2, .int (nI c)), (3, .int (nI (40 * q))), (4, .int (b01 lt)), (5, .int (nI (n + 1)))] [.ref m] rfl ?_
              refine pM_19 (v := .ref (m + 4)) rfl (kx_tk_dec rfl dM_vacuum) (mh_o hm) rfl ?_
              refine kx_rn dM_vacuum 5 64 [(0, .ref m), (1, .int (nI ls)), (2, .int (nI c)), (3, .int (nI (40 * q))), (4, .int (b01 lt)), (5, .int (nI (n + 1)))] [.int (((nI (40 * q)) + (nI (n + 1))) - 1), .ref (m + 4)] rfl ?_
              rw [show ((nI (40 * q)) + (nI (n + 1))) - 1 = nI (((40 * q) + (n + 1)) - 1) from kn_su (kn_ad rfl rfl) rfl (by omega)]
              rw [show 40 * q + (n + 1) - 1 = 40 * q + n from by omega]
              refine mh_ld (k := 4) (x := F (40 * q + n)) (i := 40 * q + n) rfl rfl (kx_tk_dec rfl dM_vacuum) hm (by show 40 * q + n < 2880; omega) ?_
              rw [hF (40 * q + n)]
              have := hU2 (40 * q + n)
              refine kx_if (tgt := 111) (kx_tk_dec rfl dM_vacuum) rfl (fun e65 => ?_) (fun e65 => ?_)
              · skip
                replace e65 : nI (U (40 * q + n)) = 0 := e65
                replace e65 : U (40 * q + n) = 0 := (nI_eq (a := U (40 * q + n)) (b := 0) (by omega) (by omega)).mp e65
                refine kx_rn dM_vacuum 2 49 [(0, .ref m), (1, .int (nI ls)), (2, .int (nI c)), (3, .int (nI (40 * q))), (4, .int (b01 lt)), (5, .int ((nI (n + 1)) + (-1)))] [] rfl ?_
                rw [show (nI (n + 1)) + (-1) = nI ((n + 1) - 1) from kn_sa rfl rfl (by omega)]
                have hU0 : U (40 * q + n) = V (40 * q + n) := by rw [hU q n (by omega), if_neg (by omega)]
                have hno : vOut (A 6) V ls q n = false := by unfold vOut; rw [decide_eq_false_iff_not]; exact (by rw [hU0] at e65; exact fun z => z.2.1 e65)
                have hlt2 : lt = decide (n < vKp (A 6) V ls q) := hlt.trans (vKp_step (n := n) (by omega) (by rw [hU0] at e65; exact fun z => z.1 e65)).symm
                refine ihw c lt F U (by omega) (by rw [cnt_succ, if_neg (by rw [hno]; decide)] at hc; omega) hlt2 hF ?_ (fun p i hi => ?_)
                · exact hU2
                · rw [hU p i hi]
                  by_cases z : p = q ∧ i = n
                  · obtain ⟨rfl, rfl⟩ := z
                    rw [if_neg (by omega), if_pos (by omega)]
                    unfold vVac
                    rw [if_neg (by rw [hno]; decide)]
                  · by_cases z2 : p < q ∨ (p = q ∧ n + 1 ≤ i)
                    · rw [if_pos z2, if_pos (by omega)]
                    · rw [if_neg z2, if_neg (by omega)]
              · skip
                replace e65 : ¬ nI (U (40 * q + n)) = 0 := e65
                replace e65 : ¬ U (40 * q + n) = 0 := fun z => e65 ((nI_eq (a := U (40 * q + n)) (b := 0) (by omega) (by omega)).mpr z)
                refine kx_rn dM_vacuum 1 69 [(0, .ref m), (1, .int (nI ls)), (2, .int (nI c)), (3, .int (nI (40 * q))), (4, .int (b01 lt)), (5, .int (nI (n + 1)))] [.ref m] rfl ?_
                refine pM_25 (v := .ref (m + 6)) rfl (kx_tk_dec rfl dM_vacuum) (mh_o hm) rfl ?_
                refine kx_rn dM_vacuum 1 74 [(0, .ref m), (1, .int (nI ls)), (2, .int (nI c)), (3, .int (nI (40 * q))), (4, .int (b01 lt)), (5, .int (nI (n + 1)))] [.int (nI (n + 1)), .ref (m + 6)] rfl ?_
                refine mh_ld (k := 6) (x := A 6 (n + 1)) (i := n + 1) rfl rfl (kx_tk_dec rfl dM_vacuum) hm (by show n + 1 < 41; omega) ?_
                refine kx_rn dM_vacuum 1 76 [(0, .ref m), (1, .int (nI ls)), (2, .int (nI c)), (3, .int (nI (40 * q))), (4, .int (b01 lt)), (5, .int (nI (n + 1)))] [.int 2, .int (A 6 (n + 1))] rfl ?_
                refine kx_ic (tgt := 82) (kx_tk_dec rfl dM_vacuum) rfl (fun e76 => ?_) (fun e76 => ?_)
                · skip
                  replace e76 : A 6 (n + 1) = 2 := e76
                  refine kx_rn dM_vacuum 1 84 [(0, .ref m), (1, .int (nI ls)), (2, .int (nI c)), (3, .int (nI (40 * q))), (4, .int (b01 lt)), (5, .int (nI (n + 1)))] [.int (b01 lt)] rfl ?_
                  refine kx_if (tgt := 102) (kx_tk_dec rfl dM_vacuum) rfl (fun e84 => ?_) (fun e84 => ?_)
                  · skip
                    replace e84 : b01 lt = 0 := e84
                    replace e84 : lt = false := b01_f e84
                    refine kx_rn dM_vacuum 2 105 [(0, .ref m), (1, .int (nI ls)), (2, .int (nI c)), (3, .int (nI (40 * q))), (4, .int (b01 lt)), (5, .int (nI (n + 1)))] [.int (nI ls), .int (nI (n + 1))] rfl ?_
                    refine kx_ic (tgt := 111) (kx_tk_dec rfl dM_vacuum) rfl (fun e105 => ?_) (fun e105 => ?_)
                    · skip
                      replace e105 : nI ls < nI (n + 1) := e105
                      replace e105 : ls < n + 1 := (nI_ltI (a := ls) (b := n + 1) (by omega) (by omega)).mp e105
                      refine kx_rn dM_vacuum 2 49 [(0, .ref m), (1, .int (nI ls)), (2, .int (nI c)), (3, .int (nI (40 * q))), (4, .int (b01 lt)), (5, .int ((nI (n + 1)) + (-1)))] [] rfl ?_
                      rw [show (nI (n + 1)) + (-1) = nI ((n + 1) - 1) from kn_sa rfl rfl (by omega)]
                      have hU0 : U (40 * q + n) = V (40 * q + n) := by rw [hU q n (by omega), if_neg (by omega)]
                      rw [hU0] at e65
                      have hno : vOut (A 6) V ls q n = false := by unfold vOut; rw [decide_eq_false_iff_not]; rw [hlt, decide_eq_false_iff_not] at e84; exact fun z => e84 z.1
                      have hlt2 : lt = decide (n < vKp (A 6) V ls q) := hlt.trans (vKp_step (n := n) (by omega) (fun z => absurd z.2.2 (by omega))).symm
                      refine ihw c lt F U (by omega) (by rw [cnt_succ, if_neg (by rw [hno]; decide)] at hc; omega) hlt2 hF ?_ (fun p i hi => ?_)
                      · exact hU2
                      · rw [hU p i hi]
                        by_cases z : p = q ∧ i = n
                        · obtain ⟨rfl, rfl⟩ := z
                          rw [if_neg (by omega), if_pos (by omega)]
                          unfold vVac
                          rw [if_neg (by rw [hno]; decide)]
                        · by_cases z2 : p < q ∨ (p = q ∧ n + 1 ≤ i)
                          · rw [if_pos z2, if_pos (by omega)]
                          · rw [if_neg z2, if_neg (by omega)]
                    · skip
                      replace e105 : ¬ nI ls < nI (n + 1) := e105
                      replace e105 : ¬ ls < n + 1 := fun z => e105 ((nI_ltI (a := ls) (b := n + 1) (by omega) (by omega)).mpr z)
                      refine kx_rn dM_vacuum 4 49 [(0, .ref m), (1, .int (nI ls)), (2, .int (nI c)), (3, .int (nI (40 * q))), (4, .int 1), (5, .int ((nI (n + 1)) + (-1)))] [] rfl ?_
                      rw [show (nI (n + 1)) + (-1) = nI ((n + 1) - 1) from kn_sa rfl rfl (by omega)]
                      have hU0 : U (40 * q + n) = V (40 * q + n) := by rw [hU q n (by omega), if_neg (by omega)]
                      rw [hU0] at e65
                      have hno : vOut (A 6) V ls q n = false := by unfold vOut; rw [decide_eq_false_iff_not]; rw [hlt, decide_eq_false_iff_not] at e84; exact fun z => e84 z.1
                      have hlt2 : true = decide (n < vKp (A 6) V ls q) := (decide_eq_true (vKp_yes (by omega) e65 e76 (by omega))).symm
                      refine ihw c true F U (by omega) (by rw [cnt_succ, if_neg (by rw [hno]; decide)] at hc; omega) hlt2 hF ?_ (fun p i hi => ?_)
                      · exact hU2
                      · rw [hU p i hi]
                        by_cases z : p = q ∧ i = n
                        · obtain ⟨rfl, rfl⟩ := z
                          rw [if_neg (by omega), if_pos (by omega)]
                          unfold vVac
                          rw [if_neg (by rw [hno]; decide)]
                        · by_cases z2 : p < q ∨ (p = q ∧ n + 1 ≤ i)
                          · rw [if_pos z2, if_pos (by omega)]
                          · rw [if_neg z2, if_neg (by omega)]
                  · skip
                    replace e84 : ¬ b01 lt = 0 := e84
                    replace e84 : lt = true := b01_t e84
                    refine kx_rn dM_vacuum 1 88 [(0, .ref m), (1, .int (nI ls)), (2, .int (nI c)), (3, .int (nI (40 * q))), (4, .int (b01 lt)), (5, .int (nI (n + 1)))] [.ref m] rfl ?_
                    refine pM_19 (v := .ref (m + 4)) rfl (kx_tk_dec rfl dM_vacuum) (mh_o hm) rfl ?_
                    refine kx_rn dM_vacuum 5 97 [(0, .ref m), (1, .int (nI ls)), (2, .int (nI c)), (3, .int (nI (40 * q))), (4, .int (b01 lt)), (5, .int (nI (n + 1)))] [.int (((nI (40 * q)) + (nI (n + 1))) - 1), .ref (m + 4)] rfl ?_
                    rw [show ((nI (40 * q)) + (nI (n + 1))) - 1 = nI (((40 * q) + (n + 1)) - 1) from kn_su (kn_ad rfl rfl) rfl (by omega)]
                    rw [show 40 * q + (n + 1) - 1 = 40 * q + n from by omega]
                    refine kx_rn dM_vacuum 1 98 [(0, .ref m), (1, .int (nI ls)), (2, .int (nI c)), (3, .int (nI (40 * q))), (4, .int (b01 lt)), (5, .int (nI (n + 1)))] [.int 0, .int (nI (40 * q + n)), .ref (m + 4)] rfl ?_
                    refine mh_st (k := 4) (i := 40 * q + n) (A' := va_up A 4 (va_up F (40 * q + n) 0)) rfl (kx_tk_dec rfl dM_vacuum) hm (by show 40 * q + n < 2880; omega) (va_upup _ _ _ _) ?_
                    refine kx_rn dM_vacuum 3 105 [(0, .ref m), (1, .int (nI ls)), (2, .int ((nI c) + 1)), (3, .int (nI (40 * q))), (4, .int (b01 lt)), (5, .int (nI (n + 1)))] [.int (nI ls), .int (nI (n + 1))] rfl ?_
                    rw [show (nI c) + 1 = nI (c + 1) from kn_ad rfl rfl]
                    refine kx_ic (tgt := 111) (kx_tk_dec rfl dM_vacuum) rfl (fun e105 => ?_) (fun e105 => ?_)
                    · skip
                      replace e105 : nI ls < nI (n + 1) := e105
                      replace e105 : ls < n + 1 := (nI_ltI (a := ls) (b := n + 1) (by omega) (by omega)).mp e105
                      refine kx_rn dM_vacuum 2 49 [(0, .ref m), (1, .int (nI ls)), (2, .int (nI (c + 1))), (3, .int (nI (40 * q))), (4, .int (b01 lt)), (5, .int ((nI (n + 1)) + (-1)))] [] rfl ?_
                      rw [show (nI (n + 1)) + (-1) = nI ((n + 1) - 1) from kn_sa rfl rfl (by omega)]
                      have hU0 : U (40 * q + n) = V (40 * q + n) := by rw [hU q n (by omega), if_neg (by omega)]
                      rw [hU0] at e65
                      have hno : vOut (A 6) V ls q n = true := by unfold vOut; rw [decide_eq_true_eq]; rw [hlt, decide_eq_true_eq] at e84; exact ⟨e84, e65, e76⟩
                      have hlt2 : lt = decide (n < vKp (A 6) V ls q) := hlt.trans (vKp_step (n := n) (by omega) (fun z => absurd z.2.2 (by omega))).symm
                      refine ihw (c + 1) lt (va_up F (40 * q + n) 0) (va_up U (40 * q + n) 0) (by omega) (by rw [cnt_succ, if_pos hno] at hc; omega) hlt2 (va_nIp hF _ 0) ?_ (fun p i hi => ?_)
                      · intro v
                        simp only [va_up]
                        split
                        · decide
                        · exact hU2 v
                      · by_cases z : p = q ∧ i = n
                        · obtain ⟨rfl, rfl⟩ := z
                          rw [va_up_self, if_pos (by omega)]
                          unfold vVac
                          rw [if_pos hno]
                        · rw [va_up_ne _ _ (by omega), hU p i hi]
                          by_cases z2 : p < q ∨ (p = q ∧ n + 1 ≤ i)
                          · rw [if_pos z2, if_pos (by omega)]
                          · rw [if_neg z2, if_neg (by omega)]
                    · skip
                      replace e105 : ¬ nI ls < nI (n + 1) := e105
                      replace e105 : ¬ ls < n + 1 := fun z => e105 ((nI_ltI (a := ls) (b := n + 1) (by omega) (by omega)).mpr z)
                      refine kx_rn dM_vacuum 4 49 [(0, .ref m), (1, .int (nI ls)), (2, .int (nI (c + 1))), (3, .int (nI (40 * q))), (4, .int 1), (5, .int ((nI (n + 1)) + (-1)))] [] rfl ?_
                      rw [show (nI (n + 1)) + (-1) = nI ((n + 1) - 1) from kn_sa rfl rfl (by omega)]
                      have hU0 : U (40 * q + n) = V (40 * q + n) := by rw [hU q n (by omega), if_neg (by omega)]
                      rw [hU0] at e65
                      have hno : vOut (A 6) V ls q n = true := by unfold vOut; rw [decide_eq_true_eq]; rw [hlt, decide_eq_true_eq] at e84; exact ⟨e84, e65, e76⟩
                      have hlt2 : true = decide (n < vKp (A 6) V ls q) := (decide_eq_true (vKp_yes (by omega) e65 e76 (by omega))).symm
                      refine ihw (c + 1) true (va_up F (40 * q + n) 0) (va_up U (40 * q + n) 0) (by omega) (by rw [cnt_succ, if_pos hno] at hc; omega) hlt2 (va_nIp hF _ 0) ?_ (fun p i hi => ?_)
                      · intro v
                        simp only [va_up]
                        split
                        · decide
                        · exact hU2 v
                      · by_cases z : p = q ∧ i = n
                        · obtain ⟨rfl, rfl⟩ := z
                          rw [va_up_self, if_pos (by omega)]
                          unfold vVac
                          rw [if_pos hno]
                        · rw [va_up_ne _ _ (by omega), hU p i hi]
                          by_cases z2 : p < q ∨ (p = q ∧ n + 1 ≤ i)
                          · rw [if_pos z2, if_pos (by omega)]
                          · rw [if_neg z2, if_neg (by omega)]
                · skip
                  replace e76 : ¬ A 6 (n + 1) = 2 := e76
                  refine kx_rn dM_vacuum 3 49 [(0, .ref m), (1, .int (nI ls)), (2, .int (nI c)), (3, .int (nI (40 * q))), (4, .int (b01 lt)), (5, .int ((nI (n + 1)) + (-1)))] [] rfl ?_
                  rw [show (nI (n + 1)) + (-1) = nI ((n + 1) - 1) from kn_sa rfl rfl (by omega)]
                  have hU0 : U (40 * q + n) = V (40 * q + n) := by rw [hU q n (by omega), if_neg (by omega)]
                  have hno : vOut (A 6) V ls q n = false := by unfold vOut; rw [decide_eq_false_iff_not]; exact (fun z => e76 z.2.2)
                  have hlt2 : lt = decide (n < vKp (A 6) V ls q) := hlt.trans (vKp_step (n := n) (by omega) (fun z => e76 z.2.1)).symm
                  refine ihw c lt F U (by omega) (by rw [cnt_succ, if_neg (by rw [hno]; decide)] at hc; omega) hlt2 hF ?_ (fun p i hi => ?_)
                  · exact hU2
                  · rw [hU p i hi]
                    by_cases z : p = q ∧ i = n
                    · obtain ⟨rfl, rfl⟩ := z
                      rw [if_neg (by omega), if_pos (by omega)]
                      unfold vVac
                      rw [if_neg (by rw [hno]; decide)]
                    · by_cases z2 : p < q ∨ (p = q ∧ n + 1 ≤ i)
                      · rw [if_pos z2, if_pos (by omega)]
                      · rw [if_neg z2, if_neg (by omega)]
        refine kx_rn dM_vacuum 2 39 [(0, .ref m), (1, .int (nI ls)), (2, .int (nI c0)), (3, .int (nI (40 * q)))] [.int 2880, .int (nI (40 * q))] rfl ?_
        refine kx_ic (tgt := 123) (kx_tk_dec rfl dM_vacuum) rfl (fun e39 => ?_) (fun e39 => ?_)
        · skip
          replace e39 : 2880 ≤ nI (40 * q) := e39
          replace e39 : 2880 ≤ 40 * q := (nI_leI (a := 2880) (b := 40 * q) (by omega) (by omega)).mp e39
          exfalso; omega
        · skip
          replace e39 : ¬ 2880 ≤ nI (40 * q) := e39
          replace e39 : ¬ 2880 ≤ 40 * q := fun z => e39 ((nI_leI (a := 2880) (b := 40 * q) (by omega) (by omega)).mpr z)
          refine kx_rn dM_vacuum 4 49 [(0, .ref m), (1, .int (nI ls)), (2, .int (nI c0)), (3, .int (nI (40 * q))), (4, .int 0), (5, .int 40)] [] rfl ?_
          refine inner 40 c0 false F U (Nat.le_refl _) rfl ?_ hF hU2 (fun p i hi => ?_)
          · have := hw_le (fun w => decide (¬ V (40 * q + w - 1) = 0 ∧ A 6 w = 2)) (min ls 40)
            exact (decide_eq_false (by unfold vKp; omega)).symm
          · rw [hU p i hi]
            by_cases z : p < q
            · rw [if_pos z, if_pos (by omega)]
            · rw [if_neg z, if_neg (by omega)]
    refine kx_heq (congrArg (mH h0 m (va_up S 0 0)) (va_upsame A 4).symm) ?_
    exact outer 72 0 0 _ V rfl rfl hV hV2 (fun p i hi => by rw [if_neg (by omega)])
  have first : ∀ n (j : Nat), j + n = bg → (∀ t, 1 ≤ t → t ≤ j → ¬ A 6 t = 1) → kx_w G l mM_vacuum d (fun o h' => ∃ ls, mLeast A bg ls ∧ o = .returned (some (.int (nI (nsum (fun q => cnt (vOut (A 6) V ls q) 40) 72)))) ∧ ∃ (F : Nat → Int32) (U : Nat → Nat), h' = mH h0 m (va_up S 0 0) (va_up A 4 F) ∧ (∀ v, F v = nI (U v)) ∧ (∀ v, U v < 256) ∧ ∀ q i, q < 72 → i < 40 → U (40 * q + i) = vVac (A 6) V ls q i) 0 0 7 [(0, .ref m), (1, .int (nI (j + 1)))] [] (mH h0 m (va_up S 0 0) A) := by
    intro n
    induction n with
    | zero =>
      intro j hj hj2
      refine kx_rn dM_vacuum 2 9 [(0, .ref m), (1, .int (nI (j + 1)))] [.ref m, .int (nI (j + 1))] rfl ?_
      refine pM_76 (v := .int (S 7)) rfl (kx_tk_dec rfl dM_vacuum) (mh_o hm) rfl ?_
      rw [hb]
      refine kx_ic (tgt := 31) (kx_tk_dec rfl dM_vacuum) rfl (fun e12 => ?_) (fun e12 => ?_)
      · skip
        replace e12 : nI bg < nI (j + 1) := e12
        replace e12 : bg < j + 1 := (nI_ltI (a := bg) (b := j + 1) (by omega) (by omega)).mp e12
        refine kx_rn dM_vacuum 4 35 [(0, .ref m), (1, .int (nI (j + 1))), (2, .int 0), (3, .int 0)] [] rfl ?_
        exact vac (j + 1) ⟨by omega, by omega, fun t h1 h2 => hj2 t h1 (by omega), fun z => absurd z (by omega)⟩
      · skip
        replace e12 : ¬ nI bg < nI (j + 1) := e12
        replace e12 : ¬ bg < j + 1 := fun z => e12 ((nI_ltI (a := bg) (b := j + 1) (by omega) (by omega)).mpr z)
        exfalso; omega
    | succ n ih =>
      intro j hj hj2
      refine kx_rn dM_vacuum 2 9 [(0, .ref m), (1, .int (nI (j + 1)))] [.ref m, .int (nI (j + 1))] rfl ?_
      refine pM_76 (v := .int (S 7)) rfl (kx_tk_dec rfl dM_vacuum) (mh_o hm) rfl ?_
      rw [hb]
      refine kx_ic (tgt := 31) (kx_tk_dec rfl dM_vacuum) rfl (fun e12 => ?_) (fun e12 => ?_)
      · skip
        replace e12 : nI bg < nI (j + 1) := e12
        replace e12 : bg < j + 1 := (nI_ltI (a := bg) (b := j + 1) (by omega) (by omega)).mp e12
        exfalso; omega
      · skip
        replace e12 : ¬ nI bg < nI (j + 1) := e12
        replace e12 : ¬ bg < j + 1 := fun z => e12 ((nI_ltI (a := bg) (b := j + 1) (by omega) (by omega)).mpr z)
        refine kx_rn dM_vacuum 1 16 [(0, .ref m), (1, .int (nI (j + 1)))] [.ref m] rfl ?_
        refine pM_25 (v := .ref (m + 6)) rfl (kx_tk_dec rfl dM_vacuum) (mh_o hm) rfl ?_
        refine kx_rn dM_vacuum 1 20 [(0, .ref m), (1, .int (nI (j + 1)))] [.int (nI (j + 1)), .ref (m + 6)] rfl ?_
        refine mh_ld (k := 6) (x := A 6 (j + 1)) (i := j + 1) rfl rfl (kx_tk_dec rfl dM_vacuum) hm (by show j + 1 < 41; omega) ?_
        refine kx_rn dM_vacuum 1 22 [(0, .ref m), (1, .int (nI (j + 1)))] [.int 1, .int (A 6 (j + 1))] rfl ?_
        refine kx_ic (tgt := 31) (kx_tk_dec rfl dM_vacuum) rfl (fun e22 => ?_) (fun e22 => ?_)
        · skip
          replace e22 : A 6 (j + 1) = 1 := e22
          refine kx_rn dM_vacuum 4 35 [(0, .ref m), (1, .int (nI (j + 1))), (2, .int 0), (3, .int 0)] [] rfl ?_
          exact vac (j + 1) ⟨by omega, by omega, fun t h1 h2 => hj2 t h1 (by omega), fun _ => e22⟩
        · skip
          replace e22 : ¬ A 6 (j + 1) = 1 := e22
          refine kx_rn dM_vacuum 2 7 [(0, .ref m), (1, .int ((nI (j + 1)) + 1))] [] rfl ?_
          rw [show (nI (j + 1)) + 1 = nI ((j + 1) + 1) from kn_ad rfl rfl]
          exact ih (j + 1) (by omega) (fun t h1 h2 => by
            by_cases z : t = j + 1
            · rw [z]; exact e22
            · exact hj2 t h1 (by omega))
  refine kx_rn dM_vacuum 2 2 [(0, .ref m)] [.int 0, .ref m] rfl ?_
  refine qM_69 rfl (kx_tk_dec rfl dM_vacuum) (mh_o hm) rfl rfl (Nat.le_of_ble_eq_true rfl) ?_
  rw [mh_p0]
  refine kx_rn dM_vacuum 2 7 [(0, .ref m), (1, .int 1)] [] rfl ?_
  exact first bg 0 (by omega) (fun t h1 h2 => absurd h1 (by omega))
/-- what count answers -/
def mCnt (S : Nat → Int32) (A : Nat → Nat → Int32) (V : Nat → Nat) (bg : Nat) (x : Int32) : Int32 := if x = 0 then S 7 else if x = 1 then nI (cnt (fun j => decide (A 6 (j + 1) = 1)) bg) else if x = 2 then nI (cnt (fun j => decide (A 6 (j + 1) = 2)) bg) else if x = 3 then S 25 else if x = 4 then S 10 else if x = 5 then nI (cnt (fun c => decide (¬ A 10 c = 0)) 4) else if x = 6 then nI (nsum (fun q => cnt (fun j => decide (¬ V (40 * q + j) = 0)) 40) 72) else if x = 7 then S 8 else if x = 8 then A 2 0 else if x = 9 then A 2 1 else if x = 10 then A 2 2 else -1
theorem kI_sw {x : Int32} {hi : Nat} (h : ¬ (x.toInt < 0 ∨ (hi : Int) < x.toInt)) : ∃ n : Nat, n ≤ hi ∧ x = nI n := by
  obtain ⟨n, e0, e1, e2⟩ := kI_nat (x := x) (by omega)
  exact ⟨n, by omega, e0⟩
theorem cM_count {x : Int32} (hst : l.stackTraces = false) (hm : mOk G h0 m) {bg : Nat} (hb : S 7 = nI bg) (hbg : bg ≤ 40) {V : Nat → Nat} (hV : ∀ v, A 4 v = nI (V v)) (hV2 : ∀ v, V v < 256) :
    kx_c G l mM_count (d + 1) 0 0 [.ref m, .int x] (mH h0 m S A) (fun o h' => o = .returned (some (.int (mCnt S A V bg x))) ∧ h' = mH h0 m (va_up S 0 0) A) := by
  refine kx_in (by decide +kernel) (Nat.le_of_ble_eq_true rfl) hst ?_
  refine kx_rn dM_count 2 2 [(0, .ref m), (1, .int x)] [.int 0, .ref m] rfl ?_
  refine qM_69 rfl (kx_tk_dec rfl dM_count) (mh_o hm) rfl rfl (Nat.le_of_ble_eq_true rfl) ?_
  rw [mh_p0]
  refine kx_rn dM_count 3 8 [(0, .ref m), (1, .int x), (2, .int 0)] [.int x] rfl ?_
  by_cases hsw : x.toInt < 0 ∨ (10 : Int) < x.toInt
  · skip
    refine kx_tout (tgt := 139) (kx_tk_dec rfl dM_count) hsw rfl ?_
    refine kx_rn dM_count 1 140 [(0, .ref m), (1, .int x), (2, .int 0)] [.int ((-1))] rfl ?_
    refine kx_ret (ty := .int) (kx_tk_dec rfl dM_count) rfl rfl ?_
    refine ⟨?_, rfl⟩
    unfold mCnt
    rw [if_neg, if_neg, if_neg, if_neg, if_neg, if_neg, if_neg, if_neg, if_neg, if_neg, if_neg]
    all_goals (rintro rfl; revert hsw; decide)
  · obtain ⟨n, hn, rfl⟩ := kI_sw (hi := 10) hsw
    clear hsw
    rcases n with _ | n
    · skip
      refine kx_tin (off := 60) (tgt := 68) (kx_tk_dec rfl dM_count) (by decide) (by decide) rfl rfl ?_
      refine kx_rn dM_count 1 69 [(0, .ref m), (1, .int 0), (2, .int 0)] [.ref m] rfl ?_
      refine pM_76 (v := .int (S 7)) rfl (kx_tk_dec rfl dM_count) (mh_o hm) rfl ?_
      rw [hb]
      refine kx_ret (ty := .int) (kx_tk_dec rfl dM_count) rfl rfl ?_
      exact ⟨by rw [← hb]; rfl, rfl⟩
    rcases n with _ | n
    · skip
      refine kx_tin (off := 65) (tgt := 73) (kx_tk_dec rfl dM_count) (by decide) (by decide) rfl rfl ?_
      refine kx_rn dM_count 2 75 [(0, .ref m), (1, .int 1), (2, .int 0)] [.int 1, .ref m] rfl ?_
      refine cM_202 (as := [.int 1]) (st := []) (mc := 0) (ms := 0) (kc := 0) (ks := 0) rfl (kx_tk_dec rfl dM_count) (mh_o hm) rfl rfl (Nat.le_of_ble_eq_true rfl) (cM_inState hst hm (S := va_up S 0 0) hb hbg) (fun o h' hq => ?_)
      obtain ⟨rfl, rfl⟩ := hq
      show kx_w _ _ _ _ _ _ _ _ _ _ _
      refine kx_ret (ty := .int) (kx_tk_dec rfl dM_count) rfl rfl ?_
      exact ⟨rfl, rfl⟩
    rcases n with _ | n
    · skip
      refine kx_tin (off := 71) (tgt := 79) (kx_tk_dec rfl dM_count) (by decide) (by decide) rfl rfl ?_
      refine kx_rn dM_count 2 81 [(0, .ref m), (1, .int 2), (2, .int 0)] [.int 2, .ref m] rfl ?_
      refine cM_202 (as := [.int 2]) (st := []) (mc := 0) (ms := 0) (kc := 0) (ks := 0) rfl (kx_tk_dec rfl dM_count) (mh_o hm) rfl rfl (Nat.le_of_ble_eq_true rfl) (cM_inState hst hm (S := va_up S 0 0) hb hbg) (fun o h' hq => ?_)
      obtain ⟨rfl, rfl⟩ := hq
      show kx_w _ _ _ _ _ _ _ _ _ _ _
      refine kx_ret (ty := .int) (kx_tk_dec rfl dM_count) rfl rfl ?_
      exact ⟨rfl, rfl⟩
    rcases n with _ | n
    · skip
      refine kx_tin (off := 77) (tgt := 85) (kx_tk_dec rfl dM_count) (by decide) (by decide) rfl rfl ?_
      refine kx_rn dM_count 1 86 [(0, .ref m), (1, .int 3), (2, .int 0)] [.ref m] rfl ?_
      refine pM_176 (v := .int (S 25)) rfl (kx_tk_dec rfl dM_count) (mh_o hm) rfl ?_
      refine kx_ret (ty := .int) (kx_tk_dec rfl dM_count) rfl rfl ?_
      exact ⟨rfl, rfl⟩
    rcases n with _ | n
    · skip
      refine kx_tin (off := 82) (tgt := 90) (kx_tk_dec rfl dM_count) (by decide) (by decide) rfl rfl ?_
      refine kx_rn dM_count 1 91 [(0, .ref m), (1, .int 4), (2, .int 0)] [.ref m] rfl ?_
      refine pM_90 (v := .int (S 10)) rfl (kx_tk_dec rfl dM_count) (mh_o hm) rfl ?_
      refine kx_ret (ty := .int) (kx_tk_dec rfl dM_count) rfl rfl ?_
      exact ⟨rfl, rfl⟩
    rcases n with _ | n
    · skip
      refine kx_tin (off := 87) (tgt := 95) (kx_tk_dec rfl dM_count) (by decide) (by decide) rfl rfl ?_
      refine kx_rn dM_count 1 96 [(0, .ref m), (1, .int 5), (2, .int 0)] [.ref m] rfl ?_
      refine cM_144 (as := []) (st := []) (mc := 0) (ms := 0) (kc := 0) (ks := 0) rfl (kx_tk_dec rfl dM_count) (mh_o hm) rfl rfl (Nat.le_of_ble_eq_true rfl) (cM_settings hst hm) (fun o h' hq => ?_)
      obtain ⟨rfl, rfl⟩ := hq
      show kx_w _ _ _ _ _ _ _ _ _ _ _
      refine kx_ret (ty := .int) (kx_tk_dec rfl dM_count) rfl rfl ?_
      exact ⟨rfl, rfl⟩
    rcases n with _ | n
    · skip
      refine kx_tin (off := 92) (tgt := 100) (kx_tk_dec rfl dM_count) (by decide) (by decide) rfl rfl ?_
      refine kx_rn dM_count 2 102 [(0, .ref m), (1, .int 6), (2, .int 0), (3, .int 0)] [] rfl ?_
      have loop : ∀ n (q c : Nat), q + n = 72 → c = nsum (fun q => cnt (fun j => decide (¬ V (40 * q + j) = 0)) 40) q → kx_w G l mM_count (d + 1) (fun o h' => o = .returned (some (.int (mCnt S A V bg 6))) ∧ h' = mH h0 m (va_up S 0 0) A) 0 0 102 [(0, .ref m), (1, .int 6), (2, .int (nI c)), (3, .int (nI q))] [] (mH h0 m (va_up S 0 0) A) := by
        intro n
        induction n with
        | zero =>
          intro q c hq hc
          refine kx_rn dM_count 2 105 [(0, .ref m), (1, .int 6), (2, .int (nI c)), (3, .int (nI q))] [.int 72, .int (nI q)] rfl ?_
          refine kx_ic (tgt := 122) (kx_tk_dec rfl dM_count) rfl (fun e105 => ?_) (fun e105 => ?_)
          · skip
            replace e105 : 72 ≤ nI q := e105
            replace e105 : 72 ≤ q := (nI_leI (a := 72) (b := q) (by omega) (by omega)).mp e105
            refine kx_rn dM_count 1 123 [(0, .ref m), (1, .int 6), (2, .int (nI c)), (3, .int (nI q))] [.int (nI c)] rfl ?_
            refine kx_ret (ty := .int) (kx_tk_dec rfl dM_count) rfl rfl ?_
            exact ⟨by rw [hc, show q = 72 by omega]; rfl, rfl⟩
          · skip
            replace e105 : ¬ 72 ≤ nI q := e105
            replace e105 : ¬ 72 ≤ q := fun z => e105 ((nI_leI (a := 72) (b := q) (by omega) (by omega)).mpr z)
            exfalso; omega
        | succ n ih =>
          intro q c hq hc
          have h1 := cnt_le (fun j => decide (¬ V (40 * q + j) = 0)) 40
          have h2 := nsum_le (f := fun q => cnt (fun j => decide (¬ V (40 * q + j) = 0)) 40) (b := 40) (fun q => cnt_le _ 40) q
          refine kx_rn dM_count 2 105 [(0, .ref m), (1, .int 6), (2, .int (nI c)), (3, .int (nI q))] [.int 72, .int (nI q)] rfl ?_
          refine kx_ic (tgt := 122) (kx_tk_dec rfl dM_count) rfl (fun e105 => ?_) (fun e105 => ?_)
          · skip
            replace e105 : 72 ≤ nI q := e105
            replace e105 : 72 ≤ q := (nI_leI (a := 72) (b := q) (by omega) (by omega)).mp e105
            exfalso; omega
          · skip
            replace e105 : ¬ 72 ≤ nI q := e105
            replace e105 : ¬ 72 ≤ q := fun z => e105 ((nI_leI (a := 72) (b := q) (by omega) (by omega)).mpr z)
            refine kx_rn dM_count 3 111 [(0, .ref m), (1, .int 6), (2, .int (nI c)), (3, .int (nI q))] [.int (nI q), .ref m, .int (nI c)] rfl ?_
            refine cM_199 (as := [.int (nI q)]) (st := [.int (nI c)]) (mc := 0) (ms := 0) (kc := 0) (ks := 0) rfl (kx_tk_dec rfl dM_count) (mh_o hm) rfl rfl (Nat.le_of_ble_eq_true rfl) (cM_versionsOf hst hm (by omega) hV hV2) (fun o h' hq => ?_)
            obtain ⟨rfl, rfl⟩ := hq
            show kx_w _ _ _ _ _ _ _ _ _ _ _
            refine kx_rn dM_count 4 102 [(0, .ref m), (1, .int 6), (2, .int ((nI c) + (nI (cnt (fun j => decide (¬ V (40 * q + j) = 0)) 40)))), (3, .int ((nI q) + 1))] [] rfl ?_
            rw [show (nI c) + (nI (cnt (fun j => decide (¬ V (40 * q + j) = 0)) 40)) = nI (c + (cnt (fun j => decide (¬ V (40 * q + j) = 0)) 40)) from kn_ad rfl rfl]
            rw [show (nI q) + 1 = nI (q + 1) from kn_ad rfl rfl]
            exact ih (q + 1) _ (by omega) (by rw [hc]; rfl)
      exact loop 72 0 0 rfl rfl
    rcases n with _ | n
    · skip
      refine kx_tin (off := 116) (tgt := 124) (kx_tk_dec rfl dM_count) (by decide) (by decide) rfl rfl ?_
      refine kx_rn dM_count 1 125 [(0, .ref m), (1, .int 7), (2, .int 0)] [.ref m] rfl ?_
      refine pM_179 (v := .int (S 8)) rfl (kx_tk_dec rfl dM_count) (mh_o hm) rfl ?_
      refine kx_ret (ty := .int) (kx_tk_dec rfl dM_count) rfl rfl ?_
      exact ⟨rfl, rfl⟩
    rcases n with _ | n
    · skip
      refine kx_tin (off := 121) (tgt := 129) (kx_tk_dec rfl dM_count) (by decide) (by decide) rfl rfl ?_
      refine kx_rn dM_count 1 130 [(0, .ref m), (1, .int 8), (2, .int 0)] [.ref m] rfl ?_
      refine pM_13 (v := .ref (m + 2)) rfl (kx_tk_dec rfl dM_count) (mh_o hm) rfl ?_
      refine kx_rn dM_count 3 137 [(0, .ref m), (1, .int 8), (2, .int 0)] [.int 0, .ref (m + 2)] rfl ?_
      refine mh_ld (k := 2) (x := A 2 0) (i := 0) rfl rfl (kx_tk_dec rfl dM_count) hm (by show 0 < 3; omega) ?_
      refine kx_ret (ty := .int) (kx_tk_dec rfl dM_count) rfl rfl ?_
      exact ⟨rfl, rfl⟩
    rcases n with _ | n
    · skip
      refine kx_tin (off := 121) (tgt := 129) (kx_tk_dec rfl dM_count) (by decide) (by decide) rfl rfl ?_
      refine kx_rn dM_count 1 130 [(0, .ref m), (1, .int 9), (2, .int 0)] [.ref m] rfl ?_
      refine pM_13 (v := .ref (m + 2)) rfl (kx_tk_dec rfl dM_count) (mh_o hm) rfl ?_
      refine kx_rn dM_count 3 137 [(0, .ref m), (1, .int 9), (2, .int 0)] [.int 1, .ref (m + 2)] rfl ?_
      refine mh_ld (k := 2) (x := A 2 1) (i := 1) rfl rfl (kx_tk_dec rfl dM_count) hm (by show 1 < 3; omega) ?_
      refine kx_ret (ty := .int) (kx_tk_dec rfl dM_count) rfl rfl ?_
      exact ⟨rfl, rfl⟩
    rcases n with _ | n
    · skip
      refine kx_tin (off := 121) (tgt := 129) (kx_tk_dec rfl dM_count) (by decide) (by decide) rfl rfl ?_
      refine kx_rn dM_count 1 130 [(0, .ref m), (1, .int 10), (2, .int 0)] [.ref m] rfl ?_
      refine pM_13 (v := .ref (m + 2)) rfl (kx_tk_dec rfl dM_count) (mh_o hm) rfl ?_
      refine kx_rn dM_count 3 137 [(0, .ref m), (1, .int 10), (2, .int 0)] [.int 2, .ref (m + 2)] rfl ?_
      refine mh_ld (k := 2) (x := A 2 2) (i := 2) rfl rfl (kx_tk_dec rfl dM_count) hm (by show 2 < 3; omega) ?_
      refine kx_ret (ty := .int) (kx_tk_dec rfl dM_count) rfl rfl ?_
      exact ⟨rfl, rfl⟩
    omega
end KM6
