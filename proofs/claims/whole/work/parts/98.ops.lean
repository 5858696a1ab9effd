/-! ===== count, vacuum, insert ===== -/
section KS3
variable {G : kx_G} {l : Launch} {m : Nat} {S S1 : Nat → Int32} {A A1 : Nat → Nat → Int32} {h : kx_H} {Z Z' : cZ} {bg ln rs : Nat} {MD SC CL : Nat → Nat} {PI : Nat → List Int32}
theorem mCnt_x {x : Int32} (V : Nat → Nat) (hx : x.toInt < 0 ∨ 10 < x.toInt) : mCnt S A V bg x = -1 := by
  unfold mCnt
  have z : ∀ n : Nat, n ≤ 10 → ¬ x = nI n := fun n hn e => by
    rw [e, nI_toInt (by omega)] at hx; omega
  rw [if_neg (show ¬ x = 0 from z 0 (by decide)), if_neg (show ¬ x = 1 from z 1 (by decide)), if_neg (show ¬ x = 2 from z 2 (by decide)), if_neg (show ¬ x = 3 from z 3 (by decide)), if_neg (show ¬ x = 4 from z 4 (by decide)), if_neg (show ¬ x = 5 from z 5 (by decide)), if_neg (show ¬ x = 6 from z 6 (by decide)), if_neg (show ¬ x = 7 from z 7 (by decide)), if_neg (show ¬ x = 8 from z 8 (by decide)), if_neg (show ¬ x = 9 from z 9 (by decide)), if_neg (show ¬ x = 10 from z 10 (by decide))]
theorem md_cnt (hB : sTb Z A MD SC CL) {k : Nat} (hk : k < 3) : A 2 k = if Z.tb k = true then Z.sc (rTab k) 2 else 0 := by
  by_cases e : Z.tb k = true
  · rw [if_pos e, (hB.1 k hk e).2.2.2.1]; exact hB.2.2.2.1 k
  · rw [if_neg e, hB.2.2.2.1 k, ((hB.2.2.2.2.2.2.2 k hk).2 (kB_f e)).2.1]; rfl
theorem st_cnt (hT : sTr Z S A bg) (hw : cWf Z) {x : Nat} (hx : x < 4) : cnt (fun j => decide (A 6 (j + 1) = nI x)) bg = cnt (fun j => decide (Z.st (j + 1) = x)) bg :=
  cnt_cg fun i _ => decide_eq_decide.mpr (st_iff hT hw (i + 1) x hx)
theorem stp_count {x : Int32} (hst : l.stackTraces = false) (hZ : cOk G m S A h Z) (hs : sim Z S A) : ∃ mc ms, nCl mc ms ∧ kx_c G l mV_count 19 mc ms [.ref (Z.ad rV), .int x] h (oQs G l m S A Z mM_count [.ref m, .int x]) := by
  have hs0 := hs
  obtain ⟨bg, ln, rs, MD, SC, CL, PI, hT, hL, hB, hV, hP, hR⟩ := hs
  have fin : ∀ v : Int32, mCnt S A Z.V bg x = v → kx_c G l mV_count 19 0 0 [.ref (Z.ad rV), .int x] h (fun o h' => o = .returned (some (.int v)) ∧ cOk G m S A h' Z) → ∃ mc ms, nCl mc ms ∧ kx_c G l mV_count 19 mc ms [.ref (Z.ad rV), .int x] h (oQs G l m S A Z mM_count [.ref m, .int x]) := by
    intro v hv hC
    refine ⟨0, 0, ⟨by decide, by decide⟩, kx_cc ?_ hC⟩
    rintro o h' ⟨rfl, hz⟩
    refine oQs_r hz rfl (rQi_of (fun h' hm => cM_count (d := 18) hst hm hT.2.2.1 hT.2.1 hV.1 hZ.wf.low) ?_)
    rintro h' o2 h2 hw ⟨rfl, rfl⟩
    exact ⟨_, _, _, rfl, rfl, rfl, fun _ => hv, sim_S0 hs0⟩
  by_cases e : x.toInt < 0 ∨ 10 < x.toInt
  · exact fin _ (mCnt_x _ e) (cV_countX (d := 15) hst hZ e)
  · obtain ⟨n, hn, rfl⟩ := kI_sw (hi := 10) e
    have hn2 : n = 0 ∨ n = 1 ∨ n = 2 ∨ n = 3 ∨ n = 4 ∨ n = 5 ∨ n = 6 ∨ n = 7 ∨ n = 8 ∨ n = 9 ∨ n = 10 := by omega
    rcases hn2 with rfl | rfl | rfl | rfl | rfl | rfl | rfl | rfl | rfl | rfl | rfl
    · exact fin _ (hT.2.2.1.trans hT.1.symm) (cV_count0 (d := 15) hst hZ hB.1 hV.2.1 hT.1 hT.2.1)
    · exact fin _ (congrArg nI (st_cnt hT hZ.wf (x := 1) (by decide))) (cV_count1 (d := 15) hst hZ hB.1 hV.2.1 hT.1 hT.2.1)
    · exact fin _ (congrArg nI (st_cnt hT hZ.wf (x := 2) (by decide))) (cV_count2 (d := 15) hst hZ hB.1 hV.2.1 hT.1 hT.2.1)
    · exact fin _ (hR.1.trans hR.2.2.1.symm) (cV_count3 (d := 15) hst hZ hB.1 hV.2.1 hT.1 hT.2.1)
    · exact fin _ (hL.2.2.1.trans hL.1.symm) (cV_count4 (d := 15) hst hZ hB.1 hV.2.1 hT.1 hT.2.1)
    · exact fin _ (congrArg nI (set_cnt hP)) (cV_count5 (d := 15) hst hZ hB.1 hV.2.1 hT.1 hT.2.1)
    · exact fin _ rfl (cV_count6 (d := 15) hst hZ hB.1 hV.2.1 hT.1 hT.2.1)
    · exact fin _ hT.2.2.2.1 (cV_count7 (d := 15) hst hZ hB.1 hV.2.1 hT.1 hT.2.1)
    · exact fin _ (md_cnt hB (by decide)) (cV_count8 (d := 15) hst hZ hB.1 hV.2.1 hT.1 hT.2.1)
    · exact fin _ (md_cnt hB (by decide)) (cV_count9 (d := 15) hst hZ hB.1 hV.2.1 hT.1 hT.2.1)
    · exact fin _ (md_cnt hB (by decide)) (cV_count10 (d := 15) hst hZ hB.1 hV.2.1 hT.1 hT.2.1)
theorem hw_up {f : Nat → Bool} {a : Nat} : ∀ {b : Nat}, a ≤ b → (∀ w, a < w → w ≤ b → f w = false) → hw f b = hw f a
  | 0, hab, _ => by rw [show a = 0 by omega]
  | b + 1, hab, hf => by
    by_cases e : a = b + 1
    · rw [e]
    · show (if f (b + 1) = true then b + 1 else hw f b) = _
      rw [if_neg (by rw [hf (b + 1) (by omega) (Nat.le_refl _)]; decide)]
      exact hw_up (by omega) (fun w h1 h2 => hf w h1 (by omega))
theorem hw_cg {f g : Nat → Bool} : ∀ {n : Nat}, (∀ w, 1 ≤ w → w ≤ n → f w = g w) → hw f n = hw g n
  | 0, _ => rfl
  | n + 1, h => by
    show (if f (n + 1) = true then n + 1 else hw f n) = (if g (n + 1) = true then n + 1 else hw g n)
    rw [h (n + 1) (by omega) (Nat.le_refl _), hw_cg (fun w a b => h w a (by omega))]
theorem vac_eq (hT : sTr Z S A bg) (hw2 : cWf Z) {ls : Nat} (q i : Nat) : vOut (A 6) Z.V ls q i = cOut Z (min ls bg) q i := by
  have k1 : vKp (A 6) Z.V ls q = cKp Z (min ls bg) q := by
    unfold vKp cKp
    have e1 : hw (fun w => decide (¬ Z.V (40 * q + w - 1) = 0 ∧ A 6 w = 2)) (min ls 40) = hw (fun w => decide (¬ Z.V (40 * q + w - 1) = 0 ∧ Z.st w = 2)) (min ls 40) :=
      hw_cg fun w _ _ => decide_eq_decide.mpr ⟨fun z => ⟨z.1, (st_iff hT hw2 w 2 (by decide)).mp z.2⟩, fun z => ⟨z.1, (st_iff hT hw2 w 2 (by decide)).mpr z.2⟩⟩
    rw [e1]
    have b40 := hT.2.1
    refine hw_up (by omega) (fun w h1 h2 => decide_eq_false (fun z => ?_))
    have := hT.2.2.2.2.2 w (Or.inr (by omega))
    rw [this] at z
    exact absurd z.2 (by decide)
  unfold vOut cOut
  rw [k1]
  exact decide_eq_decide.mpr ⟨fun z => ⟨z.1, z.2.1, (st_iff hT hw2 _ 2 (by decide)).mp z.2.2⟩, fun z => ⟨z.1, z.2.1, (st_iff hT hw2 _ 2 (by decide)).mpr z.2.2⟩⟩
theorem stp_vacuum (hst : l.stackTraces = false) (hZ : cOk G m S A h Z) (hs : sim Z S A) : ∃ mc ms, nCl mc ms ∧ kx_c G l mV_vacuum 19 mc ms [.ref (Z.ad rV)] h (oQs G l m S A Z mM_vacuum [.ref m]) := by
  obtain ⟨bg, ln, rs, MD, SC, CL, PI, hT, hL, hB, hV, hP, hR⟩ := hs
  refine ⟨0, 0, ⟨by decide, by decide⟩, kx_cc ?_ (cV_vacuum (d := 15) hst hZ hB.1 hV.2.1 hT.1 hT.2.1)⟩
  rintro o h' ⟨ls, l1, l2, l3, l4, rfl, V2, hz, hV2⟩
  refine oQs_r hz rfl (rQi_of (fun h' hm => cM_vacuum2 (d := 19) hst hm hT.2.2.1 hT.2.1 hV.1 hZ.wf.low) ?_)
  rintro h' o2 h2 hw ⟨ls', ⟨m1, m2, m3, m4⟩, rfl, F, U, rfl, hF, hU, hU2⟩
  have es : ls' = ls := by
    by_cases e : ls' < ls
    · exact absurd ((st_iff hT hZ.wf ls' 1 (by decide)).mp (m4 (by omega))) (l3 ls' m1 e)
    · by_cases e' : ls < ls'
      · exact absurd ((st_iff hT hZ.wf ls 1 (by decide)).mpr (l4 (by omega))) (m3 ls l1 e')
      · omega
  subst es
  have hUV : ∀ v, U v = V2 v := fun v => by
    have e := hU2 (v / 40) (v % 40) (Nat.mod_lt _ (by decide))
    rw [show 40 * (v / 40) + v % 40 = v from Nat.div_add_mod v 40] at e
    rw [e, hV2 v]
    unfold vVac
    rw [vac_eq hT hZ.wf]
    rw [show 40 * (v / 40) + v % 40 = v from Nat.div_add_mod v 40]
    by_cases q : v / 40 < 72
    · rw [if_pos q]
    · have hv0 : Z.V v = 0 := Classical.byContradiction fun z => by have := (hZ.wf.inn v z).1; omega
      rw [if_neg q, hv0]
      split <;> rfl
  have sub : ∀ v, ¬ V2 v = 0 → V2 v = Z.V v := fun v hv => by
    rw [hV2 v] at hv ⊢
    split at hv
    · exact absurd rfl hv
    · rename_i q; rw [if_neg q]
  refine ⟨_, _, _, rfl, rfl, rfl, fun _ => ?_, bg, ln, rs, MD, SC, CL, PI, hT.of rfl rfl rfl rfl rfl rfl, hL.of rfl rfl rfl rfl rfl rfl, hB.of (fun _ => rfl) (fun _ => rfl) (fun _ => rfl) rfl rfl rfl rfl, ⟨fun v => ?_, fun v hv => ?_, fun v hv => ?_, fun v hv hg c hc => ?_⟩, hP.of (fun _ => rfl) (fun _ => rfl) rfl rfl rfl rfl, hR.of rfl rfl (fun _ _ => rfl) rfl rfl rfl rfl⟩
  · exact congrArg nI (nsum_congr fun q _ => cnt_cg fun i _ => vac_eq hT hZ.wf q i)
  · show F v = nI (V2 v)
    rw [hF v, hUV v]
  · exact hV.2.1 v (by rw [← sub v hv]; exact hv)
  · exact hV.2.2.1 v (by rw [← sub v hv]; exact hv)
  · exact hV.2.2.2 v (by rw [← sub v hv]; exact hv) (by rw [← sub v hv]; exact hg) c hc
/-- what statements leave alone -/
def fS (Z Z' : cZ) : Prop := (∀ t i, t ≠ 7 → t ≠ 10 → t ≠ 14 → Z'.sc (t, i) = Z.sc (t, i)) ∧ (∀ i, Z'.sc (rPrg i) 2 = Z.sc (rPrg i) 2) ∧ (∀ t i, t ≠ 9 → t ≠ 6 → t ≠ 11 → t ≠ 13 → t ≠ 19 → Z'.ia (t, i) = Z.ia (t, i)) ∧ Z'.pl = Z.pl ∧ Z'.tb = Z.tb
theorem fS.T (hf : fS Z Z') (hT : sTr Z S A bg) (b : Z'.st = Z.st) (c7 : S1 7 = S 7) (c8 : S1 8 = S 8) (c6 : A1 6 = A 6) : sTr Z' S1 A1 bg := hT.of (congrFun (hf.1 2 0 (by decide) (by decide) (by decide)) 1) (congrFun (hf.1 2 0 (by decide) (by decide) (by decide)) 2) b c7 c8 c6
theorem fS.L (hf : fS Z Z') (hL : sLn Z S A ln) (c0 : S1 10 = S 10) (c1 : S1 11 = S 11) (c7 : A1 7 = A 7) : sLn Z' S1 A1 ln := hL.of (congrFun (hf.1 0 0 (by decide) (by decide) (by decide)) 3) (congrFun (hf.1 0 0 (by decide) (by decide) (by decide)) 4) (hf.2.2.1 4 0 (by decide) (by decide) (by decide) (by decide) (by decide)) c0 c1 c7
theorem fS.P (hf : fS Z Z') (hP : sPr Z A PI) (c8 : A1 8 = A 8) (c9 : A1 9 = A 9) (c10 : A1 10 = A 10) : sPr Z' A1 PI := hP.of hf.2.1 (fun i => hf.2.2.1 8 i (by decide) (by decide) (by decide) (by decide) (by decide)) hf.2.2.2.1 c8 c9 c10
/-- too late -/
theorem sim_late {tn : Nat} {sc2 ia2 : cR → Nat → Int32} {V2 : Nat → Nat} (hX : simX Z S A bg ln rs MD SC CL PI) (t1 : 1 ≤ tn) (t2 : tn ≤ bg) (hu : uFr Z sc2 ia2) (hV2 : ∀ v, V2 v = vBrk Z.V tn v) (c7 : S1 7 = S 7) (c8 : S1 8 = S 8 + 1) (d0 : S1 10 = S 10) (d1 : S1 11 = S 11) (d25 : S1 25 = S 25) (a6 : A1 6 = va_up (A 6) tn 3) (a4 : A1 4 = fun v => nI (vBrk Z.V tn v)) (a1 : A1 1 = A 1) (a2 : A1 2 = A 2) (a3 : A1 3 = A 3) (a5 : A1 5 = A 5) (a7 : A1 7 = A 7) (a8 : A1 8 = A 8) (a9 : A1 9 = A 9) (a10 : A1 10 = A 10) (a14 : A1 14 = A 14) (a15 : A1 15 = A 15) : sim ((((Z.wA sc2 ia2).sT tn 3).wV V2).sS rTr 2 (Z.sc rTr 2 + 1)) S1 A1 := by
  obtain ⟨g1, g2, g3, g4, g5, g6⟩ := simX_cls (Z' := Z.wA sc2 ia2) hX hu rfl rfl rfl rfl rfl
  have e8 := hX.1.2.2.2.1
  have z := g1.end (x := 3) t1 t2
  refine ⟨bg, ln, rs, MD, SC, CL, PI, ⟨?_, g1.2.1, ?_, ?_, ?_, z.2⟩, g2.of rfl rfl rfl d0 d1 a7, g3.of (fun _ => rfl) (fun _ => ?_) (fun _ => rfl) rfl a1 a2 a3, g4.brk hV2 (fun _ => rfl) a4 a5, g5.of (fun i => ?_) (fun _ => rfl) rfl a8 a9 a10, g6.of ?_ rfl (fun _ _ => rfl) rfl d25 a14 a15⟩
  · exact g1.1
  · rw [c7]; exact g1.2.2.1
  · rw [c8, e8]; exact (zs_eq (Z := ((Z.wA sc2 ia2).sT tn 3).wV V2)).symm
  · intro t; rw [a6]; exact z.1 t
  · exact zs_ne (Z := ((Z.wA sc2 ia2).sT tn 3).wV V2) (fun z => absurd (congrArg Prod.fst z) (show (14 : Nat) ≠ 2 by decide))
  · exact zs_ne (Z := ((Z.wA sc2 ia2).sT tn 3).wV V2) (fun z => absurd (congrArg Prod.fst z) (show (7 : Nat) ≠ 2 by decide))
  · exact zs_ne (Z := ((Z.wA sc2 ia2).sT tn 3).wV V2) (fun z => absurd (congrArg Prod.fst z) (show (10 : Nat) ≠ 2 by decide))
theorem vNews_at {f g : Nat → Int32} {r c : Nat} (hc : c < 4) : vNews f r g (4 * r + c) = g c := by
  unfold vNews
  rw [if_pos ⟨by omega, by omega⟩, show 4 * r + c - 4 * r = c by omega]
def insP (G : kx_G) (m : Nat) (S : Nat → Int32) (A : Nat → Nat → Int32) (Z : cZ) (tn kn md cl : Nat) (a b c e : Int32) (v : Int32) (h' : kx_H) : Prop := v = nI md ∧ ∃ Z', cOk G m S A h' (Z'.sS (rTab kn) 2 (nI (md + 1))) ∧ zW Z Z' ∧ Z'.V = va_up Z.V (40 * (24 * kn + md) + (tn - 1)) (vWr (Z.V (40 * (24 * kn + md) + (tn - 1))) tn false) ∧ (∀ i, i < 4 → Z'.ia (rVal (40 * (24 * kn + md) + (tn - 1))) i = vNew a b c e cl i) ∧ (∀ v, v ≠ 40 * (24 * kn + md) + (tn - 1) → Z'.ia (rVal v) = Z.ia (rVal v))
theorem stp_insert {t k a b c e : Int32} (hst : l.stackTraces = false) (hZ : cOk G m S A h Z) (hs : sim Z S A) : ∃ mc ms, nCl mc ms ∧ kx_c G l mL_insert 19 mc ms [.ref (Z.ad rV), .int t, .int k, .int a, .int b, .int c, .int e, .ref (m + 19)] h (oQi G l m S A Z mM_insert [.ref m, .int t, .int k, .int a, .int b, .int c, .int e]) := by
  have hs0 := hs
  obtain ⟨bg, ln, rs, MD, SC, CL, PI, hT, hL, hB, hV, hP, hR⟩ := hs
  have hM : ∀ h', mOk G h' m → _ := fun h' hm => cM_insert (l := l) (t := t) (k := k) (a := a) (b := b) (c := c) (e := e) (d := 17) (S := S) (A := A) hst hm hT.2.2.1 hT.2.1 hB.2.2.2.1 hB.2.2.2.2.1 hB.2.2.2.2.2.1 hB.2.2.2.2.2.2.1 hB.2.1 hB.2.2.1 hV.1 hZ.wf.low
  have hx := hZ.is rV rfl
  have hb40 := hT.2.1
  by_cases e1 : cOp Z bg t
  · have e0 := e1
    obtain ⟨tn, t1, t2, rfl, t3⟩ := e1
    by_cases e2 : cTb Z k
    · have e2' := e2
      obtain ⟨kn, hk, rfl, ht⟩ := e2
      obtain ⟨n1, n2, n3, n4, n5, n6, n7⟩ := hB.1 kn hk ht
      have both : mOp A bg (nI tn) ∧ mTb A (nI kn) := ⟨(op_iff hT hZ.wf _).mpr e0, (tb_iff hB _).mpr e2'⟩
      by_cases e3 : MD kn = 24
      · refine ⟨1, 6, ⟨by decide, by decide⟩, kx_cc ?_ (cL_insert_10 (d := 18) (Pq := fun h' => cOk G m S A h' Z) hst hx (cV_insert3 (d := 13) hst hZ hT.1 hT.2.1 t1 t2 t3 hk ht n4 e3))⟩
        rintro o h' ⟨rfl, hz⟩
        refine oQi_t 2 (by decide) (by decide) hz rfl (rQi_of hM ?_)
        rintro h' o2 h2 hw (⟨y, -⟩ | ⟨tn', kn', u1, u2, u3, u4, u5, u6, u7, ⟨-, rfl, rfl⟩ | ⟨y, -⟩ | ⟨y, -⟩⟩)
        · exact absurd both y
        · exact ⟨_, _, _, rfl, rfl, rfl, fun z => absurd z (by decide), sim_S0 hs0⟩
        · have := nI_small (by omega) (by omega) u6
          subst this; omega
        · have := nI_small (by omega) (by omega) u6
          subst this; omega
      · have e3 : MD kn < 24 := by omega
        by_cases e4 : tn < SC kn
        · refine ⟨1, 6, ⟨by decide, by decide⟩, kx_cc ?_ (cL_insert_12 (d := 18) (Pq := fun h' => ∃ V2, cOk G m S A h' (((Z.sT tn 3).wV V2).sS rTr 2 (Z.sc rTr 2 + 1)) ∧ ∀ v, V2 v = vBrk Z.V tn v) hst hx (cV_insert4 (d := 13) hst hZ hB.1 hV.2.1 hT.1 hT.2.1 t1 t2 t3 hk ht n4 e3 n6 n7 e4))⟩
          rintro o h' ⟨rfl, V2, hz, hV2⟩
          refine oQi_t 3 (by decide) (by decide) hz rfl (rQi_of hM ?_)
          rintro h' o2 h2 hw (⟨y, -⟩ | ⟨tn', kn', u1, u2, u3, u4, u5, u6, u7, ⟨y, -⟩ | ⟨-, -, rfl, rfl⟩ | ⟨-, y, -⟩⟩)
          · exact absurd both y
          · have := nI_small (by omega) (by omega) u6
            subst this; omega
          · have := nI_small (by omega) (by omega) u3
            subst this
            refine ⟨_, _, _, rfl, rfl, rfl, fun z => absurd z (by decide), ?_⟩
            exact sim_late (sc2 := Z.sc) (ia2 := Z.ia) ⟨hT, hL, hB, hV, hP, hR⟩ t1 t2 ⟨fun _ _ _ => rfl, fun _ => rfl, fun _ _ _ _ _ => rfl⟩ hV2 rfl rfl rfl rfl rfl rfl rfl rfl rfl rfl rfl rfl rfl rfl rfl rfl rfl
          · have := nI_small (by omega) (by omega) u6
            subst this
            have := nI_small (by omega) (by omega) u3
            subst this
            exact absurd e4 y
        · have hC : kx_c G l mV_insert 18 3 12 [.ref (Z.ad rV), .int (nI tn), .int (nI kn), .int a, .int b, .int c, .int e] h (fun o h' => ∃ v : Int32, o = .returned (some (.int v)) ∧ insP G m S A Z tn kn (MD kn) (CL kn) a b c e v h') := kx_cc (fun o h' hq => ⟨nI (MD kn), hq.1, rfl, hq.2⟩) (cV_insert0 (d := 13) hst hZ hT.1 hT.2.1 t1 t2 t3 hk ht n4 e3 n6 n7 e4 n1 n2 n3)
          refine ⟨3, 12, ⟨by decide, by decide⟩, kx_cc ?_ (cL_insert_r (d := 18) (a := m + 19) (Pq := insP G m S A Z tn kn (MD kn) (CL kn) a b c e) (fun v h1 hp => by obtain ⟨-, Z', hz, -⟩ := hp; exact a19 hz) hst hx hC)⟩
          rintro o h' ⟨v, h1, f, rfl, ⟨rfl, Z', hz, hZW, hV1, hI1, hI2⟩, hf, rfl⟩
          obtain ⟨w1, w2, w3, w4, w5, w6, w7⟩ := hZW
          refine oQi_r hz (w1 0 0 (by decide) (by decide)) (rQi_of hM ?_)
          rintro h' o2 h2 hw (⟨y, -⟩ | ⟨tn', kn', u1, u2, u3, u4, u5, u6, u7, ⟨y, -⟩ | ⟨-, y, -⟩ | ⟨-, -, rfl, rfl⟩⟩)
          · exact absurd both y
          · have := nI_small (by omega) (by omega) u6
            subst this; omega
          · have := nI_small (by omega) (by omega) u6
            subst this
            have := nI_small (by omega) (by omega) u3
            subst this
            exact absurd y e4
          · have := nI_small (by omega) (by omega) u6
            subst this
            have := nI_small (by omega) (by omega) u3
            subst this
            have ev : 40 * (24 * kn + MD kn) + tn - 1 = 40 * (24 * kn + MD kn) + (tn - 1) := by omega
            rw [ev]
            generalize hvv : 40 * (24 * kn + MD kn) + (tn - 1) = vv at *
            have q1 : vv / 40 % 24 = MD kn := by omega
            have q2 : vv / 960 = kn := by omega
            have q3 : vv % 40 + 1 = tn := by omega
            have hne0 : ¬ vWr (Z.V vv) tn false = 0 := by unfold vWr; omega
            have fs : fS Z (Z'.sS (rTab kn) 2 (nI (MD kn + 1))) := ⟨fun t i a1 a2 a3 => by rw [zs_neF (fun z => a3 (congrArg Prod.fst z)), w2], fun i => by rw [zs_ne (fun z => absurd (congrArg Prod.fst z) (show (7 : Nat) ≠ 14 by decide)), w2], fun t i _ _ _ _ a5 => w3 t i a5, w5, w4⟩
            refine ⟨_, _, _, rfl, rfl, rfl, fun _ => rfl, bg, ln, rs, va_up MD kn (MD kn + 1), SC, CL, PI, fs.T hT w6 rfl rfl rfl, fs.L hL rfl rfl rfl, ⟨fun j hj hjt => ?_, hB.2.1, hB.2.2.1, fun j => ?_, fun j => ?_, hB.2.2.2.2.2.1, hB.2.2.2.2.2.2.1, fun j hj => ?_⟩, ⟨fun v => ?_, fun v hv => ?_, fun v hv => ?_, fun v hv hg c2 hc => ?_⟩, fs.P hP rfl rfl rfl, hR.of ?_ (w3 11 _ (by decide)) (fun i _ => w3 13 _ (by decide)) w7 rfl rfl rfl⟩
            · rw [show (Z'.sS (rTab kn) 2 (nI (MD kn + 1))).tb j = Z.tb j from congrFun w4 j] at hjt
              have o := hB.1 j hj hjt
              rw [zs_nj (show (0 : Nat) ≠ 2 by decide), zs_nj (show (3 : Nat) ≠ 2 by decide), w2]
              by_cases ej : j = kn
              · rw [ej, zs_eq, va_up_self]
                rw [ej] at o
                exact ⟨o.1, o.2.1, o.2.2.1, rfl, by omega, o.2.2.2.2.2⟩
              · rw [zs_ne (fun z => ej (congrArg Prod.snd z)), va_up_ne _ _ ej, w2]
                exact o
            · show va_up (A 2) kn (nI (MD kn + 1)) j = nI (va_up MD kn (MD kn + 1) j)
              by_cases ej : j = kn
              · rw [ej, va_up_self, va_up_self]
              · rw [va_up_ne _ _ ej, va_up_ne _ _ ej]; exact hB.2.2.2.1 j
            · by_cases ej : j = kn
              · rw [ej, va_up_self]; omega
              · rw [va_up_ne _ _ ej]; exact hB.2.2.2.2.1 j
            · rw [show (Z'.sS (rTab kn) 2 (nI (MD kn + 1))).tb j = Z.tb j from congrFun w4 j]
              refine ⟨(hB.2.2.2.2.2.2.2 j hj).1, fun z => ?_⟩
              have ej : j ≠ kn := fun y => by rw [y, ht] at z; exact absurd z (by decide)
              rw [va_up_ne _ _ ej]
              exact (hB.2.2.2.2.2.2.2 j hj).2 z
            · show va_up (A 4) vv (nI (vWr (Z.V vv) tn false)) v = nI (Z'.V v)
              rw [hV1]
              by_cases ej : v = vv
              · rw [ej, va_up_self, va_up_self]
              · rw [va_up_ne _ _ ej, va_up_ne _ _ ej]; exact hV.1 v
            · have hv2 : ¬ Z'.V v = 0 := hv
              by_cases ej : v = vv
              · rw [ej, q1, q2, va_up_self]; omega
              · rw [hV1, va_up_ne _ _ ej] at hv2
                have := hV.2.1 v hv2
                by_cases ek : v / 960 = kn
                · rw [ek, va_up_self]; rw [ek] at this; omega
                · rw [va_up_ne _ _ ek]; exact this
            · have hv2 : ¬ Z'.V v = 0 := hv
              by_cases ej : v = vv
              · rw [ej, q3]; exact t2
              · rw [hV1, va_up_ne _ _ ej] at hv2
                exact hV.2.2.1 v hv2
            · have hv2 : ¬ Z'.V v = 0 := hv
              have hg2 : Z'.V v / 2 % 2 = 0 := hg
              show vVal (A 5) (vNews (A 17) (MD kn) (vNew a b c e (CL kn))) vv (MD kn) false 4 (4 * v + c2) = Z'.ia (rVal v) c2
              unfold vVal
              by_cases ej : v = vv
              · rw [ej, if_pos ⟨by omega, by omega⟩, hI1 c2 hc, show 4 * vv + c2 - 4 * vv = c2 by omega]
                exact vNews_at hc
              · rw [hI2 v ej, if_neg (by omega)]
                rw [hV1, va_up_ne _ _ ej] at hv2 hg2
                exact hV.2.2.2 v hv2 hg2 c2 hc
            · rw [zs_ne (fun z => absurd (congrArg Prod.fst z) (show (10 : Nat) ≠ 14 by decide)), w2]
    · refine ⟨1, 6, ⟨by decide, by decide⟩, kx_cc ?_ (cL_insert_11 (d := 18) (Pq := fun h' => cOk G m S A h' Z) hst hx (cV_insert2 (d := 13) hst hZ hT.1 hT.2.1 t1 t2 t3 e2))⟩
      rintro o h' ⟨rfl, hz⟩
      refine oQi_t 1 (by decide) (by decide) hz rfl (rQi_of hM ?_)
      rintro h' o2 h2 hw (⟨-, rfl, rfl⟩ | ⟨tn', kn', u1, u2, u3, u4, u5, u6, u7, -⟩)
      · exact ⟨_, _, _, rfl, rfl, rfl, fun z => absurd z (by decide), sim_S0 hs0⟩
      · exact absurd ((tb_iff hB _).mp ⟨kn', u5, u6, u7⟩) e2
  · refine ⟨1, 6, ⟨by decide, by decide⟩, kx_cc ?_ (cL_insert_11 (d := 18) (Pq := fun h' => cOk G m S A h' Z) hst hx (cV_insert1 (d := 13) hst hZ hT.1 hT.2.1 e1))⟩
    rintro o h' ⟨rfl, hz⟩
    refine oQi_t 1 (by decide) (by decide) hz rfl (rQi_of hM ?_)
    rintro h' o2 h2 hw (⟨-, rfl, rfl⟩ | ⟨tn', kn', u1, u2, u3, u4, u5, -⟩)
    · exact ⟨_, _, _, rfl, rfl, rfl, fun z => absurd z (by decide), sim_S0 hs0⟩
    · exact absurd ((op_iff hT hZ.wf _).mp ⟨tn', u1, u2, u3, u4⟩) e1
end KS3
