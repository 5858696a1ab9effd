/-! ===== programs worked out ===== -/
def lB (n : Nat) : List Int32 → Option (List Int32)
  | y :: x :: s => if dvZ n y = true then none else some (dvO n x y :: s)
  | _ => none
def lNg : List Int32 → Option (List Int32)
  | x :: s => some ((1 - x) :: s)
  | [] => none
def lS (vals : Nat → Int32) (i : Int32) (s : List Int32) : Option (List Int32) :=
  if i < -4 then (if i = -133 then lNg s else lB (-100 - i).toNatClampNeg s) else some ((if 0 ≤ i then i else vals (-1 - i).toNatClampNeg) :: s)
def lE (vals : Nat → Int32) : List Int32 → List Int32 → Option (List Int32)
  | [], s => some s
  | i :: es, s => (lS vals i s).bind (lE vals es)
/-- values of their kinds -/
def tyV : List Bool → List Int32 → Prop
  | [], [] => True
  | b :: t, x :: s => (b = true → x = 0 ∨ x = 1) ∧ tyV t s
  | _, _ => False
theorem tyV_len : ∀ {t : List Bool} {s : List Int32}, tyV t s → t.length = s.length
  | [], [], _ => rfl
  | b :: t, x :: s, h => by simp only [List.length_cons]; rw [tyV_len h.2]
  | [], x :: s, h => h.elim
  | b :: t, [], h => h.elim
theorem tyV_two {y x : Bool} {t : List Bool} {s : List Int32} (h : tyV (y :: x :: t) s) : ∃ v w s', s = v :: w :: s' ∧ (y = true → v = 0 ∨ v = 1) ∧ (x = true → w = 0 ∨ w = 1) ∧ tyV t s' := by
  match s, h with
  | [], h => exact h.elim
  | [v], h => exact h.2.elim
  | v :: w :: s', h => exact ⟨v, w, s', rfl, h.1, h.2.1, h.2.2⟩
theorem tyV_one {y : Bool} {t : List Bool} {s : List Int32} (h : tyV (y :: t) s) : ∃ v s', s = v :: s' ∧ (y = true → v = 0 ∨ v = 1) ∧ tyV t s' := by
  match s, h with
  | [], h => exact h.elim
  | v :: s', h => exact ⟨v, s', rfl, h.1, h.2⟩
theorem k_ss (a c : Int32) : a - (a - c) = c := by
  rw [Int32.sub_eq_add_neg, Int32.neg_sub, Int32.add_comm, Int32.sub_add_cancel]
/-- what an item with its kind can be -/
def itT (i : Int32) (t u : List Bool) : Prop := (∃ v, v < 10000 ∧ i = nI v ∧ u = false :: t) ∨ (∃ c, c < 4 ∧ i = -1 - nI c ∧ u = false :: t) ∨ (∃ t0, i = -133 ∧ t = true :: t0 ∧ u = true :: t0) ∨ (∃ c t0, isAri c = true ∧ i = -100 - c ∧ t = false :: false :: t0 ∧ u = false :: t0) ∨ (∃ c t0, isCmp c = true ∧ i = -100 - c ∧ t = false :: false :: t0 ∧ u = true :: t0) ∨ (∃ c t0, isJn c = true ∧ i = -100 - c ∧ t = true :: true :: t0 ∧ u = true :: t0)
theorem itT.num {v : Nat} {t : List Bool} (h : v < 10000) : itT (nI v) t (false :: t) := Or.inl ⟨v, h, rfl, rfl⟩
theorem itT.col {c : Nat} {t : List Bool} (h : c < 4) : itT (-1 - nI c) t (false :: t) := Or.inr (Or.inl ⟨c, h, rfl, rfl⟩)
theorem itT.neg {t : List Bool} : itT (-133) (true :: t) (true :: t) := Or.inr (Or.inr (Or.inl ⟨t, rfl, rfl, rfl⟩))
theorem itT.ari {c : Int32} {t : List Bool} (h : isAri c = true) : itT (-100 - c) (false :: false :: t) (false :: t) := Or.inr (Or.inr (Or.inr (Or.inl ⟨c, t, h, rfl, rfl, rfl⟩)))
theorem itT.cmp {c : Int32} {t : List Bool} (h : isCmp c = true) : itT (-100 - c) (false :: false :: t) (true :: t) := Or.inr (Or.inr (Or.inr (Or.inr (Or.inl ⟨c, t, h, rfl, rfl, rfl⟩))))
theorem itT.jn {c : Int32} {t : List Bool} (h : isJn c = true) : itT (-100 - c) (true :: true :: t) (true :: t) := Or.inr (Or.inr (Or.inr (Or.inr (Or.inr ⟨c, t, h, rfl, rfl, rfl⟩))))
theorem itT_of {i : Int32} {t u : List Bool} (h : tyS i t = some u) : itT i t u := by
  unfold tyS at h
  by_cases e1 : i < -4
  · rw [if_pos e1] at h
    by_cases e2 : i = -133
    · rw [if_pos e2] at h
      match t, h with
      | true :: t, h => injection h with h; rw [← h, e2]; exact itT.neg
      | false :: t, h => cases h
      | [], h => cases h
    · rw [if_neg e2] at h
      have hc : i = -100 - (-100 - i) := (k_ss _ _).symm
      rcases t with _ | ⟨y, _ | ⟨x, t⟩⟩
      · cases h
      · cases h
      · simp only at h
        by_cases e3 : isAri (-100 - i) = true ∧ x = false ∧ y = false
        · simp only [if_pos e3] at h
          injection h with h
          obtain ⟨a1, rfl, rfl⟩ := e3
          rw [← h, hc]
          exact itT.ari a1
        · simp only [if_neg e3] at h
          by_cases e4 : isCmp (-100 - i) = true ∧ x = false ∧ y = false
          · simp only [if_pos e4] at h
            injection h with h
            obtain ⟨a1, rfl, rfl⟩ := e4
            rw [← h, hc]
            exact itT.cmp a1
          · simp only [if_neg e4] at h
            by_cases e5 : isJn (-100 - i) = true ∧ x = true ∧ y = true
            · simp only [if_pos e5] at h
              injection h with h
              obtain ⟨a1, rfl, rfl⟩ := e5
              rw [← h, hc]
              exact itT.jn a1
            · simp only [if_neg e5] at h; cases h
  · rw [if_neg e1] at h
    by_cases e2 : i.toInt < 10000 ∨ (i = -1 ∨ i = -2 ∨ i = -3 ∨ i = -4)
    · rw [if_pos e2] at h
      injection h with h
      rw [← h]
      rw [kI_lt] at e1
      have y4 : (-4 : Int32).toInt = -4 := rfl
      by_cases e3 : 0 ≤ i.toInt
      · obtain ⟨v, hv, h1, h2⟩ := kI_nat e3
        have : v < 10000 := by
          rcases e2 with z | z | z | z | z
          · omega
          · rw [z] at e3; exact absurd e3 (by decide)
          · rw [z] at e3; exact absurd e3 (by decide)
          · rw [z] at e3; exact absurd e3 (by decide)
          · rw [z] at e3; exact absurd e3 (by decide)
        rw [hv]; exact itT.num this
      · have hcs : i.toInt = -1 ∨ i.toInt = -2 ∨ i.toInt = -3 ∨ i.toInt = -4 := by omega
        rcases hcs with z | z | z | z
        · rw [show i = -1 - nI 0 from Int32.toInt_inj.mp (by rw [z]; rfl)]; exact itT.col (by decide)
        · rw [show i = -1 - nI 1 from Int32.toInt_inj.mp (by rw [z]; rfl)]; exact itT.col (by decide)
        · rw [show i = -1 - nI 2 from Int32.toInt_inj.mp (by rw [z]; rfl)]; exact itT.col (by decide)
        · rw [show i = -1 - nI 3 from Int32.toInt_inj.mp (by rw [z]; rfl)]; exact itT.col (by decide)
    · rw [if_neg e2] at h; cases h
theorem itT_K {i : Int32} {t u : List Bool} (h : itT i t u) : itK i t.length := by
  rcases h with ⟨v, h, rfl, rfl⟩ | ⟨c, h, rfl, rfl⟩ | ⟨t0, rfl, rfl, rfl⟩ | ⟨c, t0, h, rfl, rfl, rfl⟩ | ⟨c, t0, h, rfl, rfl, rfl⟩ | ⟨c, t0, h, rfl, rfl, rfl⟩
  · exact Or.inl ⟨_, h, rfl⟩
  · skip
    refine Or.inr (Or.inl ?_)
    have : c = 0 ∨ c = 1 ∨ c = 2 ∨ c = 3 := by omega
    rcases this with z | z | z | z
    · exact Or.inl (by rw [z]; rfl)
    · exact Or.inr (Or.inl (by rw [z]; rfl))
    · exact Or.inr (Or.inr (Or.inl (by rw [z]; rfl)))
    · exact Or.inr (Or.inr (Or.inr (by rw [z]; rfl)))
  · exact Or.inr (Or.inr (Or.inl ⟨rfl, by simp⟩))
  · skip
    refine Or.inr (Or.inr (Or.inr ⟨?_, by simp⟩))
    rcases isAri_cs h with z | z | z | z <;> (rw [z]; decide)
  · skip
    refine Or.inr (Or.inr (Or.inr ⟨?_, by simp⟩))
    rcases isCmp_cs h with z | z | z | z <;> (rw [z]; decide)
  · skip
    refine Or.inr (Or.inr (Or.inr ⟨?_, by simp⟩))
    rcases isJn_cs h with z | z <;> (rw [z]; decide)
theorem col_n4 {c : Nat} (h : c < 4) : ¬ (-1 - nI c) < (-4 : Int32) := by
  have : c = 0 ∨ c = 1 ∨ c = 2 ∨ c = 3 := by omega
  rcases this with z | z | z | z <;> (rw [z]; decide)
theorem itT_dp {i : Int32} {t u : List Bool} (h : itT i t u) : u.length = if i < -4 then (if i = -133 then t.length else t.length - 1) else t.length + 1 := by
  rcases h with ⟨v, h, rfl, rfl⟩ | ⟨c, h, rfl, rfl⟩ | ⟨t0, rfl, rfl, rfl⟩ | ⟨c, t0, h, rfl, rfl, rfl⟩ | ⟨c, t0, h, rfl, rfl, rfl⟩ | ⟨c, t0, h, rfl, rfl, rfl⟩
  · rw [if_neg (nI_n4 h)]; rfl
  · rw [if_neg (col_n4 h)]; rfl
  · rfl
  · rcases isAri_cs h with z | z | z | z <;> (rw [z]; rfl)
  · rcases isCmp_cs h with z | z | z | z <;> (rw [z]; rfl)
  · rcases isJn_cs h with z | z <;> (rw [z]; rfl)
theorem wf_go {P : Nat → Int32} : ∀ {es : List Int32} {t u : List Bool} {k : Nat}, tyL es t = some u → atL P k es → t.length = dpt P k → ∀ j, j < es.length → itK (P (k + j)) (dpt P (k + j))
  | [], t, u, k, h, ha, hd, j, hj => by simp at hj
  | i :: es, t, u, k, h, ha, hd, j, hj => by
    simp only [tyL] at h
    cases hs : tyS i t with
    | none => rw [hs] at h; cases h
    | some t1 =>
      rw [hs, Option.bind_some] at h
      have hi := itT_of hs
      have hp : P k = i := ha 0 i rfl
      cases j with
      | zero => rw [Nat.add_zero, hp, ← hd]; exact itT_K hi
      | succ j =>
        have ha2 : atL P (k + 1) es := fun q x hq => by
          have := ha (q + 1) x (by simpa using hq)
          rw [show k + 1 + q = k + (q + 1) by omega]; exact this
        have := wf_go h ha2 (by simp only [dpt]; rw [hp, ← hd]; exact itT_dp hi) j (by simp only [List.length_cons] at hj; omega)
        rw [show k + (j + 1) = k + 1 + j by omega]
        exact this
theorem wf_of {P : Nat → Int32} {es : List Int32} {u : List Bool} (h : tyL es [] = some u) (hl : es.length ≤ 44) (ha : atL P 0 es) : wfP P es.length := ⟨hl, fun k hk => by
  have := wf_go h ha rfl k hk
  rw [Nat.zero_add] at this
  exact this⟩
theorem okC_wf {P : Nat → Int32} {es : List Int32} (h : okC es) (ha : atL P 0 es) : wfP P es.length := by
  rcases h.2 with z | z
  · rw [z]; exact ⟨by simp, fun k hk => by simp at hk⟩
  · exact wf_of z (by have := h.1; omega) ha
theorem okS_wf {P : Nat → Int32} {es : List Int32} (h : okS es) (ha : atL P 0 es) : wfP P es.length := wf_of h.2 (by have := h.1; omega) ha
theorem dvO_ty {c : Int32} {x y : Int32} (h : isCmp c = true) : dvO c.toNatClampNeg x y = 0 ∨ dvO c.toNatClampNeg x y = 1 := by
  rcases isCmp_cs h with z | z | z | z
  · rw [z]; show (if x = y then (1 : Int32) else 0) = 0 ∨ (if x = y then (1 : Int32) else 0) = 1; split <;> simp
  · rw [z]; show (if x = y then (0 : Int32) else 1) = 0 ∨ (if x = y then (0 : Int32) else 1) = 1; split <;> simp
  · rw [z]; show (if x < y then (1 : Int32) else 0) = 0 ∨ (if x < y then (1 : Int32) else 0) = 1; split <;> simp
  · rw [z]; show (if y < x then (1 : Int32) else 0) = 0 ∨ (if y < x then (1 : Int32) else 0) = 1; split <;> simp
theorem dvO_tj {c : Int32} {x y : Int32} (h : isJn c = true) (hx : x = 0 ∨ x = 1) (hy : y = 0 ∨ y = 1) : dvO c.toNatClampNeg x y = 0 ∨ dvO c.toNatClampNeg x y = 1 := by
  rcases isJn_cs h with z | z <;> rcases hx with hx | hx <;> rcases hy with hy | hy <;> (rw [z, hx, hy]; decide)
/-- an item's step keeps the kinds -/
theorem lS_ty {vals : Nat → Int32} {i : Int32} {t u : List Bool} {s s' : List Int32} (h : itT i t u) (hv : tyV t s) (hs : lS vals i s = some s') : tyV u s' := by
  have hc : ∀ c : Int32, -100 - (-100 - c) = c := fun c => k_ss _ c
  have sg : ∀ {c : Int32}, ((-100 - c) < -4) → ¬ (-100 - c) = -133 → lS vals (-100 - c) s = lB c.toNatClampNeg s := by
    intro c h1 h2
    unfold lS
    rw [if_pos h1, if_neg h2]
    rw [hc]
  rcases h with ⟨v, h, rfl, rfl⟩ | ⟨c, h, rfl, rfl⟩ | ⟨t0, rfl, rfl, rfl⟩ | ⟨c, t0, h, rfl, rfl, rfl⟩ | ⟨c, t0, h, rfl, rfl, rfl⟩ | ⟨c, t0, h, rfl, rfl, rfl⟩
  · skip
    unfold lS at hs
    rw [if_neg (nI_n4 h)] at hs
    injection hs with hs
    rw [← hs]
    exact ⟨fun z => (by cases z), hv⟩
  · skip
    unfold lS at hs
    rw [if_neg (col_n4 h)] at hs
    injection hs with hs
    rw [← hs]
    exact ⟨fun z => (by cases z), hv⟩
  · skip
    obtain ⟨v, s0, rfl, h1, h2⟩ := tyV_one hv
    unfold lS at hs
    rw [if_pos (by decide), if_pos rfl] at hs
    injection hs with hs
    rw [← hs]
    refine ⟨fun _ => ?_, h2⟩
    rcases h1 rfl with z | z <;> (rw [z]; decide)
  · skip
    obtain ⟨v, w, s0, rfl, h1, h2, h3⟩ := tyV_two hv
    rw [sg (by rcases isAri_cs h with z | z | z | z <;> (rw [z]; decide)) (by rcases isAri_cs h with z | z | z | z <;> (rw [z]; decide))] at hs
    simp only [lB] at hs
    split at hs
    · cases hs
    · injection hs with hs
      rw [← hs]
      exact ⟨fun z => (by cases z), h3⟩
  · skip
    obtain ⟨v, w, s0, rfl, h1, h2, h3⟩ := tyV_two hv
    rw [sg (by rcases isCmp_cs h with z | z | z | z <;> (rw [z]; decide)) (by rcases isCmp_cs h with z | z | z | z <;> (rw [z]; decide))] at hs
    simp only [lB] at hs
    split at hs
    · cases hs
    · injection hs with hs
      rw [← hs]
      exact ⟨fun _ => dvO_ty h, h3⟩
  · skip
    obtain ⟨v, w, s0, rfl, h1, h2, h3⟩ := tyV_two hv
    rw [sg (by rcases isJn_cs h with z | z <;> (rw [z]; decide)) (by rcases isJn_cs h with z | z <;> (rw [z]; decide))] at hs
    simp only [lB] at hs
    split at hs
    · cases hs
    · injection hs with hs
      rw [← hs]
      exact ⟨fun _ => dvO_tj h (h2 rfl) (h1 rfl), h3⟩
/-- the reference's step and the list's -/
theorem eS_lS {vals : Nat → Int32} {i : Int32} {t u : List Bool} {s : List Int32} {F : Nat → Int32} (h : itT i t u) (hl : t.length = s.length) (hs : stk F s) : (∀ s', lS vals i s = some s' → ∃ F', eS vals i (s.length, F, false) = (s'.length, F', false) ∧ stk F' s' ∧ u.length = s'.length) ∧ (lS vals i s = none → (eS vals i (s.length, F, false)).2.2 = true) := by
  unfold lS eS
  have hk := itT_K h
  by_cases e1 : i < -4
  · rw [if_pos e1, if_pos e1]
    by_cases e2 : i = -133
    · rw [if_pos e2, if_pos e2]
      have ht : 1 ≤ t.length := by
        rcases hk with ⟨v, hv, z⟩ | z | ⟨-, z⟩ | ⟨z, -⟩
        · rw [z] at e1; exact absurd e1 (nI_n4 hv)
        · rcases z with z | z | z | z <;> (rw [z] at e2; exact absurd e2 (by decide))
        · exact z
        · rw [e2] at z; exact absurd z (by decide)
      match s, hl, hs with
      | [], hl, _ => simp only [List.length_nil] at hl; omega
      | x :: s, hl, hs =>
        refine ⟨fun s' hs' => ?_, fun z => by cases z⟩
        simp only [lNg] at hs'
        injection hs' with hs'
        refine ⟨va_up F s.length (1 - x), ?_, ?_, ?_⟩
        · rw [← hs']
          simp only [List.length_cons, Nat.add_sub_cancel]
          rw [hs.1]
        · rw [← hs']; exact stk_push hs.2
        · have := itT_dp h
          rw [if_pos e1, if_pos e2] at this
          rw [this, ← hs', hl]; rfl
    · rw [if_neg e2, if_neg e2]
      have ht : 2 ≤ t.length := by
        rcases hk with ⟨v, hv, z⟩ | z | ⟨z, -⟩ | ⟨-, z⟩
        · rw [z] at e1; exact absurd e1 (nI_n4 hv)
        · rcases z with z | z | z | z <;> (rw [z] at e1; exact absurd e1 (by decide))
        · exact absurd z e2
        · exact z
      match s, hl, hs with
      | [], hl, _ => simp only [List.length_nil] at hl; omega
      | [x], hl, _ => simp only [List.length_cons, List.length_nil] at hl; omega
      | y :: x :: s, hl, hs =>
        have hy : F (s.length + 1) = y := hs.1
        have hx : F s.length = x := hs.2.1
        simp only [List.length_cons, Nat.add_sub_cancel, Bool.false_or, lB]
        rw [hx, hy]
        by_cases e3 : dvZ (-100 - i).toNatClampNeg y = true
        · rw [if_pos e3]
          exact ⟨fun s' z => (by cases z), fun _ => e3⟩
        · rw [if_neg e3]
          refine ⟨fun s' hs' => ?_, fun z => by cases z⟩
          injection hs' with hs'
          refine ⟨va_up F s.length (dvO (-100 - i).toNatClampNeg x y), ?_, ?_, ?_⟩
          · rw [← hs', kB_f e3]; rfl
          · rw [← hs']; exact stk_push hs.2.2
          · have := itT_dp h
            rw [if_pos e1, if_neg e2] at this
            rw [this, ← hs', hl]; rfl
  · rw [if_neg e1, if_neg e1]
    refine ⟨fun s' hs' => ?_, fun z => by cases z⟩
    injection hs' with hs'
    refine ⟨va_up F s.length (if 0 ≤ i then i else vals (-1 - i).toNatClampNeg), ?_, ?_, ?_⟩
    · rw [← hs']; rfl
    · rw [← hs']; exact stk_push hs
    · have := itT_dp h
      rw [if_neg e1] at this
      rw [this, ← hs', hl]; rfl
theorem eS_dv {vals : Nat → Int32} {i : Int32} {q : Nat × (Nat → Int32) × Bool} (h : q.2.2 = true) : (eS vals i q).2.2 = true := by
  unfold eS
  split
  · split
    · exact h
    · simp only [h, Bool.true_or]
  · exact h
theorem eR_dv1 {vals P : Nat → Int32} {q0 : Nat × (Nat → Int32) × Bool} {k : Nat} (h : (eR vals P q0 k).2.2 = true) : ∀ n, (eR vals P q0 (k + n)).2.2 = true
  | 0 => h
  | n + 1 => eS_dv (eR_dv1 h n)
theorem eR_lE {vals P : Nat → Int32} {q0 : Nat × (Nat → Int32) × Bool} : ∀ {es : List Int32} {t u : List Bool} {k : Nat} {s : List Int32} {F : Nat → Int32}, tyL es t = some u → atL P k es → t.length = s.length → stk F s → eR vals P q0 k = (s.length, F, false) → (∀ s', lE vals es s = some s' → ∃ F', eR vals P q0 (k + es.length) = (s'.length, F', false) ∧ stk F' s' ∧ u.length = s'.length) ∧ (lE vals es s = none → (eR vals P q0 (k + es.length)).2.2 = true)
  | [], t, u, k, s, F, h, ha, hl, hs, hq => by
    refine ⟨fun s' hs' => ?_, fun z => by cases z⟩
    simp only [lE] at hs'
    injection hs' with hs'
    injection h with h
    exact ⟨F, by rw [← hs']; exact hq, by rw [← hs']; exact hs, by rw [← h, ← hs']; exact hl⟩
  | i :: es, t, u, k, s, F, h, ha, hl, hs, hq => by
    simp only [tyL] at h
    cases hts : tyS i t with
    | none => rw [hts] at h; cases h
    | some t1 =>
      rw [hts, Option.bind_some] at h
      have hi := itT_of hts
      have hp : P k = i := ha 0 i rfl
      have ha2 : atL P (k + 1) es := fun q x hq => by
        have := ha (q + 1) x (by simpa using hq)
        rw [show k + 1 + q = k + (q + 1) by omega]; exact this
      have hst : eR vals P q0 (k + 1) = eS vals i (s.length, F, false) := by simp only [eR]; rw [hp, hq]
      obtain ⟨g1, g2⟩ := eS_lS (vals := vals) hi hl hs
      simp only [lE, List.length_cons]
      rw [show k + (es.length + 1) = k + 1 + es.length by omega]
      cases e : lS vals i s with
      | none =>
        rw [Option.bind_none]
        exact ⟨fun s' z => (by cases z), fun _ => eR_dv1 (by rw [hst]; exact g2 e) _⟩
      | some s1 =>
        rw [Option.bind_some]
        obtain ⟨F1, h1, h2, h3⟩ := g1 s1 e
        exact eR_lE h ha2 h3 h2 (by rw [hst, h1])
/-- a program's answer, by the list -/
def lA (vals : Nat → Int32) (es : List Int32) : Option Int32 := if es = [] then some 1 else (lE vals es []).bind List.head?
theorem evC_lA {vals P : Nat → Int32} {es : List Int32} {b : Bool} (h : es = [] ∨ tyL es [] = some [b]) (ha : atL P 0 es) : (∀ v, lA vals es = some v → evC P es.length vals = (v, false)) ∧ (lA vals es = none → (evC P es.length vals).2 = true) := by
  unfold lA
  by_cases e : es = []
  · rw [if_pos e, e]
    exact ⟨fun v z => by injection z with z; rw [← z]; rfl, fun z => by cases z⟩
  · rw [if_neg e]
    have h : tyL es [] = some [b] := by
      rcases h with z | z
      · exact absurd z e
      · exact z
    obtain ⟨g1, g2⟩ := eR_lE (vals := vals) (P := P) (q0 := (0, va_up (fun _ => 0) 0 1, false)) (k := 0) (s := []) (F := va_up (fun _ => 0) 0 1) h ha rfl trivial rfl
    rw [Nat.zero_add] at g1 g2
    cases e2 : lE vals es [] with
    | none => exact ⟨fun v z => (by cases z), fun _ => g2 e2⟩
    | some s =>
      obtain ⟨F, h1, h2, h3⟩ := g1 s e2
      match s, h3, h2 with
      | [], h3, _ => cases h3
      | x :: y :: s, h3, _ => simp only [List.length_cons, List.length_nil] at h3; omega
      | [x], _, h2 =>
        refine ⟨fun v z => ?_, fun z => by cases z⟩
        injection z with z
        unfold evC
        rw [h1, ← z]
        exact Prod.ext h2.1 rfl
