/-! ===== numbers, truth values, places ===== -/
abbrev kIa (n : Nat) (f : Nat → Int32) : kx_C := .inl (0, n, .inl f)
abbrev kQa (t n : Nat) (f : Nat → Option Nat) : kx_C := .inl (t, n, .inr (.inr (.inr (.inr f))))
def b01 (b : Bool) : Int32 := if b then 1 else 0
theorem b01_f {b : Bool} (h : b01 b = 0) : b = false := by cases b with | false => rfl | true => exact absurd h (by decide)
theorem b01_t {b : Bool} (h : ¬ b01 b = 0) : b = true := by cases b with | true => rfl | false => exact absurd rfl h
theorem b01_nar (b : Bool) : vp_nar .boolean (b01 b) = b01 b := by cases b <;> rfl
theorem b01_nr (b : Bool) : narrow .boolean (.int (b01 b)) = .int (b01 b) := by cases b <;> rfl
theorem kn_ad {x y : Int32} {a b : Nat} (h1 : x = nI a) (h2 : y = nI b) : x + y = nI (a + b) := by rw [h1, h2]; exact nI_add a b
theorem kn_mu {x y : Int32} {a b : Nat} (h1 : x = nI a) (h2 : y = nI b) : x * y = nI (a * b) := by rw [h1, h2]; exact (Int32.ofNat_mul a b).symm
theorem kn_su {x y : Int32} {a b : Nat} (h1 : x = nI a) (h2 : y = nI b) (h : b ≤ a) : x - y = nI (a - b) := by
  obtain ⟨c, rfl⟩ : ∃ c, a = c + b := ⟨a - b, by omega⟩
  rw [h1, h2, ← nI_add, Nat.add_sub_cancel]
  exact Int32.add_sub_cancel _ _
theorem kn_sa {x y : Int32} {a b : Nat} (h1 : x = nI a) (h2 : y = -nI b) (h : b ≤ a) : x + y = nI (a - b) := by
  rw [← kn_su h1 rfl h, h2, Int32.sub_eq_add_neg]
theorem va_upup {α : Type} (f : Nat → α) (k : Nat) (v w : α) : va_up (va_up f k v) k w = va_up f k w := by
  funext j
  simp only [va_up]
  split <;> rfl
theorem va_upsame {α : Type} (f : Nat → α) (k : Nat) : va_up f k (f k) = f := by
  funext j
  simp only [va_up]
  split
  · rename_i h; rw [h]
  · rfl
theorem kI_lt {x y : Int32} : x < y ↔ x.toInt < y.toInt := Int32.lt_iff_toInt_lt
theorem kI_le {x y : Int32} : x ≤ y ↔ x.toInt ≤ y.toInt := Int32.le_iff_toInt_le
theorem kI_nat {x : Int32} (h : 0 ≤ x.toInt) : ∃ n : Nat, x = nI n ∧ (n : Int) = x.toInt ∧ n < 2147483648 := by
  have h1 := x.toInt_lt
  refine ⟨x.toInt.toNat, Int32.toInt_inj.mp ?_, by omega, by omega⟩
  rw [nI_toInt (by omega)]
  omega
theorem kx_lsub {G : kx_G} {l : Launch} {M : kx_M} {d : Nat} {Q : Outcome → kx_H → Prop} {kc ks pc : Nat} {lv lv' : kx_L} {st : List Value} {h : kx_H} (hs : List.Sublist lv' lv) (k : kx_w G l M d Q kc ks pc lv' st h) : kx_w G l M d Q kc ks pc lv st h := kx_loc (fun _ hq => hs.subset hq) k
