/-! ===== numbers of 32 and of 64 bits, where nothing runs over ===== -/
theorem t32_add {a b : Int32} (h1 : -2147483648 ≤ a.toInt + b.toInt) (h2 : a.toInt + b.toInt < 2147483648) : (a + b).toInt = a.toInt + b.toInt := by
  rw [Int32.toInt_add]; exact Int.bmod_eq_of_le (by omega) (by omega)
theorem t32_sub {a b : Int32} (h1 : -2147483648 ≤ a.toInt - b.toInt) (h2 : a.toInt - b.toInt < 2147483648) : (a - b).toInt = a.toInt - b.toInt := by
  rw [Int32.toInt_sub]; exact Int.bmod_eq_of_le (by omega) (by omega)
theorem t32_mul {a b : Int32} (h1 : -2147483648 ≤ a.toInt * b.toInt) (h2 : a.toInt * b.toInt < 2147483648) : (a * b).toInt = a.toInt * b.toInt := by
  rw [Int32.toInt_mul]; exact Int.bmod_eq_of_le (by omega) (by omega)
theorem t64_add {a b : Int64} (h1 : -9223372036854775808 ≤ a.toInt + b.toInt) (h2 : a.toInt + b.toInt < 9223372036854775808) : (a + b).toInt = a.toInt + b.toInt := by
  rw [Int64.toInt_add]; exact Int.bmod_eq_of_le (by omega) (by omega)
theorem t64_sub {a b : Int64} (h1 : -9223372036854775808 ≤ a.toInt - b.toInt) (h2 : a.toInt - b.toInt < 9223372036854775808) : (a - b).toInt = a.toInt - b.toInt := by
  rw [Int64.toInt_sub]; exact Int.bmod_eq_of_le (by omega) (by omega)
theorem t64_mul {a b : Int64} (h1 : -9223372036854775808 ≤ a.toInt * b.toInt) (h2 : a.toInt * b.toInt < 9223372036854775808) : (a * b).toInt = a.toInt * b.toInt := by
  rw [Int64.toInt_mul]; exact Int.bmod_eq_of_le (by omega) (by omega)
theorem kPl_iff {x y : Int32} : kPl x y = true ↔ (0 ≤ x.toInt ∧ x.toInt ≤ 40) ∧ (0 ≤ y.toInt ∧ y.toInt ≤ 40) := by
  have e1 : (0 : Int32).toInt = 0 := rfl
  have e2 : (40 : Int32).toInt = 40 := rfl
  unfold kPl
  rw [Bool.and_eq_true, kIn_iff, kIn_iff, e1, e2]
theorem t32_cl {x : Int32} (h : 0 ≤ x.toInt) : (x.toNatClampNeg : Int) = x.toInt := by
  show ((x.toInt.toNat : Nat) : Int) = x.toInt
  omega
/-! ===== a path goes on ===== -/
def qD (e f : Int) : Prop := (e = 1 ∧ f = 0) ∨ (e = 0 ∧ f = 1) ∨ (e = -1 ∧ f = 0) ∨ (e = 0 ∧ f = -1)
def qE (p : Nat → Int) (n : Nat) (e : Int) : Nat → Int := fun i => if i ≤ n then p i else p n + ((i - n : Nat) : Int) * e
theorem qE_lo {p : Nat → Int} {n : Nat} {e : Int} {i : Nat} (h : i ≤ n) : qE p n e i = p i := if_pos h
theorem qE_hi {p : Nat → Int} {n : Nat} {e : Int} (j : Nat) : qE p n e (n + j) = p n + (j : Int) * e := by
  unfold qE
  by_cases hj : j = 0
  · subst hj
    rw [if_pos (by omega)]
    show p n = p n + ((0 : Nat) : Int) * e
    rw [show ((0 : Nat) : Int) = 0 from rfl, Int.zero_mul, Int.add_zero]
  · rw [if_neg (by omega), Nat.add_sub_cancel_left]
section QE
variable {px py : Nat → Int} {n m : Nat} {e f : Int}
theorem qE_unit (hs : ∀ i, i < n → qU (px i) (py i) (px (i + 1)) (py (i + 1))) (hu : qD e f) : ∀ i, i < n + m → qU (qE px n e i) (qE py n f i) (qE px n e (i + 1)) (qE py n f (i + 1)) := by
  intro i hi
  by_cases h : i < n
  · rw [qE_lo (by omega), qE_lo (by omega), qE_lo (by omega), qE_lo (by omega)]
    exact hs i h
  · obtain ⟨j, rfl⟩ : ∃ j, i = n + j := ⟨i - n, by omega⟩
    rw [qE_hi, qE_hi, show n + j + 1 = n + (j + 1) by omega, qE_hi, qE_hi]
    unfold qU
    rcases hu with ⟨rfl, rfl⟩ | ⟨rfl, rfl⟩ | ⟨rfl, rfl⟩ | ⟨rfl, rfl⟩ <;> omega
theorem qE_ne (hd : ∀ i j, i < j → j ≤ n → ¬ (px i = px j ∧ py i = py j)) (hu : qD e f) (hf : ∀ k i, 1 ≤ k → k ≤ m → i ≤ n → ¬ (px i = px n + (k : Int) * e ∧ py i = py n + (k : Int) * f)) : ∀ i j, i < j → j ≤ n + m → ¬ (qE px n e i = qE px n e j ∧ qE py n f i = qE py n f j) := by
  intro i j hij hj
  by_cases h : j ≤ n
  · rw [qE_lo (p := px) (show i ≤ n by omega), qE_lo (p := py) (show i ≤ n by omega), qE_lo (p := px) h, qE_lo (p := py) h]
    exact hd i j hij h
  · obtain ⟨k, rfl⟩ : ∃ k, j = n + k := ⟨j - n, by omega⟩
    rw [qE_hi, qE_hi]
    by_cases h2 : i ≤ n
    · rw [qE_lo h2, qE_lo h2]
      exact hf k i (by omega) (by omega) h2
    · obtain ⟨k2, rfl⟩ : ∃ k2, i = n + k2 := ⟨i - n, by omega⟩
      rw [qE_hi, qE_hi]
      rcases hu with ⟨rfl, rfl⟩ | ⟨rfl, rfl⟩ | ⟨rfl, rfl⟩ | ⟨rfl, rfl⟩ <;> omega
theorem qE_in (hr : ∀ i, i ≤ n → 0 ≤ px i ∧ px i ≤ 40 ∧ 0 ≤ py i ∧ py i ≤ 40) (h : ∀ k : Nat, 1 ≤ k → k ≤ m → 0 ≤ px n + (k : Int) * e ∧ px n + (k : Int) * e ≤ 40 ∧ 0 ≤ py n + (k : Int) * f ∧ py n + (k : Int) * f ≤ 40) : ∀ i, i ≤ n + m → 0 ≤ qE px n e i ∧ qE px n e i ≤ 40 ∧ 0 ≤ qE py n f i ∧ qE py n f i ≤ 40 := by
  intro i hi
  by_cases h2 : i ≤ n
  · rw [qE_lo h2, qE_lo h2]; exact hr i h2
  · obtain ⟨k, rfl⟩ : ∃ k, i = n + k := ⟨i - n, by omega⟩
    rw [qE_hi, qE_hi]; exact h k (by omega) (by omega)
theorem qS_split (g : Nat → Int) (n : Nat) : ∀ m, qS g (n + m) = qS g n + qS (fun j => g (n + j)) m
  | 0 => by show qS g n = qS g n + 0; omega
  | m + 1 => by
    show qS g (n + m) + g (n + m) = qS g n + (qS (fun j => g (n + j)) m + g (n + m))
    rw [qS_split g n m]; omega
theorem qS_const (v : Int) : ∀ m : Nat, qS (fun _ => v) m = (m : Int) * v
  | 0 => by show (0 : Int) = ((0 : Nat) : Int) * v; rw [show ((0 : Nat) : Int) = 0 from rfl, Int.zero_mul]
  | m + 1 => by
    show qS (fun _ => v) m + v = ((m + 1 : Nat) : Int) * v
    rw [qS_const v m, show ((m + 1 : Nat) : Int) = (m : Int) + 1 from rfl, Int.add_mul, Int.one_mul]
theorem qE_C (hu : qD e f) : qC (qE px n e) (qE py n f) (n + m) = qC px py n + (m : Int) * (px n * f - e * py n) := by
  unfold qC
  rw [qS_split, qS_congr (n := n) (g := fun i => px i * py (i + 1) - px (i + 1) * py i) (fun i hi => by rw [qE_lo (by omega), qE_lo (by omega), qE_lo (by omega), qE_lo (by omega)]), ← qS_const]
  congr 1
  refine qS_congr (fun j _ => ?_)
  rw [qE_hi, qE_hi, show n + j + 1 = n + (j + 1) by omega, qE_hi, qE_hi, show ((j + 1 : Nat) : Int) = (j : Int) + 1 from rfl]
  generalize px n = X
  generalize py n = Y
  generalize (j : Int) = J
  rcases hu with ⟨rfl, rfl⟩ | ⟨rfl, rfl⟩ | ⟨rfl, rfl⟩ | ⟨rfl, rfl⟩ <;> grind
theorem qE_B (hu : qD e f) (c r : Int) : qB (qE px n e) (qE py n f) (n + m) c r ↔ qB px py n c r ∨ (e = 0 ∧ c = px n ∧ ((f = 1 ∧ py n ≤ r ∧ r < py n + m) ∨ (f = -1 ∧ py n - m ≤ r ∧ r < py n))) := by
  constructor
  · rintro ⟨i, hi, h1, h2, h3⟩
    by_cases h : i < n
    · rw [qE_lo (by omega)] at h1 h2
      rw [qE_lo (by omega), qE_lo (by omega)] at h3
      exact Or.inl ⟨i, h, h1, h2, h3⟩
    · obtain ⟨j, rfl⟩ : ∃ j, i = n + j := ⟨i - n, by omega⟩
      rw [qE_hi] at h1
      rw [show n + j + 1 = n + (j + 1) by omega, qE_hi] at h2
      rw [show n + j + 1 = n + (j + 1) by omega, qE_hi, qE_hi] at h3
      right
      rcases hu with ⟨rfl, rfl⟩ | ⟨rfl, rfl⟩ | ⟨rfl, rfl⟩ | ⟨rfl, rfl⟩ <;> omega
  · rintro (⟨i, hi, h1, h2, h3⟩ | ⟨rfl, rfl, h⟩)
    · refine ⟨i, by omega, ?_⟩
      rw [qE_lo (by omega), qE_lo (by omega), qE_lo (by omega), qE_lo (by omega)]
      exact ⟨h1, h2, h3⟩
    · rcases h with ⟨rfl, h1, h2⟩ | ⟨rfl, h1, h2⟩
      · refine ⟨n + (r - py n).toNat, by omega, ?_⟩
        rw [show n + (r - py n).toNat + 1 = n + ((r - py n).toNat + 1) by omega, qE_hi, qE_hi, qE_hi, qE_hi]
        omega
      · refine ⟨n + (py n - 1 - r).toNat, by omega, ?_⟩
        rw [show n + (py n - 1 - r).toNat + 1 = n + ((py n - 1 - r).toNat + 1) by omega, qE_hi, qE_hi, qE_hi, qE_hi]
        omega
theorem qE_at (a b : Int) : (∃ i, i ≤ n + m ∧ qE px n e i = a ∧ qE py n f i = b) ↔ (∃ i, i ≤ n ∧ px i = a ∧ py i = b) ∨ ∃ k : Nat, 1 ≤ k ∧ k ≤ m ∧ px n + (k : Int) * e = a ∧ py n + (k : Int) * f = b := by
  constructor
  · rintro ⟨i, hi, h1, h2⟩
    by_cases h : i ≤ n
    · rw [qE_lo h] at h1 h2
      exact Or.inl ⟨i, h, h1, h2⟩
    · obtain ⟨k, rfl⟩ : ∃ k, i = n + k := ⟨i - n, by omega⟩
      rw [qE_hi] at h1 h2
      exact Or.inr ⟨k, by omega, by omega, h1, h2⟩
  · rintro (⟨i, hi, h1, h2⟩ | ⟨k, hk, hk2, h1, h2⟩)
    · exact ⟨i, by omega, by rw [qE_lo hi]; exact h1, by rw [qE_lo hi]; exact h2⟩
    · exact ⟨n + k, by omega, by rw [qE_hi]; exact h1, by rw [qE_hi]; exact h2⟩
end QE
