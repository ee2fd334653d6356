/-! ===== rows of bits: 41 places each ===== -/
def kRn (g : Nat → Bool) : Nat → Nat
  | 0 => 0
  | n + 1 => kRn g n + (if g n then 2 ^ n else 0)
theorem kRn_lt (g : Nat → Bool) : ∀ n, kRn g n < 2 ^ n
  | 0 => by show 0 < 1; decide
  | n + 1 => by
    have h := kRn_lt g n
    unfold kRn
    rw [Nat.pow_succ]
    split <;> omega
theorem kRn_bit (g : Nat → Bool) : ∀ n i, (kRn g n).testBit i = (decide (i < n) && g i)
  | 0, i => by simp [kRn]
  | n + 1, i => by
    have h := kRn_lt g n
    have ih := kRn_bit g n i
    unfold kRn
    by_cases hg : g n = true
    · rw [if_pos hg, Nat.add_comm]
      rcases Nat.lt_trichotomy i n with h1 | h1 | h1
      · rw [Nat.testBit_two_pow_add_gt h1, ih, decide_eq_true h1, decide_eq_true (show i < n + 1 by omega)]
      · subst h1
        rw [Nat.testBit_two_pow_add_eq, ih, decide_eq_false (Nat.lt_irrefl _), decide_eq_true (Nat.lt_succ_self _), hg]; rfl
      · rw [decide_eq_false (show ¬ i < n + 1 by omega), Bool.false_and]
        apply Nat.testBit_lt_two_pow
        have : 2 ^ (n + 1) ≤ 2 ^ i := Nat.pow_le_pow_right (by decide) (by omega)
        rw [Nat.pow_succ] at this
        omega
    · rw [if_neg hg, Nat.add_zero, ih]
      rcases Nat.lt_trichotomy i n with h1 | h1 | h1
      · rw [decide_eq_true h1, decide_eq_true (show i < n + 1 by omega)]
      · subst h1
        rw [Bool.not_eq_true] at hg
        rw [hg, Bool.and_false, Bool.and_false]
      · rw [decide_eq_false (show ¬ i < n by omega), decide_eq_false (show ¬ i < n + 1 by omega)]
def kRow (g : Nat → Bool) : Int64 := lN (kRn g 41)
theorem kRow0 : kRow (fun _ => false) = 0 := by decide
theorem kRow_set (g : Nat → Bool) {x : Nat} (hx : x < 41) : kRow g ||| ((1 : Int64) <<< ((nI x).toInt64 &&& 63)) = kRow (va_up g x true) := by
  have h1 := kRn_lt g 41
  have h2 : 2 ^ x < 2 ^ 41 := Nat.pow_lt_pow_right (by decide) hx
  rw [show (1 : Int64) = lN 1 from rfl, wb_shl 1 (by omega), Nat.one_mul]
  unfold kRow
  rw [wb_or (by omega) (by omega)]
  congr 1
  apply Nat.eq_of_testBit_eq
  intro i
  rw [Nat.testBit_or, kRn_bit, kRn_bit, Nat.testBit_two_pow]
  unfold va_up
  by_cases e : i = x
  · subst e
    rw [if_pos rfl, decide_eq_true hx]; simp
  · rw [if_neg e, decide_eq_false (show ¬ x = i by omega), Bool.or_false]
theorem kRow_get (g : Nat → Bool) {x : Nat} (hx : x < 41) : decide (lg_cmp ((kRow g >>> ((nI x).toInt64 &&& 63)) &&& 1) 0 = (0 : Int32)) = !g x := by
  have h1 := kRn_lt g 41
  unfold kRow
  rw [wb_c x (by omega), pf_shr (d := x) (by rw [wb_tb, wb_sm x (by omega)]; simp; omega) (by omega), wb_a1 (Nat.lt_of_le_of_lt (Nat.div_le_self _ _) (by omega))]
  have h2 : kRn g 41 / 2 ^ x % 2 = (g x).toNat := by
    rw [← Nat.toNat_testBit, kRn_bit, decide_eq_true hx, Bool.true_and]
  rw [h2]
  cases g x <;> decide
