theorem kPl_x {x y : Int32} (h : kPl x y = true) : kIn x 0 40 = true := k_andl h
theorem kPl_y {x y : Int32} (h : kPl x y = true) : kIn y 0 40 = true := k_andr h
theorem kIn41 {x : Int32} (h : kIn x 0 40 = true) : vp_in x 41 := by
  obtain ⟨a, ha, rfl⟩ := kIn_ex40 h
  exact vp_in_nI ha (by omega)
theorem kMk (B : Nat → Nat → Bool) (x y : Int32) : (kPl x y && !decide (lg_cmp (((fun i9 => kRow (B i9)) y.toNatClampNeg >>> (x.toInt64 &&& 63)) &&& 1) 0 = (0 : Int32))) = (kPl x y && B y.toNatClampNeg x.toNatClampNeg) := by
  cases h : kPl x y with
  | false => rfl
  | true =>
    obtain ⟨a, ha, rfl⟩ := kIn_ex40 (kPl_x h)
    obtain ⟨b, hb, rfl⟩ := kIn_ex40 (kPl_y h)
    rw [nI_clamp (by omega), nI_clamp (by omega)]
    show (true && !decide (lg_cmp ((kRow (B b) >>> ((nI a).toInt64 &&& 63)) &&& 1) 0 = (0 : Int32))) = _
    rw [kRow_get (B b) ha, Bool.not_not]
theorem kPl_nI {a b : Nat} (ha : a < 41) (hb : b < 41) : kPl (nI a) (nI b) = true := by
  have e1 : (0 : Int32).toInt = 0 := rfl
  have e2 : (40 : Int32).toInt = 40 := rfl
  unfold kPl
  rw [kIn_iff.mpr ⟨by rw [nI_toInt (by omega)]; omega, by rw [nI_toInt (by omega)]; omega⟩, kIn_iff.mpr ⟨by rw [nI_toInt (by omega)]; omega, by rw [nI_toInt (by omega)]; omega⟩]
  rfl
def kFr (BO : Nat → Nat → Bool) (x y : Int32) : Bool := kPl x y && !(kPl x y && BO y.toNatClampNeg x.toNatClampNeg)
def kCz (bx by9 ot x y : Int32) : Bool := decide (x = bx) && (decide (y = by9) && !decide (ot < 3))
def kAb (tw : Int32) : Int32 := (if 0 ≤ tw then tw else 0 - tw) / 2
def kLs (fQ : Nat → Int32) (lim a0 : Int32) : Nat → Int32
  | 0 => a0
  | k + 1 => bif decide (fQ k ≤ lim) then kLs fQ lim a0 k else kLs fQ lim a0 k - fQ k
def kAl (fQ : Nat → Int32) (lim tw : Int32) : Int32 := if 0 < kLs fQ lim (kAb tw) 10 then kLs fQ lim (kAb tw) 10 else 0
/-- inside, west of column k; the squares inside, of k columns; of k strips -/
def kPi (BW : Nat → Nat → Bool) (r : Nat) : Nat → Bool
  | 0 => false
  | k + 1 => bif BW r k then !kPi BW r k else kPi BW r k
def kCq (BW : Nat → Nat → Bool) (r : Nat) : Nat → Int32
  | 0 => 0
  | k + 1 => bif kPi BW r (k + 1) then kCq BW r k + 1 else kCq BW r k
def kSq (BW : Nat → Nat → Bool) : Nat → Int32
  | 0 => 0
  | r + 1 => kSq BW r + kCq BW r 40
theorem kMk2 (B : Nat → Nat → Bool) {a b : Nat} (ha : a < 41) (hb : b < 41) : (kPl (nI a) (nI b) && B (nI b).toNatClampNeg (nI a).toNatClampNeg) = B b a := by
  rw [kPl_nI ha hb, nI_clamp (by omega), nI_clamp (by omega), Bool.true_and]
/-- a wall's free places, k of them; the places that it goes over; the walls that go north, by k rows -/
def kAg (BO : Nat → Nat → Bool) (x y dx dy : Int32) : Nat → Bool
  | 0 => true
  | k + 1 => kAg BO x y dx dy k && kFr BO (x + (nI (k + 1)) * dx) (y + (nI (k + 1)) * dy)
theorem kAg_no {BO : Nat → Nat → Bool} {x y dx dy : Int32} : ∀ {n k : Nat}, k < n → kFr BO (x + (nI (k + 1)) * dx) (y + (nI (k + 1)) * dy) = false → kAg BO x y dx dy n = false
  | 0, k, h, _ => by omega
  | n + 1, k, h, h2 => by
    show (kAg BO x y dx dy n && kFr BO (x + (nI (n + 1)) * dx) (y + (nI (n + 1)) * dy)) = false
    by_cases e : k = n
    · rw [← e, h2, Bool.and_false]
    · rw [kAg_no (show k < n by omega) h2, Bool.false_and]
def kAd (BO : Nat → Nat → Bool) (bx by9 x y ot d q : Int32) : Bool :=
  kAg BO x y (kDx d) (kDy d) (q.toNatClampNeg - 1) && (kFr BO (x + q * kDx d) (y + q * kDy d) || kCz bx by9 ot (x + q * kDx d) (y + q * kDy d))
def kOv (BO : Nat → Nat → Bool) (x y dx dy : Int32) : Nat → Nat → Nat → Bool
  | 0 => BO
  | k + 1 => kSt2 (kOv BO x y dx dy k) (x + (nI (k + 1)) * dx).toNatClampNeg (y + (nI (k + 1)) * dy).toNatClampNeg
def kWv (BW : Nat → Nat → Bool) (a lo : Nat) : Nat → Nat → Nat → Bool
  | 0 => BW
  | k + 1 => kSt2 (kWv BW a lo k) a (lo + k)
theorem kRowZ : (fun _ : Nat => (0 : Int64)) = fun i9 => kRow ((fun _ _ => false : Nat → Nat → Bool) i9) := by
  funext i
  exact kRow0.symm
theorem kMinI {b b2 : Nat} (hb : b < 41) (hb2 : b2 < 41) : (if nI b2 < nI b then nI b2 else nI b) = nI (min b b2) := by
  rcases Nat.lt_or_ge b2 b with h | h
  · rw [if_pos (nI_lt h (by omega)), Nat.min_eq_right (by omega)]
  · rw [if_neg (nI_nlt h (by omega)), Nat.min_eq_left h]
theorem kMaxI {b b2 : Nat} (hb : b < 41) (hb2 : b2 < 41) : (if nI b < nI b2 then nI b2 else nI b) = nI (max b b2) := by
  rcases Nat.lt_or_ge b b2 with h | h
  · rw [if_pos (nI_lt h (by omega)), Nat.max_eq_right (by omega)]
  · rw [if_neg (nI_nlt h (by omega)), Nat.max_eq_left h]
/-- the walls that go north, behind a wall from y to y2 in column x -/
def kGw (BW : Nat → Nat → Bool) (x y y2 : Int32) : Nat → Nat → Bool := kWv BW x.toNatClampNeg (min y.toNatClampNeg y2.toNatClampNeg) (max y.toNatClampNeg y2.toNatClampNeg - min y.toNatClampNeg y2.toNatClampNeg)
theorem kPl_xn {x : Int32} {r : Nat} (hx : kIn x 0 40 = true) (hr : r < 41) : kPl x (nI r) = true := by
  obtain ⟨a, ha, rfl⟩ := kIn_ex40 hx
  exact kPl_nI ha hr
