/-! ===== the items and the rates of a world, by their numbers ===== -/
def kIP (ws : va_W) (ni : Nat) (ia pi : Nat → Nat) (par rt : Nat → Option Nat) (ra : Nat → Nat) (wa me va dn : Nat → Int32) : Prop :=
  (∀ j, j < ni → ws[pi j]? = some (ia j, .inr (2, [va_rf ((par j).map ia), va_rf ((rt j).map ra), .int (wa j), .int (me j), .int (va j), .int (dn j)]))) ∧
  (∀ j q, j < ni → par j = some q → q < j) ∧ ∀ i j, i < ni → j < ni → ia i = ia j → i = j
def kRP (ws : va_W) (nr : Nat) (ra pr : Nat → Nat) (fA : Nat → Int32) : Prop :=
  (∀ j, j < nr → ws[pr j]? = some (ra j, .inr (3, [.int (fA (3 * j)), .int (fA (3 * j + 1)), .int (fA (3 * j + 2))]))) ∧ ∀ i j, i < nr → j < nr → ra i = ra j → i = j
/-- the lengths that a list's array takes -/
def kLn (len : Nat) : Prop := len = 10 ∨ len = 15 ∨ len = 22 ∨ len = 33
/-- a list of n objects, by their addresses -/
def kLP (ws : va_W) (cO : ClassId) (z la kl ke n ed len : Nat) (mc : Int32) (g ad : Nat → Option Nat) : Prop :=
  ws[kl]? = some (la, .inr (0, [.int mc, .ref ed, .int (nI n)])) ∧ ((n = 0 ∧ ed = z ∧ ke = kl) ∨ (ws[ke]? = some (ed, .inl (cO, len, .inr (.inr (.inr (.inr g))))) ∧ n ≤ len ∧ kLn len ∧ 0 < n ∧ ∀ i, i < n → g i = ad i))
/-- whether item o stands above, or is it -/
def kSu (par : Nat → Option Nat) (o : Nat) : Nat → Option Nat → Bool
  | 0, _ => false
  | _ + 1, none => false
  | n + 1, some k => bif decide (k = o) then true else kSu par o n (par k)
