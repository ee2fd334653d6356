/-! ===== a wall, in the class's bits and in the path ===== -/
def qOp (BO BW : Nat → Nat → Bool) (bx by9 x y tw : Int32) (px py : Nat → Int) (n : Nat) : Prop :=
  (∀ i, i < n → qU (px i) (py i) (px (i + 1)) (py (i + 1))) ∧ (∀ i j, i < j → j ≤ n → ¬ (px i = px j ∧ py i = py j)) ∧ (∀ i, i ≤ n → 0 ≤ px i ∧ px i ≤ 40 ∧ 0 ≤ py i ∧ py i ≤ 40) ∧ (px 0 = bx.toInt ∧ py 0 = by9.toInt ∧ px n = x.toInt ∧ py n = y.toInt) ∧ tw.toInt = qC px py n ∧
  (∀ a b : Nat, a < 41 → b < 41 → (BO b a = true ↔ ∃ i, i ≤ n ∧ px i = (a : Int) ∧ py i = (b : Int))) ∧ ∀ r c : Nat, r < 40 → c < 40 → (BW r c = true ↔ qB px py n c r)
/-- the drawing's path after k calls: open, or closed -/
def kPa (k : Nat) (BO BW : Nat → Nat → Bool) (bx by9 x y ot tw : Int32) (cl : Bool) : Prop :=
  (cl = false ∧ ∃ (n : Nat) (px py : Nat → Int), n ≤ 40 * k ∧ ot = nI n ∧ qOp BO BW bx by9 x y tw px py n) ∨
  (cl = true ∧ ∃ (n : Nat) (px py : Nat → Int), qPath px py n ∧ tw.toInt = qC px py n ∧ ∀ r c : Nat, r < 40 → c < 40 → (BW r c = true ↔ qB px py n c r))
theorem qC_bd {px py : Nat → Int} : ∀ {n : Nat}, (∀ i, i < n → qU (px i) (py i) (px (i + 1)) (py (i + 1))) → (∀ i, i ≤ n → 0 ≤ px i ∧ px i ≤ 40 ∧ 0 ≤ py i ∧ py i ≤ 40) → -(40 * (n : Int)) ≤ qC px py n ∧ qC px py n ≤ 40 * (n : Int)
  | 0, _, _ => ⟨by show -(40 * ((0 : Nat) : Int)) ≤ 0; omega, by show (0 : Int) ≤ 40 * ((0 : Nat) : Int); omega⟩
  | n + 1, h1, h2 => by
    have ih := qC_bd (n := n) (fun i hi => h1 i (by omega)) (fun i hi => h2 i (by omega))
    have e : qC px py (n + 1) = qC px py n + (px n * py (n + 1) - px (n + 1) * py n) := rfl
    have hu := h1 n (by omega)
    have hr := h2 n (by omega)
    have : -40 ≤ px n * py (n + 1) - px (n + 1) * py n ∧ px n * py (n + 1) - px (n + 1) * py n ≤ 40 := by
      unfold qU at hu
      generalize px n = X at *
      generalize py n = Y at *
      rcases hu with ⟨h3, h4⟩ | ⟨h3, h4⟩ | ⟨h3, h4⟩ | ⟨h3, h4⟩ <;> rw [h3, h4]
      · have : X * Y - (X + 1) * Y = -Y := by grind
        omega
      · have : X * (Y + 1) - X * Y = X := by grind
        omega
      · have : X * Y - (X - 1) * Y = Y := by grind
        omega
      · have : X * (Y - 1) - X * Y = -X := by grind
        omega
    rw [e]
    omega
theorem kDir {d : Int32} (h : kIn d 0 3 = true) : qD (kDx d).toInt (kDy d).toInt := by
  have e : nI 4 - 1 = 3 := by decide
  obtain ⟨j, hj, rfl⟩ := kIn_ex (n := 4) (by decide) (by rw [e]; exact h)
  unfold qD
  match j, hj with
  | 0, _ => decide
  | 1, _ => decide
  | 2, _ => decide
  | 3, _ => decide
  | j + 4, hj => omega
theorem kDir1 {e f : Int} (h : qD e f) : (e = 1 ∨ e = 0 ∨ e = -1) ∧ (f = 1 ∨ f = 0 ∨ f = -1) := by
  unfold qD at h; omega
theorem t32_st {x g : Int32} {k : Nat} (hx : 0 ≤ x.toInt ∧ x.toInt ≤ 40) (hk : k ≤ 40) (hg : g.toInt = 1 ∨ g.toInt = 0 ∨ g.toInt = -1) : (x + nI k * g).toInt = x.toInt + (k : Int) * g.toInt := by
  have e1 : (nI k).toInt = (k : Int) := nI_toInt (by omega)
  have e2 : (nI k * g).toInt = (k : Int) * g.toInt := by
    rw [t32_mul (by rw [e1]; rcases hg with h | h | h <;> rw [h] <;> omega) (by rw [e1]; rcases hg with h | h | h <;> rw [h] <;> omega), e1]
  rw [t32_add (by rw [e2]; rcases hg with h | h | h <;> rw [h] <;> omega) (by rw [e2]; rcases hg with h | h | h <;> rw [h] <;> omega), e2]
theorem kFr_free {BO : Nat → Nat → Bool} {x y : Int32} (h : kFr BO x y = true) : BO y.toNatClampNeg x.toNatClampNeg = false := by
  have h1 := kFr_pl h
  unfold kFr at h
  rw [h1, Bool.true_and, Bool.true_and] at h
  exact k_notf h
theorem kSt2_at (B : Nat → Nat → Bool) (x0 y0 b a : Nat) : kSt2 B x0 y0 b a = if b = y0 ∧ a = x0 then true else B b a := by
  unfold kSt2 va_up
  by_cases h : b = y0
  · subst h
    by_cases h2 : a = x0
    · rw [if_pos rfl, if_pos h2, if_pos ⟨rfl, h2⟩]
    · rw [if_pos rfl, if_neg h2, if_neg (fun q => h2 q.2)]
  · rw [if_neg h, if_neg (fun q => h q.1)]
theorem kOv_at (BO : Nat → Nat → Bool) (x y dx dy : Int32) (a b : Nat) : ∀ m, kOv BO x y dx dy m b a = true ↔ BO b a = true ∨ ∃ k, 1 ≤ k ∧ k ≤ m ∧ (x + nI k * dx).toNatClampNeg = a ∧ (y + nI k * dy).toNatClampNeg = b
  | 0 => by
    show BO b a = true ↔ _
    constructor
    · exact Or.inl
    · rintro (h | ⟨k, h1, h2, -⟩)
      · exact h
      · omega
  | m + 1 => by
    show kSt2 (kOv BO x y dx dy m) (x + nI (m + 1) * dx).toNatClampNeg (y + nI (m + 1) * dy).toNatClampNeg b a = true ↔ _
    rw [kSt2_at]
    by_cases h : b = (y + nI (m + 1) * dy).toNatClampNeg ∧ a = (x + nI (m + 1) * dx).toNatClampNeg
    · rw [if_pos h]
      exact ⟨fun _ => Or.inr ⟨m + 1, by omega, by omega, h.2.symm, h.1.symm⟩, fun _ => rfl⟩
    · rw [if_neg h, kOv_at BO x y dx dy a b m]
      constructor
      · rintro (h1 | ⟨k, h1, h2, h3⟩)
        · exact Or.inl h1
        · exact Or.inr ⟨k, h1, by omega, h3⟩
      · rintro (h1 | ⟨k, h1, h2, h3, h4⟩)
        · exact Or.inl h1
        · by_cases e : k = m + 1
          · rw [e] at h3 h4
            exact absurd ⟨h4.symm, h3.symm⟩ h
          · exact Or.inr ⟨k, h1, by omega, h3, h4⟩
theorem kWv_at (BW : Nat → Nat → Bool) (a0 lo r c : Nat) : ∀ m, kWv BW a0 lo m r c = true ↔ BW r c = true ∨ (c = a0 ∧ lo ≤ r ∧ r < lo + m)
  | 0 => by
    show BW r c = true ↔ _
    constructor
    · exact Or.inl
    · rintro (h | h)
      · exact h
      · omega
  | m + 1 => by
    show kSt2 (kWv BW a0 lo m) a0 (lo + m) r c = true ↔ _
    rw [kSt2_at]
    by_cases h : r = lo + m ∧ c = a0
    · rw [if_pos h]
      exact ⟨fun _ => Or.inr (by omega), fun _ => rfl⟩
    · rw [if_neg h, kWv_at BW a0 lo r c m]
      constructor
      · rintro (h1 | h1)
        · exact Or.inl h1
        · exact Or.inr (by omega)
      · rintro (h1 | h1)
        · exact Or.inl h1
        · exact Or.inr (by omega)
theorem kPa_begin {k : Nat} {xa ya : Int32} (h : kPl xa ya = true) : kPa k (kSt2 (fun _ _ => false) xa.toNatClampNeg ya.toNatClampNeg) (fun _ _ => false) xa ya xa ya 0 0 false := by
  obtain ⟨h1, h2⟩ := kPl_iff.mp h
  have e1 := t32_cl h1.1
  have e2 := t32_cl h2.1
  refine Or.inl ⟨rfl, 0, fun _ => xa.toInt, fun _ => ya.toInt, by omega, rfl, fun i hi => by omega, fun i j h3 h4 => by omega, fun i _ => ⟨h1.1, h1.2, h2.1, h2.2⟩, ⟨rfl, rfl, rfl, rfl⟩, rfl, fun a b _ _ => ?_, fun r c _ _ => ?_⟩
  · rw [kSt2_at]
    constructor
    · intro h3
      by_cases h4 : b = ya.toNatClampNeg ∧ a = xa.toNatClampNeg
      · exact ⟨0, Nat.le_refl _, by show xa.toInt = _; omega, by show ya.toInt = _; omega⟩
      · rw [if_neg h4] at h3; cases h3
    · rintro ⟨i, -, h3, h4⟩
      have h3 : xa.toInt = (a : Int) := h3
      have h4 : ya.toInt = (b : Int) := h4
      rw [if_pos (by omega)]
  · constructor
    · intro h3; cases h3
    · rintro ⟨i, hi, -⟩; omega
section KWL
variable {BO BW : Nat → Nat → Bool} {bx by9 x y ot tw d : Int32} {m : Nat}
/-- the places of a wall -/
theorem kW_pl (hd : kIn d 0 3 = true) (hp : kPl x y = true) {j : Nat} (hj : j ≤ 40) : (x + nI j * kDx d).toInt = x.toInt + (j : Int) * (kDx d).toInt ∧ (y + nI j * kDy d).toInt = y.toInt + (j : Int) * (kDy d).toInt :=
  ⟨t32_st (kPl_iff.mp hp).1 hj (kDir1 (kDir hd)).1, t32_st (kPl_iff.mp hp).2 hj (kDir1 (kDir hd)).2⟩
/-- free, or the begin -/
theorem kAd_all (ha : kAd BO bx by9 x y ot d (nI m) = true) (h1 : 1 ≤ m) (hm : m ≤ 40) : (∀ j, 1 ≤ j → j < m → kFr BO (x + nI j * kDx d) (y + nI j * kDy d) = true) ∧ (kFr BO (x + nI m * kDx d) (y + nI m * kDy d) = true ∨ (x + nI m * kDx d = bx ∧ y + nI m * kDy d = by9 ∧ ¬ ot < 3)) := by
  unfold kAd at ha
  rw [nI_clamp (by omega)] at ha
  refine ⟨fun j h2 h3 => kAg_at (k_andl ha) h2 (by omega), ?_⟩
  have h4 := k_andr ha
  rw [Bool.or_eq_true] at h4
  refine h4.imp id (fun h5 => ?_)
  unfold kCz at h5
  exact ⟨of_decide_eq_true (k_andl h5), of_decide_eq_true (k_andl (k_andr h5)), of_decide_eq_false (k_notf (k_andr (k_andr h5)))⟩
theorem kPa_wall {k : Nat} (hk : k < 512) (hP : kPa k BO BW bx by9 x y ot tw false) (hd : kIn d 0 3 = true) (hp : kPl x y = true) (hb : kPl bx by9 = true) (h1 : 1 ≤ m) (hm : m ≤ 40) (ha : kAd BO bx by9 x y ot d (nI m) = true) :
    kPa (k + 1) (kOv BO x y (kDx d) (kDy d) m) (kGw BW x y (y + nI m * kDy d)) bx by9 (x + nI m * kDx d) (y + nI m * kDy d) (ot + nI m) (tw + (x * (y + nI m * kDy d) - (x + nI m * kDx d) * y)) (decide (x + nI m * kDx d = bx) && decide (y + nI m * kDy d = by9)) ∧ kPl (x + nI m * kDx d) (y + nI m * kDy d) = true := by
  obtain ⟨-, n, px, py, hn, hot, q1, q2, q3, ⟨q4, q5, q6, q7⟩, q8, q9, q10⟩ | ⟨h, -⟩ := hP
  · obtain ⟨a1, a2⟩ := kAd_all ha h1 hm
    have hu := kDir hd
    have hs := fun j hj => kW_pl (j := j) hd hp hj
    have hpl : ∀ j, 1 ≤ j → j ≤ m → kPl (x + nI j * kDx d) (y + nI j * kDy d) = true := fun j g1 g2 => by
      by_cases e : j = m
      · subst e
        rcases a2 with a2 | ⟨e1, e2, -⟩
        · exact kFr_pl a2
        · rw [e1, e2]; exact hb
      · exact kFr_pl (a1 j g1 (by omega))
    have hfree : ∀ j i, 1 ≤ j → kFr BO (x + nI j * kDx d) (y + nI j * kDy d) = true → j ≤ m → i ≤ n → ¬ (px i = px n + (j : Int) * (kDx d).toInt ∧ py i = py n + (j : Int) * (kDy d).toInt) := by
      intro j i g1 g2 g3 g4 ⟨g5, g6⟩
      obtain ⟨r1, r2⟩ := kPl_iff.mp (kFr_pl g2)
      have f1 := kFr_free g2
      have c1 := t32_cl r1.1
      have c2 := t32_cl r2.1
      obtain ⟨s1, s2⟩ := hs j (by omega)
      have := (q9 (x + nI j * kDx d).toNatClampNeg (y + nI j * kDy d).toNatClampNeg (by omega) (by omega)).mpr ⟨i, g4, by rw [g5, q6, c1, s1], by rw [g6, q7, c2, s2]⟩
      rw [f1] at this
      cases this
    have hrange : ∀ j : Nat, 1 ≤ j → j ≤ m → 0 ≤ px n + (j : Int) * (kDx d).toInt ∧ px n + (j : Int) * (kDx d).toInt ≤ 40 ∧ 0 ≤ py n + (j : Int) * (kDy d).toInt ∧ py n + (j : Int) * (kDy d).toInt ≤ 40 := fun j g1 g2 => by
      obtain ⟨r1, r2⟩ := kPl_iff.mp (hpl j g1 g2)
      obtain ⟨s1, s2⟩ := hs j (by omega)
      rw [q6, q7, ← s1, ← s2]
      exact ⟨r1.1, r1.2, r2.1, r2.2⟩
    obtain ⟨sm1, sm2⟩ := hs m hm
    obtain ⟨rm1, rm2⟩ := kPl_iff.mp (hpl m h1 (Nat.le_refl _))
    obtain ⟨rx, ry⟩ := kPl_iff.mp hp
    -- twice the area
    have hC : (tw + (x * (y + nI m * kDy d) - (x + nI m * kDx d) * y)).toInt = qC (qE px n (kDx d).toInt) (qE py n (kDy d).toInt) (n + m) := by
      rw [qE_C hu, ← q8, q6, q7]
      obtain ⟨c1, c2⟩ := qC_bd q1 q3
      rw [← q8] at c1 c2
      have e1 : (x * (y + nI m * kDy d)).toInt = x.toInt * (y + nI m * kDy d).toInt := by
        have g1 : 0 ≤ x.toInt * (y + nI m * kDy d).toInt := Int.mul_nonneg rx.1 rm2.1
        have g2 : x.toInt * (y + nI m * kDy d).toInt ≤ 40 * 40 := Int.mul_le_mul rx.2 rm2.2 rm2.1 (by omega)
        exact t32_mul (by omega) (by omega)
      have e2 : ((x + nI m * kDx d) * y).toInt = (x + nI m * kDx d).toInt * y.toInt := by
        have g1 : 0 ≤ (x + nI m * kDx d).toInt * y.toInt := Int.mul_nonneg rm1.1 ry.1
        have g2 : (x + nI m * kDx d).toInt * y.toInt ≤ 40 * 40 := Int.mul_le_mul rm1.2 ry.2 ry.1 (by omega)
        exact t32_mul (by omega) (by omega)
      have g1 : 0 ≤ x.toInt * (y + nI m * kDy d).toInt := Int.mul_nonneg rx.1 rm2.1
      have g2 : x.toInt * (y + nI m * kDy d).toInt ≤ 40 * 40 := Int.mul_le_mul rx.2 rm2.2 rm2.1 (by omega)
      have g3 : 0 ≤ (x + nI m * kDx d).toInt * y.toInt := Int.mul_nonneg rm1.1 ry.1
      have g4 : (x + nI m * kDx d).toInt * y.toInt ≤ 40 * 40 := Int.mul_le_mul rm1.2 ry.2 ry.1 (by omega)
      have e3 : (x * (y + nI m * kDy d) - (x + nI m * kDx d) * y).toInt = x.toInt * (y + nI m * kDy d).toInt - (x + nI m * kDx d).toInt * y.toInt := by
        rw [t32_sub (by rw [e1, e2]; omega) (by rw [e1, e2]; omega), e1, e2]
      rw [t32_add (by rw [e3]; omega) (by rw [e3]; omega), e3, sm1, sm2]
      generalize x.toInt = X
      generalize y.toInt = Y
      generalize (kDx d).toInt = E
      generalize (kDy d).toInt = F
      generalize (m : Int) = M
      grind
    -- walls to the north
    have hB : ∀ r c : Nat, r < 40 → c < 40 → (kGw BW x y (y + nI m * kDy d) r c = true ↔ qB (qE px n (kDx d).toInt) (qE py n (kDy d).toInt) (n + m) c r) := by
      intro r c hr hc
      have c1 := t32_cl rx.1
      have c2 := t32_cl ry.1
      have c3 := t32_cl rm2.1
      unfold kGw
      rw [kWv_at, qE_B hu, q10 r c hr hc, q6, q7]
      refine or_congr Iff.rfl ?_
      have hu2 := hu
      unfold qD at hu2
      generalize (kDx d).toInt = E at *
      generalize (kDy d).toInt = F at *
      rcases hu2 with ⟨rfl, rfl⟩ | ⟨rfl, rfl⟩ | ⟨rfl, rfl⟩ | ⟨rfl, rfl⟩ <;> omega
    have hO : ∀ a b : Nat, a < 41 → b < 41 → (kOv BO x y (kDx d) (kDy d) m b a = true ↔ ∃ i, i ≤ n + m ∧ qE px n (kDx d).toInt i = (a : Int) ∧ qE py n (kDy d).toInt i = (b : Int)) := by
      intro a b h8 h9
      rw [kOv_at, qE_at, q9 a b h8 h9]
      refine or_congr Iff.rfl ⟨?_, ?_⟩
      · rintro ⟨j, g1, g2, g3, g4⟩
        obtain ⟨r1, r2⟩ := kPl_iff.mp (hpl j g1 g2)
        have c1 := t32_cl r1.1
        have c2 := t32_cl r2.1
        obtain ⟨s1, s2⟩ := hs j (by omega)
        exact ⟨j, g1, g2, by rw [q6, ← s1, ← c1, g3], by rw [q7, ← s2, ← c2, g4]⟩
      · rintro ⟨j, g1, g2, g3, g4⟩
        obtain ⟨r1, r2⟩ := kPl_iff.mp (hpl j g1 g2)
        have c1 := t32_cl r1.1
        have c2 := t32_cl r2.1
        obtain ⟨s1, s2⟩ := hs j (by omega)
        rw [q6, ← s1] at g3
        rw [q7, ← s2] at g4
        exact ⟨j, g1, g2, by omega, by omega⟩
    refine ⟨?_, hpl m h1 (Nat.le_refl _)⟩
    have hlo : ∀ p : Nat → Int, ∀ e : Int, qE p n e 0 = p 0 := fun p e => qE_lo (by omega)
    by_cases hc : x + nI m * kDx d = bx ∧ y + nI m * kDy d = by9
    · rw [decide_eq_true hc.1, decide_eq_true hc.2]
      have hot3 : 3 ≤ n := by
        rcases a2 with a2 | ⟨-, -, a3⟩
        · refine absurd ⟨?_, ?_⟩ (hfree m 0 h1 a2 (Nat.le_refl _) (by omega))
          · rw [q4, q6, ← sm1, hc.1]
          · rw [q5, q7, ← sm2, hc.2]
        · rw [hot, k_i32lt, nI_toInt (by omega)] at a3
          have e3 : (3 : Int32).toInt = 3 := rfl
          omega
      refine Or.inr ⟨rfl, n + m, qE px n (kDx d).toInt, qE py n (kDy d).toInt, ⟨qE_unit q1 hu, fun i j g1 g2 => ?_, ?_, ?_, by omega, qE_in q3 hrange⟩, hC, hB⟩
      · refine qE_ne (m := m - 1) q2 hu (fun j i g3 g4 g5 => hfree j i g3 (a1 j g3 (by omega)) (by omega) g5) i j g1 (by omega)
      · rw [hlo, qE_hi, q4, q6, ← sm1, hc.1]
      · rw [hlo, qE_hi, q5, q7, ← sm2, hc.2]
    · have hfm : kFr BO (x + nI m * kDx d) (y + nI m * kDy d) = true := by
        rcases a2 with a2 | ⟨e1, e2, -⟩
        · exact a2
        · exact absurd ⟨e1, e2⟩ hc
      have : (decide (x + nI m * kDx d = bx) && decide (y + nI m * kDy d = by9)) = false := by
        rw [← Bool.decide_and]; exact decide_eq_false hc
      rw [this]
      refine Or.inl ⟨rfl, n + m, qE px n (kDx d).toInt, qE py n (kDy d).toInt, by omega, by rw [hot]; exact nI_add n m, qE_unit q1 hu, ?_, qE_in q3 hrange, ⟨by rw [hlo]; exact q4, by rw [hlo]; exact q5, by rw [qE_hi, q6, ← sm1], by rw [qE_hi, q7, ← sm2]⟩, hC, hO, hB⟩
      exact qE_ne (m := m) q2 hu (fun j i g3 g4 g5 => hfree j i g3 (by
        by_cases e : j = m
        · rw [e]; exact hfm
        · exact a1 j g3 (by omega)) g4 g5)
  · cases h
end KWL
