/-! ===== the reference's wall and areas are the class's ===== -/
/-- the reference's marks are the class's bits -/
def kMB (mk : Nat → Bool) (BO : Nat → Nat → Bool) : Prop := ∀ a b : Nat, a < 41 → b < 41 → mk (41 * a + b) = BO b a
section KMW
variable {mk : Nat → Bool} {BO BW : Nat → Nat → Bool} {bx by9 x y ot tw d : Int32} {m : Nat}
theorem kXi_at {j : Nat} (h : kPl (x + nI j * kDx d) (y + nI j * kDy d) = true) (hm : kMB mk BO) : mk (kXi x y (kDx d) (kDy d) j) = BO (y + nI j * kDy d).toNatClampNeg (x + nI j * kDx d).toNatClampNeg := by
  obtain ⟨r1, r2⟩ := kPl_iff.mp h
  have c1 := t32_cl r1.1
  have c2 := t32_cl r2.1
  unfold kXi
  exact hm _ _ (by omega) (by omega)
theorem kOk_lt {j : Nat} (hm : kMB mk BO) (hj : j < m) (hm2 : m ≤ 40) : kOk mk x y bx by9 ot (kDx d) (kDy d) (nI m) j = kFr BO (x + nI j * kDx d) (y + nI j * kDy d) := by
  unfold kOk kFr
  have e : decide (nI j = nI m) = false := decide_eq_false (fun q => absurd ((nI_eq (by omega) (by omega)).mp q) (by omega))
  rw [e, Bool.false_and, Bool.or_false]
  show (kPl (x + nI j * kDx d) (y + nI j * kDy d) && _) = _
  cases h : kPl (x + nI j * kDx d) (y + nI j * kDy d) with
  | false => rfl
  | true => rw [kXi_at h hm]; rfl
theorem kCg_eq (hm : kMB mk BO) (h1 : 1 ≤ m) (hm2 : m ≤ 40) (hb : kPl bx by9 = true) : kCg mk x y bx by9 ot (kDx d) (kDy d) (nI m) m = kAd BO bx by9 x y ot d (nI m) := by
  obtain ⟨n, rfl⟩ : ∃ n, m = n + 1 := ⟨m - 1, by omega⟩
  have hk : ∀ k, k ≤ n → kCg mk x y bx by9 ot (kDx d) (kDy d) (nI (n + 1)) k = kAg BO x y (kDx d) (kDy d) k := by
    intro k
    induction k with
    | zero => intro _; rfl
    | succ k ih =>
      intro hk
      show (kCg mk x y bx by9 ot (kDx d) (kDy d) (nI (n + 1)) k && kOk mk x y bx by9 ot (kDx d) (kDy d) (nI (n + 1)) (k + 1)) = (kAg BO x y (kDx d) (kDy d) k && kFr BO (x + nI (k + 1) * kDx d) (y + nI (k + 1) * kDy d))
      rw [ih (by omega), kOk_lt hm (by omega) hm2]
  show (kCg mk x y bx by9 ot (kDx d) (kDy d) (nI (n + 1)) n && kOk mk x y bx by9 ot (kDx d) (kDy d) (nI (n + 1)) (n + 1)) = _
  unfold kAd
  rw [nI_clamp (by omega), Nat.add_sub_cancel, hk n (Nat.le_refl _)]
  congr 1
  unfold kOk kCz kFr
  rw [decide_eq_true rfl, Bool.true_and]
  show (kPl (x + nI (n + 1) * kDx d) (y + nI (n + 1) * kDy d) && _) = _
  cases h : kPl (x + nI (n + 1) * kDx d) (y + nI (n + 1) * kDy d) with
  | false =>
    cases h2 : decide (x + nI (n + 1) * kDx d = bx) with
    | false => rfl
    | true =>
      cases h3 : decide (y + nI (n + 1) * kDy d = by9) with
      | false => rfl
      | true =>
        rw [of_decide_eq_true h2, of_decide_eq_true h3, hb] at h
        cases h
  | true => rw [kXi_at h hm]; rfl
theorem kWm_eq (hm : kMB mk BO) : ∀ n, (∀ j, 1 ≤ j → j ≤ n → kPl (x + nI j * kDx d) (y + nI j * kDy d) = true) → kMB (kWm mk x y (kDx d) (kDy d) n) (kOv BO x y (kDx d) (kDy d) n)
  | 0, _ => hm
  | n + 1, h => by
    have ih := kWm_eq hm n (fun j h1 h2 => h j h1 (by omega))
    obtain ⟨r1, r2⟩ := kPl_iff.mp (h (n + 1) (by omega) (Nat.le_refl _))
    have c1 := t32_cl r1.1
    have c2 := t32_cl r2.1
    intro a b ha hb
    show va_up (kWm mk x y (kDx d) (kDy d) n) (kXi x y (kDx d) (kDy d) (n + 1)) true (41 * a + b) = kSt2 (kOv BO x y (kDx d) (kDy d) n) (x + nI (n + 1) * kDx d).toNatClampNeg (y + nI (n + 1) * kDy d).toNatClampNeg b a
    rw [kSt2_at]
    unfold kXi
    by_cases e : b = (y + nI (n + 1) * kDy d).toNatClampNeg ∧ a = (x + nI (n + 1) * kDx d).toNatClampNeg
    · rw [if_pos e, e.1, e.2, kup_eq]
    · rw [if_neg e, kup_ne _ _ (by omega), ih a b ha hb]
/-- before its last step a free wall meets no mark -/
theorem kWm_free (hm : kMB mk BO) (hd : kIn d 0 3 = true) (hp : kPl x y = true) {n : Nat} (hn : n < 40) (h : ∀ j, 1 ≤ j → j ≤ n + 1 → kPl (x + nI j * kDx d) (y + nI j * kDy d) = true) : kWm mk x y (kDx d) (kDy d) n (kXi x y (kDx d) (kDy d) (n + 1)) = BO (y + nI (n + 1) * kDy d).toNatClampNeg (x + nI (n + 1) * kDx d).toNatClampNeg := by
  rw [kXi_at (h (n + 1) (by omega) (Nat.le_refl _)) (kWm_eq hm n (fun j h1 h2 => h j h1 (by omega)))]
  rw [Bool.eq_iff_iff, kOv_at]
  constructor
  · rintro (h1 | ⟨k, h1, h2, h3, h4⟩)
    · exact h1
    · obtain ⟨r1, r2⟩ := kPl_iff.mp (h k h1 (by omega))
      obtain ⟨r3, r4⟩ := kPl_iff.mp (h (n + 1) (by omega) (Nat.le_refl _))
      have c1 := t32_cl r1.1
      have c2 := t32_cl r2.1
      have c3 := t32_cl r3.1
      have c4 := t32_cl r4.1
      obtain ⟨s1, s2⟩ := kW_pl (j := k) hd hp (by omega)
      obtain ⟨s3, s4⟩ := kW_pl (j := n + 1) hd hp (by omega)
      have hu := kDir hd
      unfold qD at hu
      generalize (kDx d).toInt = E at *
      generalize (kDy d).toInt = F at *
      rcases hu with ⟨rfl, rfl⟩ | ⟨rfl, rfl⟩ | ⟨rfl, rfl⟩ | ⟨rfl, rfl⟩ <;> omega
  · exact Or.inl
theorem kW_closes (hm : kMB mk BO) (hd : kIn d 0 3 = true) (hp : kPl x y = true) (hb : kPl bx by9 = true) (hbb : BO by9.toNatClampNeg bx.toNatClampNeg = true) (h1 : 1 ≤ m) (hm2 : m ≤ 40) (ha : kAd BO bx by9 x y ot d (nI m) = true) :
    kWc mk x y (kDx d) (kDy d) false m = (decide (x + nI m * kDx d = bx) && decide (y + nI m * kDy d = by9)) ∧ ((decide (x + nI m * kDx d = bx) && decide (y + nI m * kDy d = by9)) = false → kWt mk x y (kDx d) (kDy d) ot m = ot + nI m) := by
  obtain ⟨a1, a2⟩ := kAd_all ha h1 hm2
  have hpl : ∀ j, 1 ≤ j → j ≤ m → kPl (x + nI j * kDx d) (y + nI j * kDy d) = true := fun j g1 g2 => by
    by_cases e : j = m
    · subst e
      rcases a2 with a2 | ⟨e1, e2, -⟩
      · exact kFr_pl a2
      · rw [e1, e2]; exact hb
    · exact kFr_pl (a1 j g1 (by omega))
  have hfr : ∀ n, n < m → (n + 1 < m ∨ kFr BO (x + nI m * kDx d) (y + nI m * kDy d) = true) → kWm mk x y (kDx d) (kDy d) n (kXi x y (kDx d) (kDy d) (n + 1)) = false := fun n g1 g2 => by
    rw [kWm_free hm hd hp (by omega) (fun j g3 g4 => hpl j g3 (by omega))]
    rcases g2 with g2 | g2
    · exact kFr_free (a1 (n + 1) (by omega) g2)
    · by_cases e : n + 1 = m
      · rw [e]; exact kFr_free g2
      · exact kFr_free (a1 (n + 1) (by omega) (by omega))
  have hc : ∀ n, n < m → kWc mk x y (kDx d) (kDy d) false n = false := by
    intro n
    induction n with
    | zero => intro _; rfl
    | succ n ih =>
      intro g
      show (kWc mk x y (kDx d) (kDy d) false n || kWm mk x y (kDx d) (kDy d) n (kXi x y (kDx d) (kDy d) (n + 1))) = false
      rw [ih (by omega), hfr n (by omega) (Or.inl g)]; rfl
  obtain ⟨n, rfl⟩ : ∃ n, m = n + 1 := ⟨m - 1, by omega⟩
  have hcl : kWc mk x y (kDx d) (kDy d) false (n + 1) = kWm mk x y (kDx d) (kDy d) n (kXi x y (kDx d) (kDy d) (n + 1)) := by
    show (kWc mk x y (kDx d) (kDy d) false n || kWm mk x y (kDx d) (kDy d) n (kXi x y (kDx d) (kDy d) (n + 1))) = _
    rw [hc n (by omega), Bool.false_or]
  by_cases e : x + nI (n + 1) * kDx d = bx ∧ y + nI (n + 1) * kDy d = by9
  · rw [decide_eq_true e.1, decide_eq_true e.2, hcl, kWm_free hm hd hp (by omega) hpl, e.1, e.2, hbb]
    exact ⟨rfl, fun h => Bool.noConfusion h⟩
  · have hfm : kFr BO (x + nI (n + 1) * kDx d) (y + nI (n + 1) * kDy d) = true := by
      rcases a2 with a2 | ⟨e1, e2, -⟩
      · exact a2
      · exact absurd ⟨e1, e2⟩ e
    have e2 : (decide (x + nI (n + 1) * kDx d = bx) && decide (y + nI (n + 1) * kDy d = by9)) = false := by
      rw [← Bool.decide_and]; exact decide_eq_false e
    rw [e2, hcl, hfr n (by omega) (Or.inr hfm)]
    refine ⟨rfl, fun _ => ?_⟩
    have ht : ∀ k, k ≤ n + 1 → kWt mk x y (kDx d) (kDy d) ot k = ot + nI k := by
      intro k
      induction k with
      | zero => intro _; show ot = ot + 0; rw [Int32.add_zero]
      | succ k ih =>
        intro g
        show kWt mk x y (kDx d) (kDy d) ot k + kb (!kWm mk x y (kDx d) (kDy d) k (kXi x y (kDx d) (kDy d) (k + 1))) = _
        rw [ih (by omega), hfr k (by omega) (Or.inr hfm), ← nI_1 k, ← Int32.add_assoc]
        rfl
    exact ht (n + 1) (Nat.le_refl _)
end KMW
/-! ===== areas ===== -/
theorem kWh_eq (tw : Int32) : kWh tw = kAb tw := by
  unfold kWh kAb
  by_cases h : 0 ≤ tw
  · rw [decide_eq_true h, if_pos h]; rfl
  · rw [decide_eq_false h, if_neg h, Int32.zero_sub]; rfl
def qN (b : Nat → Bool) : Nat → Int := qS (fun c => if b (c + 1) then 1 else 0)
theorem qN_bd (b : Nat → Bool) : ∀ n, 0 ≤ qN b n ∧ qN b n ≤ n
  | 0 => ⟨Int.le_refl _, Int.le_refl _⟩
  | n + 1 => by
    have ih := qN_bd b n
    have e : qN b (n + 1) = qN b n + (if b (n + 1) then 1 else 0) := rfl
    rw [e]
    cases b (n + 1) <;> simp only [if_true, if_false, Bool.false_eq_true] <;> omega
theorem kCq_int (BW : Nat → Nat → Bool) (r : Nat) : ∀ n, n ≤ 40 → (kCq BW r n).toInt = qN (kPi BW r) n
  | 0, _ => rfl
  | n + 1, h => by
    have ih := kCq_int BW r n (by omega)
    have bd := qN_bd (kPi BW r) n
    have e : qN (kPi BW r) (n + 1) = qN (kPi BW r) n + (if kPi BW r (n + 1) then 1 else 0) := rfl
    have e2 : kCq BW r (n + 1) = bif kPi BW r (n + 1) then kCq BW r n + 1 else kCq BW r n := rfl
    rw [e, e2]
    have e1 : (1 : Int32).toInt = 1 := rfl
    cases kPi BW r (n + 1)
    · simp only [cond_false, if_false, Bool.false_eq_true]; omega
    · simp only [cond_true, if_true]
      rw [t32_add (by rw [ih, e1]; omega) (by rw [ih, e1]; omega), ih, e1]
theorem qM_bd (BW : Nat → Nat → Bool) : ∀ n, 0 ≤ qS (fun r => qN (kPi BW r) 40) n ∧ qS (fun r => qN (kPi BW r) 40) n ≤ 40 * n
  | 0 => ⟨Int.le_refl _, by show (0 : Int) ≤ 40 * ((0 : Nat) : Int); omega⟩
  | n + 1 => by
    have ih := qM_bd BW n
    have bd := qN_bd (kPi BW n) 40
    have e : qS (fun r => qN (kPi BW r) 40) (n + 1) = qS (fun r => qN (kPi BW r) 40) n + qN (kPi BW n) 40 := rfl
    rw [e]
    omega
theorem kSq_int (BW : Nat → Nat → Bool) : ∀ n, n ≤ 40 → (kSq BW n).toInt = qS (fun r => qN (kPi BW r) 40) n
  | 0, _ => rfl
  | n + 1, h => by
    have ih := kSq_int BW n (by omega)
    have bd := qM_bd BW n
    have bd2 := qN_bd (kPi BW n) 40
    have e : qS (fun r => qN (kPi BW r) 40) (n + 1) = qS (fun r => qN (kPi BW r) 40) n + qN (kPi BW n) 40 := rfl
    have e2 : kSq BW (n + 1) = kSq BW n + kCq BW n 40 := rfl
    have i2 := kCq_int BW n 40 (Nat.le_refl _)
    rw [e, e2, t32_add (by omega) (by omega), ih, i2]
/-- THE AREA: by corners as by strips, at most 1600 -/
theorem k_area {k : Nat} {BO BW : Nat → Nat → Bool} {bx by9 x y ot tw : Int32} (h : kPa k BO BW bx by9 x y ot tw true) : kSq BW 40 = kAb tw ∧ 0 ≤ (kAb tw).toInt ∧ (kAb tw).toInt ≤ 1600 := by
  obtain ⟨h, -⟩ | ⟨-, n, px, py, hq, htw, hB⟩ := h
  · cases h
  · have ha : qC px py n = 2 * qS (fun r => qN (kPi BW r) 40) 40 ∨ qC px py n = - (2 * qS (fun r => qN (kPi BW r) 40) 40) := q_area hq hB
    have bd := qM_bd BW 40
    have hs := kSq_int BW 40 (Nat.le_refl _)
    rw [← htw, ← hs] at ha
    rw [← hs] at bd
    have e0 : (0 : Int32).toInt = 0 := rfl
    have key : (kAb tw).toInt = (kSq BW 40).toInt := by
      unfold kAb
      have e2 : (2 : Int32).toInt = 2 := rfl
      have hne : ∀ a : Int32, 0 ≤ a.toInt → a.toInt = 2 * (kSq BW 40).toInt → (a / 2).toInt = (kSq BW 40).toInt := fun a h0 h1 => by
        rw [Int32.toInt_div_of_ne_right _ _ (by decide), e2, h1]
        exact Int.mul_tdiv_cancel_left _ (by decide)
      by_cases h0 : 0 ≤ tw
      · rw [if_pos h0]
        rw [k_i32le, e0] at h0
        exact hne tw h0 (by omega)
      · rw [if_neg h0]
        rw [k_i32le, e0] at h0
        have e3 : (0 - tw).toInt = - tw.toInt := by
          rw [t32_sub (by rw [e0]; omega) (by rw [e0]; omega), e0]; omega
        exact hne _ (by omega) (by omega)
    exact ⟨(Int32.toInt_inj.mp key).symm, by omega, by omega⟩
