/-! ===== own sums, the bill, rates: the class's are the reference's ===== -/
def kIs (k ni : Nat) (par rt : Nat → Option Nat) (wa me va dn : Nat → Int32) (nr : Nat) (fA fP : Nat → Int32) : Prop :=
  (∀ j, ni ≤ j → me j = 0 ∧ va j = 0 ∧ dn j = 0) ∧ (∀ j q, j < ni → par j = some q → rt q = none) ∧
  (∀ j, j < ni → (0 ≤ (me j).toInt ∧ (me j).toInt ≤ 32000 * (k : Int)) ∧ (0 ≤ (wa j).toInt ∧ (wa j).toInt ≤ 50) ∧ (-20000 ≤ (va j).toInt ∧ (va j).toInt ≤ 20000)) ∧
  (∀ q, q < 3 * nr → 0 ≤ (fA q).toInt ∧ (fA q).toInt ≤ 50) ∧ (∀ q, q < 3 → 0 ≤ (fP q).toInt ∧ (fP q).toInt ≤ 1000) ∧
  ∀ i j, i < j → j < nr → ¬ (fA (3 * i) = fA (3 * j) ∧ fA (3 * i + 1) = fA (3 * j + 1) ∧ fA (3 * i + 2) = fA (3 * j + 2))
theorem i64_99 (a : Int64) : a + 100 - 1 = a + 99 := by
  rw [Int64.sub_eq_add_neg, Int64.add_assoc]; rfl
theorem kQt_eq (wa me : Nat → Int32) (j : Nat) : kQt (me j) (wa j) = (kMw wa me j).toInt32 := by
  unfold kQt kMw
  rw [i64_99]
theorem kDu_eq (w : Int64) (ret : Int32) : kDu w ret = w - (((w * ret.toInt64) + 100) - 1) / 100 := by
  unfold kDu
  rw [i64_99]
theorem kMw_int {wa me : Nat → Int32} {j : Nat} (h1 : 0 ≤ (me j).toInt ∧ (me j).toInt ≤ 16384000) (h2 : 0 ≤ (wa j).toInt ∧ (wa j).toInt ≤ 50) : 0 ≤ (kMw wa me j).toInt ∧ (kMw wa me j).toInt ≤ 24576001 ∧ (kQt (me j) (wa j)).toInt64 = kMw wa me j := by
  have e100 : (100 : Int32).toInt = 100 := rfl
  have e1 : (100 + wa j).toInt = 100 + (wa j).toInt := by rw [t32_add (by rw [e100]; omega) (by rw [e100]; omega), e100]
  have f1 : (me j).toInt64.toInt = (me j).toInt := Int32.toInt_toInt64 _
  have f2 : (100 + wa j).toInt64.toInt = 100 + (wa j).toInt := (Int32.toInt_toInt64 _).trans e1
  have g1 : 0 ≤ (me j).toInt * (100 + (wa j).toInt) := Int.mul_nonneg h1.1 (by omega)
  have g2 : (me j).toInt * (100 + (wa j).toInt) ≤ 16384000 * 150 := Int.mul_le_mul h1.2 (by omega) (by omega) (by omega)
  have f3 : ((me j).toInt64 * (100 + wa j).toInt64).toInt = (me j).toInt * (100 + (wa j).toInt) := by
    rw [t64_mul (by rw [f1, f2]; omega) (by rw [f1, f2]; omega), f1, f2]
  have e99 : (99 : Int64).toInt = 99 := rfl
  have eh : (100 : Int64).toInt = 100 := rfl
  have f4 : ((me j).toInt64 * (100 + wa j).toInt64 + 99).toInt = (me j).toInt * (100 + (wa j).toInt) + 99 := by
    rw [t64_add (by rw [f3, e99]; omega) (by rw [f3, e99]; omega), f3, e99]
  have f5 : (kMw wa me j).toInt = ((me j).toInt * (100 + (wa j).toInt) + 99) / 100 := by
    unfold kMw
    rw [i64_99, Int64.toInt_div_of_ne_right _ _ (by decide), f4, eh, Int.tdiv_eq_ediv_of_nonneg (by omega)]
  have b1 : 0 ≤ (kMw wa me j).toInt := by rw [f5]; omega
  have b2 : (kMw wa me j).toInt ≤ 24576001 := by rw [f5]; omega
  refine ⟨b1, b2, ?_⟩
  rw [kQt_eq]
  apply Int64.toInt_inj.mp
  rw [Int32.toInt_toInt64, Int64.toInt_toInt32]
  exact Int.bmod_eq_of_le (by omega) (by omega)
theorem kPr_int {fA fP : Nat → Int32} {q : Nat} (hA : ∀ i, i < 3 → 0 ≤ (fA (3 * q + i)).toInt ∧ (fA (3 * q + i)).toInt ≤ 50) (hP : ∀ q, q < 3 → 0 ≤ (fP q).toInt ∧ (fP q).toInt ≤ 1000) : 0 ≤ (kPr fA fP q).toInt ∧ (kPr fA fP q).toInt ≤ 150000 := by
  have hm : ∀ i, i < 3 → 0 ≤ (fA (3 * q + i) * fP i).toInt ∧ (fA (3 * q + i) * fP i).toInt ≤ 50000 := fun i hi => by
    have a := hA i hi
    have b := hP i hi
    have g1 : 0 ≤ (fA (3 * q + i)).toInt * (fP i).toInt := Int.mul_nonneg a.1 b.1
    have g2 : (fA (3 * q + i)).toInt * (fP i).toInt ≤ 50 * 1000 := Int.mul_le_mul a.2 b.2 b.1 (by omega)
    rw [t32_mul (by omega) (by omega)]
    omega
  have h0 : 0 ≤ (fA (3 * q) * fP 0).toInt ∧ (fA (3 * q) * fP 0).toInt ≤ 50000 := hm 0 (by omega)
  have h1 := hm 1 (by omega)
  have h2 := hm 2 (by omega)
  have s1 : (fA (3 * q) * fP 0 + fA (3 * q + 1) * fP 1).toInt = (fA (3 * q) * fP 0).toInt + (fA (3 * q + 1) * fP 1).toInt := t32_add (by omega) (by omega)
  have s2 : (kPr fA fP q).toInt = (fA (3 * q) * fP 0 + fA (3 * q + 1) * fP 1).toInt + (fA (3 * q + 2) * fP 2).toInt := t32_add (by omega) (by omega)
  omega
section KBL
variable {k ni nr : Nat} {par rt : Nat → Option Nat} {wa me va dn fA fP : Nat → Int32}
theorem kOw_eq (hk : k ≤ 512) (h : kIs k ni par rt wa me va dn nr fA fP) (hr : ∀ j q, j < ni → rt j = some q → q < nr) (hn : nr ≤ 12) {j : Nat} (hj : j < ni) : ((rt j).isSome = true → kOwn (me j) (wa j) (va j) (kCt fA fP (kEn (rt j)).toNatClampNeg) = kOw fA fP rt wa me va j) ∧ 0 ≤ (kOw fA fP rt wa me va j).toInt := by
  cases hq : rt j with
  | none => exact ⟨fun h => (by cases h), (by rw [kOw_none hq]; decide)⟩
  | some q =>
    have hqn := hr j q hj hq
    obtain ⟨h1, h2, h3⟩ := h.2.2.1 j hj
    obtain ⟨m1, m2, m3⟩ := kMw_int (wa := wa) (me := me) (j := j) ⟨h1.1, by omega⟩ h2
    obtain ⟨p1, p2⟩ := kPr_int (q := q) (fun i hi => h.2.2.2.1 (3 * q + i) (by omega)) h.2.2.2.2.1
    have hv : (va j).toInt64.toInt = (va j).toInt := Int32.toInt_toInt64 _
    have e0 : (0 : Int64).toInt = 0 := rfl
    have hs : (kMw wa me j + (va j).toInt64).toInt = (kMw wa me j).toInt + (va j).toInt := by rw [t64_add (by omega) (by omega), hv]
    rw [kOw_some hq]
    refine ⟨fun _ => ?_, ?_⟩
    · unfold kOwn kIts
      rw [m3, show (kEn (some q)).toNatClampNeg = q from nI_clamp (by omega)]
      show (bif decide (0 ≤ lg_cmp (kMw wa me j + (va j).toInt64) 0) then (kMw wa me j + (va j).toInt64) * (kPr fA fP q).toInt64 else 0) = _
      by_cases hc : kMw wa me j + (va j).toInt64 < 0
      · rw [if_pos hc, decide_eq_false (fun g => by
          have g2 := (lg_cmp_ge _ _).mp g
          rw [Int64.le_iff_toInt_le] at g2
          rw [Int64.lt_iff_toInt_lt] at hc
          omega), Int64.zero_mul]; rfl
      · rw [if_neg hc, decide_eq_true ((lg_cmp_ge _ _).mpr (by
          rw [Int64.le_iff_toInt_le]
          rw [Int64.lt_iff_toInt_lt] at hc
          omega))]; rfl
    · by_cases hc : kMw wa me j + (va j).toInt64 < 0
      · rw [if_pos hc, Int64.zero_mul]; decide
      · rw [if_neg hc]
        rw [Int64.lt_iff_toInt_lt, e0] at hc
        have hp : (kPr fA fP q).toInt64.toInt = (kPr fA fP q).toInt := Int32.toInt_toInt64 _
        have g1 : 0 ≤ (kMw wa me j + (va j).toInt64).toInt * (kPr fA fP q).toInt := Int.mul_nonneg (by omega) p1
        have g2 : (kMw wa me j + (va j).toInt64).toInt * (kPr fA fP q).toInt ≤ 24596001 * 150000 := Int.mul_le_mul (by omega) p2 p1 (by omega)
        rw [t64_mul (by rw [hp]; omega) (by rw [hp]; omega), hp]
        exact g1
variable {F w : Nat → Int64}
theorem kTo_eq (hr : ∀ j q, j < ni → rt j = some q → q < 2 ^ 31) (hF : ∀ j, j < ni → (rt j).isSome = true → F j = w j) (hz : ∀ j, j < ni → rt j = none → w j = 0) : ∀ n, n ≤ ni → kTo (fun j => kEn (rt j)) F n = kTot w n
  | 0, _ => rfl
  | n + 1, h => by
    show kTo (fun j => kEn (rt j)) F n + (bif decide (kEn (rt n) = -1) then 0 else F n) = kTot w n + w n
    rw [kTo_eq hr hF hz n (by omega), kEn_none (fun q hq => hr n q (by omega) hq)]
    cases hq : rt n with
    | none => rw [hz n (by omega) hq]; rfl
    | some q => rw [hF n (by omega) (by rw [hq]; rfl)]; rfl
theorem kWo_eq (hr : ∀ j q, j < ni → rt j = some q → q < 2 ^ 31) (hF : ∀ j, j < ni → (rt j).isSome = true → F j = w j) (hz : ∀ j, j < ni → rt j = none → w j = 0) : ∀ n, n ≤ ni → kWo (fun j => kEn (rt j)) dn F n = kTot (fun j => w j * (dn j).toInt64 / 100) n
  | 0, _ => rfl
  | n + 1, h => by
    show kWo (fun j => kEn (rt j)) dn F n + (bif decide (kEn (rt n) = -1) then 0 else F n * (dn n).toInt64 / 100) = kTot (fun j => w j * (dn j).toInt64 / 100) n + w n * (dn n).toInt64 / 100
    rw [kWo_eq hr hF hz n (by omega), kEn_none (fun q hq => hr n q (by omega) hq)]
    cases hq : rt n with
    | none => rw [hz n (by omega) hq, Int64.zero_mul]; rfl
    | some q => rw [hF n (by omega) (by rw [hq]; rfl)]; rfl
theorem kDr_eq (hp : ∀ j q, j < ni → par j = some q → q < j) (hn : ni ≤ 30) (hr : ∀ j q, j < ni → rt j = some q → q < 2 ^ 31) (hF : ∀ j, j < ni → (rt j).isSome = true → F j = w j) (hw : ∀ j, j < ni → 0 ≤ (w j).toInt) {o : Nat} (ho : o < ni) :
    ∀ n, o + n ≤ ni → (kDst (fun j => (rt j).isSome && kUn par o j) w (o + n)).1 = kDr (fun j => kEn (par j)) (fun j => kEn (rt j)) F (nI o) o n ∧
      ((kDr (fun j => kEn (par j)) (fun j => kEn (rt j)) F (nI o) o n = -1 ∧ (kDst (fun j => (rt j).isSome && kUn par o j) w (o + n)).2 = -1) ∨ ∃ t, t < o + n ∧ (rt t).isSome = true ∧ kDr (fun j => kEn (par j)) (fun j => kEn (rt j)) F (nI o) o n = nI t ∧ (kDst (fun j => (rt j).isSome && kUn par o j) w (o + n)).2 = w t)
  | 0, _ => by
    have h0 : ∀ i, i ≤ o → kDst (fun j => (rt j).isSome && kUn par o j) w i = (-1, -1) := by
      intro i
      induction i with
      | zero => intro _; rfl
      | succ i ih =>
        intro hi
        rw [kDst_f (by show ((rt i).isSome && kUn par o i) = false; rw [kUn_lt hp (by omega) (by omega), Bool.and_false]), ih (by omega)]
    rw [Nat.add_zero, h0 o (Nat.le_refl _)]
    exact ⟨rfl, Or.inl ⟨rfl, rfl⟩⟩
  | n + 1, h => by
    obtain ⟨i1, i2⟩ := kDr_eq hp hn hr hF hw ho n (by omega)
    have hk : o + n < ni := by omega
    have eD : kDr (fun j => kEn (par j)) (fun j => kEn (rt j)) F (nI o) o (n + 1) = kDs (fun j => kEn (par j)) (fun j => kEn (rt j)) F (nI o) (o + n) (kDr (fun j => kEn (par j)) (fun j => kEn (rt j)) F (nI o) o n) := rfl
    rw [eD, show o + (n + 1) = (o + n) + 1 by omega]
    unfold kDs
    show _ = (bif !decide (kEn (rt (o + n)) = -1) && kBl (fun j => kEn (par j)) (nI (o + n)) (nI o) then _ else _) ∧ _
    rw [kEn_none (fun q hq => hr (o + n) q hk hq), Bool.not_not, kBl_eq hp hn ho hk]
    cases hb : ((rt (o + n)).isSome && kUn par o (o + n)) with
    | false =>
      rw [kDst_f (b := fun j => (rt j).isSome && kUn par o j) hb]
      refine ⟨i1, i2.imp id ?_⟩
      rintro ⟨t, h1, h2⟩
      exact ⟨t, by omega, h2⟩
    | true =>
      have hs : (rt (o + n)).isSome = true := k_andl hb
      simp only [cond_true]
      rcases i2 with ⟨h1, h2⟩ | ⟨t, h1, h2, h3, h4⟩
      · have hc : decide (lg_cmp (w (o + n)) (kDst (fun j => (rt j).isSome && kUn par o j) w (o + n)).2 ≤ 0) = false := by
          rw [h2]
          refine decide_eq_false (fun g => ?_)
          have g2 := (lg_cmp_le _ _).mp g
          rw [Int64.le_iff_toInt_le] at g2
          have := hw (o + n) hk
          have e1 : (-1 : Int64).toInt = -1 := rfl
          omega
        rw [kDst_t (b := fun j => (rt j).isSome && kUn par o j) hb hc, h1, decide_eq_true rfl]
        exact ⟨rfl, Or.inr ⟨o + n, by omega, hs, rfl, rfl⟩⟩
      · rw [h3, kNI_m1 (by omega), nI_clamp (by omega), hF (o + n) hk hs, hF t (by omega) h2]
        simp only [cond_false]
        cases hc : decide (lg_cmp (w (o + n)) (w t) ≤ 0) with
        | false =>
          rw [kDst_t (b := fun j => (rt j).isSome && kUn par o j) hb (by rw [h4]; exact hc)]
          exact ⟨rfl, Or.inr ⟨o + n, by omega, hs, rfl, rfl⟩⟩
        | true =>
          rw [kDst_n (b := fun j => (rt j).isSome && kUn par o j) (by rw [h4]; exact hc)]
          exact ⟨i1.trans h3, Or.inr ⟨t, by omega, h2, rfl, h4⟩⟩
/-- the rate that is there already -/
theorem kKn_no {l9 p9 m9 : Int32} : ∀ {n : Nat}, kNoR fA l9 p9 m9 n = true → kKn fA l9 p9 m9 n = -1
  | 0, _ => rfl
  | n + 1, h => by
    have h1 : (kNoR fA l9 p9 m9 n && !kRe fA l9 p9 m9 n) = true := h
    have h2 := k_notf (k_andr h1)
    unfold kRe at h2
    show (bif decide (fA (3 * n) = l9) then (bif decide (fA (3 * n + 1) = p9) then (bif decide (fA (3 * n + 2) = m9) then nI n else kKn fA l9 p9 m9 n) else kKn fA l9 p9 m9 n) else kKn fA l9 p9 m9 n) = -1
    have ih := kKn_no (k_andl h1)
    rw [ih]
    cases a : decide (fA (3 * n) = l9) <;> cases b : decide (fA (3 * n + 1) = p9) <;> cases c : decide (fA (3 * n + 2) = m9) <;> rw [a, b, c] at h2 <;> first | rfl | cases h2
theorem kKn_at {l9 p9 m9 : Int32} (hd : ∀ i j, i < j → j < nr → ¬ (fA (3 * i) = fA (3 * j) ∧ fA (3 * i + 1) = fA (3 * j + 1) ∧ fA (3 * i + 2) = fA (3 * j + 2))) {j : Nat} (hj : j < nr) (h : kRe fA l9 p9 m9 j = true) : ∀ n, n ≤ nr → kKn fA l9 p9 m9 n = if j < n then nI j else -1
  | 0, _ => by rw [if_neg (Nat.not_lt_zero _)]; rfl
  | n + 1, hn => by
    have h1 := of_decide_eq_true (k_andl h)
    have h2 := of_decide_eq_true (k_andl (k_andr h))
    have h3 := of_decide_eq_true (k_andr (k_andr h))
    show (bif decide (fA (3 * n) = l9) then (bif decide (fA (3 * n + 1) = p9) then (bif decide (fA (3 * n + 2) = m9) then nI n else kKn fA l9 p9 m9 n) else kKn fA l9 p9 m9 n) else kKn fA l9 p9 m9 n) = _
    rw [kKn_at hd hj h n (by omega)]
    by_cases e : j = n
    · subst e
      rw [decide_eq_true h1, decide_eq_true h2, decide_eq_true h3, if_pos (Nat.lt_succ_self _)]; rfl
    · have hno : ¬ (fA (3 * n) = l9 ∧ fA (3 * n + 1) = p9 ∧ fA (3 * n + 2) = m9) := fun g => by
        rcases Nat.lt_or_gt_of_ne e with g2 | g2
        · exact hd j n g2 (by omega) ⟨h1.trans g.1.symm, h2.trans g.2.1.symm, h3.trans g.2.2.symm⟩
        · exact hd n j g2 hj ⟨g.1.trans h1.symm, g.2.1.trans h2.symm, g.2.2.trans h3.symm⟩
      have hif : (if j < n then nI j else (-1 : Int32)) = if j < n + 1 then nI j else -1 := by
        by_cases g : j < n
        · rw [if_pos g, if_pos (by omega)]
        · rw [if_neg g, if_neg (by omega)]
      rw [← hif]
      cases a : decide (fA (3 * n) = l9) <;> cases b : decide (fA (3 * n + 1) = p9) <;> cases c : decide (fA (3 * n + 2) = m9) <;> first | rfl | exact absurd ⟨of_decide_eq_true a, of_decide_eq_true b, of_decide_eq_true c⟩ hno
theorem kIt_of (hp : ∀ j q, j < ni → par j = some q → q < j) (hr : ∀ j q, j < ni → rt j = some q → q < nr) (hn : nr ≤ 12) : kIt (fun j => kEn (par j)) (fun j => kEn (rt j)) ni := by
  intro j hj
  constructor
  · show kEn (rt j) = -1 ∨ vp_in (kEn (rt j)) 12
    cases hq : rt j with
    | none => exact Or.inl rfl
    | some q => exact Or.inr (vp_in_nI (by have := hr j q hj hq; omega) (by omega))
  · show kEn (par j) = -1 ∨ ∃ q, q < j ∧ kEn (par j) = nI q
    cases hq : par j with
    | none => exact Or.inl rfl
    | some q => exact Or.inr ⟨q, hp j q hj hq, rfl⟩
end KBL
/-- a number of one of n things, as the reference asks -/
theorem kNum_eq {i : Int32} {n : Nat} (hn : n < 2 ^ 31) : kIn i 0 (nI n - 1) = kNum i n := by
  rw [Bool.eq_iff_iff, kIn_iff, k_nI1 hn]
  have e0 : (0 : Int32).toInt = 0 := rfl
  unfold kNum
  by_cases h : i < 0
  · rw [decide_eq_true h]
    rw [k_i32lt, e0] at h
    exact ⟨fun g => by omega, fun g => by cases g⟩
  · rw [decide_eq_false h, cond_false, decide_eq_true_eq, k_i32lt, nI_toInt hn]
    rw [k_i32lt, e0] at h
    omega
