/-! ===== net areas ===== -/
theorem kLs_eq {fQ fH : Nat → Int32} {lim a0 : Int32} : ∀ {n : Nat}, (∀ j, j < n → fH j = fQ j) → kNs fH lim a0 n = kLs fQ lim a0 n
  | 0, _ => rfl
  | n + 1, h => by
    show kNs fH lim a0 n - (bif decide (fH n ≤ lim) then 0 else fH n) = bif decide (fQ n ≤ lim) then kLs fQ lim a0 n else kLs fQ lim a0 n - fQ n
    rw [kLs_eq (n := n) (fun j hj => h j (by omega)), h n (by omega)]
    cases decide (fQ n ≤ lim)
    · rfl
    · exact Int32.sub_zero _
theorem kLs_zero {fQ : Nat → Int32} {lim a0 : Int32} (hl : 0 ≤ lim) {oc : Nat} (h : ∀ j, oc ≤ j → fQ j = 0) : ∀ n, oc ≤ n → kLs fQ lim a0 n = kLs fQ lim a0 oc
  | 0, hn => by rw [show oc = 0 by omega]
  | n + 1, hn => by
    by_cases e : oc = n + 1
    · rw [e]
    · show (bif decide (fQ n ≤ lim) then kLs fQ lim a0 n else kLs fQ lim a0 n - fQ n) = _
      rw [h n (by omega), decide_eq_true hl]
      exact kLs_zero hl h n (by omega)
theorem kNet_eq {fQ fH : Nat → Int32} {lim tw : Int32} {oc : Nat} (hoc : oc ≤ 10) (hl : 0 ≤ lim) (h1 : ∀ j, j < oc → fH j = fQ j) (h2 : ∀ j, oc ≤ j → fQ j = 0) : kNet fH lim tw oc = kAl fQ lim tw := by
  unfold kNet kAl
  rw [kWh_eq, kLs_eq h1, ← kLs_zero hl h2 10 hoc]
  generalize kLs fQ lim (kAb tw) 10 = N
  by_cases h : 0 ≤ N
  · rw [decide_eq_true h]
    by_cases h3 : 0 < N
    · rw [if_pos h3]; rfl
    · rw [if_neg h3]
      show N = 0
      have e0 : (0 : Int32).toInt = 0 := rfl
      rw [k_i32le, e0] at h
      rw [k_i32lt, e0] at h3
      exact Int32.toInt_inj.mp (by rw [e0]; omega)
  · rw [decide_eq_false h, if_neg (fun q => h (by rw [k_i32le]; rw [k_i32lt] at q; omega))]; rfl
theorem kLs_bd {fQ : Nat → Int32} {lim a0 : Int32} (h : ∀ j, 0 ≤ (fQ j).toInt ∧ (fQ j).toInt ≤ 1600) (h0 : 0 ≤ a0.toInt ∧ a0.toInt ≤ 1600) : ∀ n : Nat, n ≤ 10 → -(1600 * (n : Int)) ≤ (kLs fQ lim a0 n).toInt ∧ (kLs fQ lim a0 n).toInt ≤ a0.toInt
  | 0, _ => ⟨by show -(1600 * ((0 : Nat) : Int)) ≤ a0.toInt; omega, Int.le_refl _⟩
  | n + 1, hn => by
    have ih := kLs_bd (lim := lim) h h0 n (by omega)
    have e : kLs fQ lim a0 (n + 1) = bif decide (fQ n ≤ lim) then kLs fQ lim a0 n else kLs fQ lim a0 n - fQ n := rfl
    have hq := h n
    rw [e]
    cases decide (fQ n ≤ lim)
    · simp only [cond_false]
      rw [t32_sub (by omega) (by omega)]
      omega
    · simp only [cond_true]
      omega
theorem kAl_bd {fQ : Nat → Int32} {lim tw : Int32} (h : ∀ j, 0 ≤ (fQ j).toInt ∧ (fQ j).toInt ≤ 1600) (h0 : 0 ≤ (kAb tw).toInt ∧ (kAb tw).toInt ≤ 1600) : 0 ≤ (kAl fQ lim tw).toInt ∧ (kAl fQ lim tw).toInt ≤ 1600 := by
  have bd := kLs_bd (lim := lim) h h0 10 (Nat.le_refl _)
  have e0 : (0 : Int32).toInt = 0 := rfl
  unfold kAl
  by_cases h3 : 0 < kLs fQ lim (kAb tw) 10
  · rw [if_pos h3]
    rw [k_i32lt, e0] at h3
    omega
  · rw [if_neg h3, e0]; omega
/-! ===== who stands under whom ===== -/
/-- a number, or -1 -/
def kEn (o : Option Nat) : Int32 := match o with
  | none => -1
  | some q => nI q
theorem kEn_none {o : Option Nat} (h : ∀ q, o = some q → q < 2 ^ 31) : decide (kEn o = -1) = !o.isSome := by
  cases o with
  | none => rfl
  | some q => exact kNI_m1 (h q rfl)
section KU
variable {par rt : Nat → Option Nat} {ni : Nat}
theorem kSu_S (o n k : Nat) : kSu par o (n + 1) (some k) = bif decide (k = o) then true else kSu par o n (par k) := rfl
theorem kSu_N (o n : Nat) : kSu par o n none = false := by cases n <;> rfl
theorem kSu_ge (hp : ∀ j q, j < ni → par j = some q → q < j) {o : Nat} : ∀ (n : Nat) (k : Nat), k < ni → kSu par o n (some k) = true → o ≤ k
  | 0, k, _, h => by cases h
  | n + 1, k, hk, h => by
    rw [kSu_S] at h
    by_cases e : k = o
    · omega
    · rw [decide_eq_false e] at h
      cases hq : par k with
      | none => rw [hq] at h; exact absurd ((kSu_N o n).symm.trans h) (by decide)
      | some q =>
        rw [hq] at h
        have := hp k q hk hq
        have := kSu_ge hp n q (by omega) h
        omega
theorem kSu_fuel (hp : ∀ j q, j < ni → par j = some q → q < j) {o : Nat} : ∀ (n : Nat) (k : Nat), k < n → k < ni → kSu par o (n + 1) (some k) = kSu par o n (some k)
  | 0, k, h, _ => absurd h (Nat.not_lt_zero _)
  | n + 1, k, h, hk => by
    rw [kSu_S, kSu_S]
    cases hq : par k with
    | none => rw [kSu_N, kSu_N]
    | some q =>
      have := hp k q hk hq
      rw [kSu_fuel hp n q (by omega) (by omega)]
/-- item i stands under o -/
abbrev kUn (par : Nat → Option Nat) (o i : Nat) : Bool := kSu par o 31 (some i)
theorem kUn_self (o : Nat) : kUn par o o = true := by
  show (bif decide (o = o) then true else kSu par o 30 (par o)) = true
  rw [decide_eq_true rfl]; rfl
theorem kUn_par (hp : ∀ j q, j < ni → par j = some q → q < j) (hn : ni ≤ 30) {o k q : Nat} (hk : k < ni) (hne : k ≠ o) (hq : par k = some q) : kUn par o k = kUn par o q := by
  have := hp k q hk hq
  show (bif decide (k = o) then true else kSu par o 30 (par k)) = _
  rw [decide_eq_false hne, hq]
  exact (kSu_fuel hp 30 q (by omega) (by omega)).symm
theorem kUn_no {o k : Nat} (hne : k ≠ o) (hq : par k = none) : kUn par o k = false := by
  show (bif decide (k = o) then true else kSu par o 30 (par k)) = _
  rw [decide_eq_false hne, hq]; rfl
theorem kUn_lt (hp : ∀ j q, j < ni → par j = some q → q < j) {o k : Nat} (hk : k < ni) (h : k < o) : kUn par o k = false := by
  cases hc : kUn par o k with
  | false => rfl
  | true => exact absurd (kSu_ge hp 31 k hk hc) (by omega)
/-- nothing stands under a leaf but itself -/
theorem kUn_leaf (hp : ∀ j q, j < ni → par j = some q → q < j) (hh : ∀ j q, j < ni → par j = some q → rt q = none) (hn : ni ≤ 30) {o : Nat} (ho : (rt o).isSome = true) : ∀ (b k : Nat), k < b → k < ni → k ≠ o → kUn par o k = false
  | 0, k, h, _, _ => absurd h (Nat.not_lt_zero _)
  | b + 1, k, h, hk, hne => by
    cases hq : par k with
    | none => exact kUn_no hne hq
    | some q =>
      rw [kUn_par hp hn hk hne hq]
      have h1 := hp k q hk hq
      refine kUn_leaf hp hh hn ho b q (by omega) (by omega) (fun e => ?_)
      rw [← e, hh k q hk hq] at ho
      cases ho
/-- the reference's way up -/
theorem kUp_m1 (fPa : Nat → Int32) {o : Nat} (ho : o < 2 ^ 31) : ∀ n, kUp fPa (nI o) n (-1) = -1
  | 0 => rfl
  | n + 1 => kUp_stop (k_nIneg (j := 0) ho)
theorem kUp_iff (hp : ∀ j q, j < ni → par j = some q → q < j) (hn : ni ≤ 30) {o : Nat} (ho : o < ni) : ∀ (n k : Nat), k < n → k < ni → decide (kUp (fun j => kEn (par j)) (nI o) n (nI k) = nI o) = kSu par o n (some k)
  | 0, k, h, _ => absurd h (Nat.not_lt_zero _)
  | n + 1, k, h, hk => by
    rw [kSu_S]
    by_cases hle : k ≤ o
    · rw [kUp_stop (decide_eq_true (nI_le hle (by omega)))]
      by_cases e : k = o
      · rw [e, decide_eq_true rfl, decide_eq_true rfl]; rfl
      · rw [decide_eq_false e, decide_eq_false (fun q => e ((nI_eq (by omega) (by omega)).mp q))]
        cases hq : par k with
        | none => rw [kSu_N]; rfl
        | some q =>
          have := hp k q hk hq
          cases hc : kSu par o n (some q) with
          | false => rfl
          | true => exact absurd (kSu_ge hp n q (by omega) hc) (by omega)
    · rw [kUp_step (decide_eq_false (nI_ge (by omega) (by omega))), nI_clamp (by omega), decide_eq_false (show ¬ k = o by omega)]
      cases hq : par k with
      | none =>
        rw [kSu_N]
        show decide (kUp (fun j => kEn (par j)) (nI o) n (-1) = nI o) = _
        rw [kUp_m1 _ (by omega)]
        exact decide_eq_false (fun q => absurd (q.symm) (by
          have := kNI_m1 (j := o) (by omega)
          exact of_decide_eq_false this))
      | some q =>
        have := hp k q hk hq
        exact kUp_iff hp hn ho n q (by omega) (by omega)
theorem kBl_eq (hp : ∀ j q, j < ni → par j = some q → q < j) (hn : ni ≤ 30) {o k : Nat} (ho : o < ni) (hk : k < ni) : kBl (fun j => kEn (par j)) (nI k) (nI o) = kUn par o k := kUp_iff hp hn ho 31 k (by omega) hk
end KU
/-! ===== sums ===== -/
section KS
variable {par rt : Nat → Option Nat} {ni : Nat} {w : Nat → Int64} {fPa fR fW fMe fV fA fP : Nat → Int32}
theorem kSm_0 {b : Nat → Bool} {f : Nat → Int64} : ∀ {n : Nat}, (∀ i, i < n → b i = false) → kSm b f n = 0
  | 0, _ => rfl
  | n + 1, h => by rw [kSm_f (h n (by omega))]; exact kSm_0 (fun i hi => h i (by omega))
theorem kSm_congr {b : Nat → Bool} {f g : Nat → Int64} : ∀ {n : Nat}, (∀ i, i < n → f i = g i) → kSm b f n = kSm b g n
  | 0, _ => rfl
  | n + 1, h => by
    show (bif b n then kSm b f n + f n else kSm b f n) = (bif b n then kSm b g n + g n else kSm b g n)
    rw [kSm_congr (n := n) (fun i hi => h i (by omega)), h n (by omega)]
theorem kSm_one {b : Nat → Bool} {f : Nat → Int64} {i : Nat} (hi : b i = true) : ∀ {n : Nat}, i < n → (∀ j, j < n → j ≠ i → b j = false) → kSm b f n = f i
  | 0, h, _ => absurd h (Nat.not_lt_zero _)
  | n + 1, h, h2 => by
    by_cases e : i = n
    · subst e
      rw [kSm_t hi, kSm_0 (fun j hj => h2 j (by omega) (by omega)), Int64.zero_add]
    · rw [kSm_f (h2 n (by omega) (fun q => e q.symm))]
      exact kSm_one hi (by omega) (fun j hj hne => h2 j (by omega) hne)
/-- one term more at p -/
theorem kSm_up {b : Nat → Bool} {f g : Nat → Int64} {p : Nat} {v : Int64} (hp : g p = f p + v) : ∀ {n : Nat}, p < n → (∀ j, j ≠ p → g j = f j) → kSm b g n = kSm b f n + (bif b p then v else 0)
  | 0, h, _ => absurd h (Nat.not_lt_zero _)
  | n + 1, h, h2 => by
    show (bif b n then kSm b g n + g n else kSm b g n) = (bif b n then kSm b f n + f n else kSm b f n) + _
    by_cases e : p = n
    · subst e
      rw [kSm_congr (n := p) (g := f) (fun i hi => h2 i (by omega)), hp]
      cases b p
      · exact (Int64.add_zero _).symm
      · simp only [cond_true]; rw [Int64.add_assoc]
    · rw [kSm_up (n := n) hp (by omega) h2, h2 n (fun q => e q.symm)]
      cases b n
      · rfl
      · simp only [cond_true]
        rw [Int64.add_assoc, Int64.add_assoc, Int64.add_comm (f n)]
theorem vp_updL_at (S : Nat → Int64) (k : Nat) (v : Int64) (j : Nat) : vp_updL S k v j = if j = k then v else S j := rfl
/-- the reference's sums, worked out from the last item to the first -/
theorem kFd_at (hp : ∀ j q, j < ni → par j = some q → q < j) (hh : ∀ j q, j < ni → par j = some q → rt q = none) (hn : ni ≤ 30) (hr : ∀ j q, j < ni → rt j = some q → q < 2 ^ 31)
    (ho : ∀ j, j < ni → (rt j).isSome = true → kOwn (fMe j) (fW j) (fV j) (kCt fA fP (kEn (rt j)).toNatClampNeg) = w j) (hz : ∀ j, j < ni → rt j = none → w j = 0) :
    ∀ (k : Nat), k ≤ ni → ∀ (S : Nat → Int64), (∀ i, i < k → (rt i).isSome = true → S i = 0) → ∀ o, o < ni → kFd (fun j => kEn (par j)) (fun j => kEn (rt j)) fW fMe fV fA fP k S o = (if o < k then 0 else S o) + kSm (kUn par o) (fun i => S i + w i) k
  | 0, _, S, _, o, _ => by
    show S o = (if o < 0 then 0 else S o) + 0
    rw [if_neg (Nat.not_lt_zero _), Int64.add_zero]
  | k + 1, hk, S, hS, o, ho9 => by
    show kFd (fun j => kEn (par j)) (fun j => kEn (rt j)) fW fMe fV fA fP k (kFp (fun j => kEn (par j)) k (kFs (fun j => kEn (par j)) (fun j => kEn (rt j)) fW fMe fV fA fP k S)) o = _
    -- the item's own sum
    have h1 : ∀ i, kFs (fun j => kEn (par j)) (fun j => kEn (rt j)) fW fMe fV fA fP k S i = if i = k then S k + w k else S i := by
      intro i
      unfold kFs
      show (bif decide (kEn (rt k) = -1) then S else vp_updL S k (kOwn (fMe k) (fW k) (fV k) (kCt fA fP (kEn (rt k)).toNatClampNeg))) i = _
      rw [kEn_none (fun q hq => hr k q (by omega) hq)]
      cases hq : rt k with
      | none =>
        show S i = _
        by_cases e : i = k
        · rw [if_pos e, hz k (by omega) hq, Int64.add_zero, e]
        · rw [if_neg e]
      | some q =>
        show vp_updL S k (kOwn (fMe k) (fW k) (fV k) (kCt fA fP (kEn (some q)).toNatClampNeg)) i = _
        rw [← hq, ho k (by omega) (by rw [hq]; rfl), vp_updL_at, hS k (by omega) (by rw [hq]; rfl), Int64.zero_add]
    generalize kFs (fun j => kEn (par j)) (fun j => kEn (rt j)) fW fMe fV fA fP k S = S1 at h1
    have hk1 : S1 k = S k + w k := by rw [h1, if_pos rfl]
    have hlt : ∀ i, i ≠ k → S1 i = S i := fun i hi => by rw [h1, if_neg hi]
    have hsm : kSm (kUn par o) (fun i => S1 i + w i) k = kSm (kUn par o) (fun i => S i + w i) k := kSm_congr (fun i hi => by rw [hlt i (by omega)])
    cases hq : par k with
    | none =>
      have e : kFp (fun j => kEn (par j)) k S1 = S1 := by
        unfold kFp
        show (bif decide (kEn (par k) = -1) then S1 else _) = _
        rw [hq]; rfl
      rw [e, kFd_at hp hh hn hr ho hz k (by omega) S1 (fun i hi h9 => by rw [hlt i (by omega)]; exact hS i (by omega) h9) o ho9, hsm]
      by_cases e1 : o = k
      · subst e1
        rw [if_neg (Nat.lt_irrefl _), if_pos (Nat.lt_succ_self _), kSm_t (kUn_self o), hk1, kSm_0 (fun i hi => kUn_lt hp (by omega) hi), Int64.add_zero, Int64.zero_add, Int64.zero_add]
      · rw [kSm_f (kUn_no (fun q => e1 q.symm) hq), hlt o e1]
        by_cases e2 : o < k
        · rw [if_pos e2, if_pos (by omega)]
        · rw [if_neg e2, if_neg (by omega)]
    | some p =>
      have hpk := hp k p (by omega) hq
      have e : ∀ i, kFp (fun j => kEn (par j)) k S1 i = if i = p then S1 p + S1 k else S1 i := by
        intro i
        unfold kFp
        show (bif decide (kEn (par k) = -1) then S1 else vp_updL S1 (kEn (par k)).toNatClampNeg (S1 (kEn (par k)).toNatClampNeg + S1 k)) i = _
        rw [hq]
        show (bif decide (nI p = -1) then S1 else vp_updL S1 (nI p).toNatClampNeg (S1 (nI p).toNatClampNeg + S1 k)) i = _
        rw [kNI_m1 (by omega), nI_clamp (by omega)]
        rfl
      generalize kFp (fun j => kEn (par j)) k S1 = S2 at e
      have hp2 : S2 p = S1 p + S1 k := by rw [e, if_pos rfl]
      have h2lt : ∀ i, i ≠ p → S2 i = S1 i := fun i hi => by rw [e, if_neg hi]
      have hhd := hh k p (by omega) hq
      rw [kFd_at hp hh hn hr ho hz k (by omega) S2 (fun i hi h9 => by
        by_cases e9 : i = p
        · rw [e9, hhd] at h9; cases h9
        · rw [h2lt i e9, hlt i (by omega)]; exact hS i (by omega) h9) o ho9]
      rw [kSm_up (f := fun i => S1 i + w i) (v := S1 k) (p := p) (by show S2 p + w p = S1 p + w p + S1 k; rw [hp2, Int64.add_assoc, Int64.add_assoc, Int64.add_comm (S1 k)]) hpk (fun j hj => by show S2 j + w j = S1 j + w j; rw [h2lt j hj]), hsm]
      by_cases e1 : o = k
      · subst e1
        rw [if_neg (Nat.lt_irrefl _), if_pos (Nat.lt_succ_self _), kSm_t (kUn_self o), h2lt o (by omega), hk1, kSm_0 (fun i hi => kUn_lt hp (by omega) hi), kUn_lt hp (by omega) hpk]
        show S o + w o + (0 + 0) = 0 + (0 + (S o + w o))
        rw [Int64.add_zero, Int64.add_zero, Int64.zero_add, Int64.zero_add]
      · have e3 := kUn_par (o := o) hp hn (show k < ni by omega) (fun q => e1 q.symm) hq
        by_cases e2 : o < k
        · rw [if_pos e2, if_pos (by omega), ← e3]
          cases hu : kUn par o k with
          | true => rw [kSm_t hu, hk1]; rfl
          | false =>
            rw [kSm_f hu]
            show 0 + (_ + 0) = _
            rw [Int64.add_zero]
        · rw [if_neg e2, if_neg (by omega), ← e3, kUn_lt hp (show k < ni by omega) (by omega), kSm_f (kUn_lt hp (show k < ni by omega) (by omega)), h2lt o (by omega), hlt o e1]
          show _ + (_ + 0) = _
          rw [Int64.add_zero]
theorem kFl_at (hp : ∀ j q, j < ni → par j = some q → q < j) (hh : ∀ j q, j < ni → par j = some q → rt q = none) (hn : ni ≤ 30) (hr : ∀ j q, j < ni → rt j = some q → q < 2 ^ 31)
    (ho : ∀ j, j < ni → (rt j).isSome = true → kOwn (fMe j) (fW j) (fV j) (kCt fA fP (kEn (rt j)).toNatClampNeg) = w j) (hz : ∀ j, j < ni → rt j = none → w j = 0) (S : Nat → Int64) {o : Nat} (ho9 : o < ni) :
    kFl (fun j => kEn (par j)) (fun j => kEn (rt j)) fW fMe fV fA fP ni S o = kSm (kUn par o) w ni := by
  unfold kFl
  have h0 : ∀ i, i < ni → kZr S ni i = 0 := fun i hi => by unfold kZr; rw [if_pos hi]
  rw [kFd_at hp hh hn hr ho hz ni (Nat.le_refl _) _ (fun i hi _ => h0 i hi) o ho9, if_pos ho9, Int64.zero_add]
  exact kSm_congr (fun i hi => by rw [h0 i hi, Int64.zero_add])
theorem kFl_leaf (hp : ∀ j q, j < ni → par j = some q → q < j) (hh : ∀ j q, j < ni → par j = some q → rt q = none) (hn : ni ≤ 30) (hr : ∀ j q, j < ni → rt j = some q → q < 2 ^ 31)
    (ho : ∀ j, j < ni → (rt j).isSome = true → kOwn (fMe j) (fW j) (fV j) (kCt fA fP (kEn (rt j)).toNatClampNeg) = w j) (hz : ∀ j, j < ni → rt j = none → w j = 0) (S : Nat → Int64) {o : Nat} (ho9 : o < ni) (hl : (rt o).isSome = true) :
    kFl (fun j => kEn (par j)) (fun j => kEn (rt j)) fW fMe fV fA fP ni S o = w o := by
  rw [kFl_at hp hh hn hr ho hz S ho9]
  exact kSm_one (kUn_self o) ho9 (fun j hj hne => kUn_leaf hp hh hn hl 31 j (by omega) hj hne)
end KS
