/-! ===== closed paths of unit steps: the squares inside, by strips and by corners ===== -/
def qS (f : Nat → Int) : Nat → Int
  | 0 => 0
  | n + 1 => qS f n + f n
theorem qS_congr {f g : Nat → Int} : ∀ {n : Nat}, (∀ i, i < n → f i = g i) → qS f n = qS g n
  | 0, _ => rfl
  | n + 1, h => by
    show qS f n + f n = qS g n + g n
    rw [qS_congr (fun i hi => h i (by omega)), h n (by omega)]
theorem qS_add (f g : Nat → Int) : ∀ n, qS (fun i => f i + g i) n = qS f n + qS g n
  | 0 => rfl
  | n + 1 => by
    show qS (fun i => f i + g i) n + (f n + g n) = (qS f n + f n) + (qS g n + g n)
    rw [qS_add f g n]; omega
theorem qS_sub (f g : Nat → Int) : ∀ n, qS (fun i => f i - g i) n = qS f n - qS g n
  | 0 => rfl
  | n + 1 => by
    show qS (fun i => f i - g i) n + (f n - g n) = (qS f n + f n) - (qS g n + g n)
    rw [qS_sub f g n]; omega
theorem qS_neg (f : Nat → Int) : ∀ n, qS (fun i => - f i) n = - qS f n
  | 0 => rfl
  | n + 1 => by
    show qS (fun i => - f i) n + (- f n) = - (qS f n + f n)
    rw [qS_neg f n]; omega
theorem qS_zero {f : Nat → Int} {n : Nat} (h : ∀ i, i < n → f i = 0) : qS f n = 0 := by
  induction n with
  | zero => rfl
  | succ n ih =>
    show qS f n + f n = 0
    rw [ih (fun i hi => h i (by omega)), h n (by omega)]; rfl
theorem qS_tel (t : Nat → Int) : ∀ n, qS (fun i => t i - t (i + 1)) n = t 0 - t n
  | 0 => by show (0 : Int) = t 0 - t 0; omega
  | n + 1 => by
    show qS (fun i => t i - t (i + 1)) n + (t n - t (n + 1)) = t 0 - t (n + 1)
    rw [qS_tel t n]; omega
theorem qS_one {f : Nat → Int} {i : Nat} : ∀ {n : Nat}, i < n → (∀ j, j < n → j ≠ i → f j = 0) → qS f n = f i
  | 0, hi, _ => absurd hi (by omega)
  | n + 1, hi, h => by
    show qS f n + f n = f i
    by_cases e : i = n
    · subst e
      rw [qS_zero (fun j hj => h j (by omega) (by omega))]; omega
    · rw [qS_one (n := n) (by omega) (fun j hj hne => h j (by omega) hne), h n (by omega) (fun e2 => e e2.symm)]; omega
theorem qS_two {f : Nat → Int} {i : Nat} : ∀ {n : Nat}, i + 1 < n → (∀ j, j < n → j ≠ i → j ≠ i + 1 → f j = 0) → qS f n = f i + f (i + 1)
  | 0, hi, _ => absurd hi (by omega)
  | n + 1, hi, h => by
    show qS f n + f n = f i + f (i + 1)
    by_cases e : i + 1 = n
    · subst e
      rw [qS_one (i := i) (by omega) (fun j hj hne => h j (by omega) hne (by omega))]
    · rw [qS_two (n := n) (by omega) (fun j hj h1 h2 => h j (by omega) h1 h2), h n (by omega) (by omega) (by omega)]; omega
/-- a step's part in the winding number of the square (c, r); its flow from u to v -/
def qW (ax ay bx by9 c r : Int) : Int := if ax = bx ∧ ax ≤ c then (if ay = r ∧ by9 = r + 1 then 1 else if ay = r + 1 ∧ by9 = r then -1 else 0) else 0
def qF (ax ay bx by9 ux uy vx vy : Int) : Int := (if ax = ux ∧ ay = uy ∧ bx = vx ∧ by9 = vy then 1 else 0) - (if ax = vx ∧ ay = vy ∧ bx = ux ∧ by9 = uy then 1 else 0)
def qG (x y c r : Int) : Int := if y = r ∧ x ≤ c then 1 else 0
def qU (ax ay bx by9 : Int) : Prop := (bx = ax + 1 ∧ by9 = ay) ∨ (bx = ax ∧ by9 = ay + 1) ∨ (bx = ax - 1 ∧ by9 = ay) ∨ (bx = ax ∧ by9 = ay - 1)
theorem qW_v (ax ay bx by9 c r : Int) : qW ax ay bx by9 c r - qW ax ay bx by9 (c - 1) r = qF ax ay bx by9 c r c (r + 1) := by
  unfold qW qF; grind
theorem qW_h {ax ay bx by9 : Int} (hU : qU ax ay bx by9) (c r : Int) : qW ax ay bx by9 c r - qW ax ay bx by9 c (r - 1) + qF ax ay bx by9 c r (c + 1) r = qG ax ay c r - qG bx by9 c r := by
  unfold qU at hU
  unfold qW qF qG
  rcases hU with ⟨rfl, rfl⟩ | ⟨rfl, rfl⟩ | ⟨rfl, rfl⟩ | ⟨rfl, rfl⟩ <;> grind
theorem qF_anti (ax ay bx by9 ux uy vx vy : Int) : qF ax ay bx by9 ux uy vx vy = - qF ax ay bx by9 vx vy ux uy := by
  unfold qF; omega
/-- a closed path: unit steps, its places apart, inside 0 to 40 -/
def qPath (px py : Nat → Int) (n : Nat) : Prop := (∀ i, i < n → qU (px i) (py i) (px (i + 1)) (py (i + 1))) ∧ (∀ i j, i < j → j < n → ¬ (px i = px j ∧ py i = py j)) ∧ px n = px 0 ∧ py n = py 0 ∧ 3 ≤ n ∧ ∀ i, i ≤ n → 0 ≤ px i ∧ px i ≤ 40 ∧ 0 ≤ py i ∧ py i ≤ 40
def qw (px py : Nat → Int) (n : Nat) (c r : Int) : Int := qS (fun i => qW (px i) (py i) (px (i + 1)) (py (i + 1)) c r) n
def qf (px py : Nat → Int) (n : Nat) (ux uy vx vy : Int) : Int := qS (fun i => qF (px i) (py i) (px (i + 1)) (py (i + 1)) ux uy vx vy) n
section QP
variable {px py : Nat → Int} {n : Nat}
theorem qw_v (c r : Int) : qw px py n c r - qw px py n (c - 1) r = qf px py n c r c (r + 1) := by
  unfold qw qf
  rw [← qS_sub]
  exact qS_congr (fun i _ => qW_v _ _ _ _ c r)
theorem qf_anti (ux uy vx vy : Int) : qf px py n ux uy vx vy = - qf px py n vx vy ux uy := by
  unfold qf
  rw [← qS_neg]
  exact qS_congr (fun i _ => qF_anti _ _ _ _ _ _ _ _)
theorem qw_h (h : qPath px py n) (c r : Int) : qw px py n c r - qw px py n c (r - 1) = - qf px py n c r (c + 1) r := by
  have h1 : qS (fun i => qW (px i) (py i) (px (i + 1)) (py (i + 1)) c r - qW (px i) (py i) (px (i + 1)) (py (i + 1)) c (r - 1) + qF (px i) (py i) (px (i + 1)) (py (i + 1)) c r (c + 1) r) n = qG (px 0) (py 0) c r - qG (px n) (py n) c r := by
    rw [← qS_tel (fun i => qG (px i) (py i) c r) n]
    exact qS_congr (fun i hi => qW_h (h.1 i hi) c r)
  rw [h.2.2.1, h.2.2.2.1, qS_add, qS_sub] at h1
  unfold qw qf
  omega
theorem qNe (h : qPath px py n) {i j : Nat} (hi : i < n) (hj : j < n) (hne : i ≠ j) (e1 : px i = px j) (e2 : py i = py j) : False := by
  rcases Nat.lt_or_gt_of_ne hne with g | g
  · exact h.2.1 i j g hj ⟨e1, e2⟩
  · exact h.2.1 j i g hi ⟨e1.symm, e2.symm⟩
theorem qNe1 (h : qPath px py n) {i j : Nat} (hi : i < n) (hj : j < n) (hne : j + 1 ≠ i) (h0 : i ≠ 0) (e1 : px (j + 1) = px i) (e2 : py (j + 1) = py i) : False := by
  by_cases g : j + 1 = n
  · rw [g, h.2.2.1] at e1
    rw [g, h.2.2.2.1] at e2
    exact qNe h (by omega) hi (fun e => h0 e.symm) e1 e2
  · exact qNe h (by omega) hi hne e1 e2
theorem qU_ne {ax ay bx by9 : Int} (h : qU ax ay bx by9) (e1 : ax = bx) (e2 : ay = by9) : False := by
  unfold qU at h; omega
theorem qf_at (h : qPath px py n) {k : Nat} (hk : k + 1 < n) (ux uy : Int) : qf px py n (px (k + 1)) (py (k + 1)) ux uy = (if px (k + 2) = ux ∧ py (k + 2) = uy then 1 else 0) - (if px k = ux ∧ py k = uy then 1 else 0) := by
  unfold qf
  rw [qS_two (i := k) hk (fun j hj h1 h2 => ?_)]
  · have a1 := fun e1 e2 => qU_ne (h.1 k (by omega)) e1 e2
    have a2 := fun e1 e2 => qU_ne (h.1 (k + 1) (by omega)) e1 e2
    unfold qF
    have g1 : ¬ (px k = px (k + 1) ∧ py k = py (k + 1) ∧ px (k + 1) = ux ∧ py (k + 1) = uy) := fun e => a1 e.1 e.2.1
    have g2 : ¬ (px (k + 1) = ux ∧ py (k + 1) = uy ∧ px (k + 1 + 1) = px (k + 1) ∧ py (k + 1 + 1) = py (k + 1)) := fun e => a2 e.2.2.1.symm e.2.2.2.symm
    rw [if_neg g1, if_neg g2]
    show (0 : Int) - (if px k = ux ∧ py k = uy ∧ px (k + 1) = px (k + 1) ∧ py (k + 1) = py (k + 1) then 1 else 0) + ((if px (k + 1) = px (k + 1) ∧ py (k + 1) = py (k + 1) ∧ px (k + 2) = ux ∧ py (k + 2) = uy then 1 else 0) - 0) = _
    have e1 : (px k = ux ∧ py k = uy ∧ px (k + 1) = px (k + 1) ∧ py (k + 1) = py (k + 1)) ↔ (px k = ux ∧ py k = uy) := by omega
    have e2 : (px (k + 1) = px (k + 1) ∧ py (k + 1) = py (k + 1) ∧ px (k + 2) = ux ∧ py (k + 2) = uy) ↔ (px (k + 2) = ux ∧ py (k + 2) = uy) := by omega
    simp only [true_and, and_true]
    have e9 : ∀ a b : Int, 0 - a + (b - 0) = b - a := fun a b => by omega
    exact e9 _ _
  · unfold qF
    rw [if_neg (fun e => qNe h hj hk h2 e.1 e.2.1), if_neg (fun e => qNe1 h hk hj (by omega) (by omega) e.2.2.1 e.2.2.2)]
    rfl
/-- the number east of a step north: its right -/
def qr (w : Int → Int → Int) (ax ay bx by9 : Int) : Int := if bx = ax + 1 ∧ by9 = ay then w ax (ay - 1) else if bx = ax ∧ by9 = ay + 1 then w ax ay else if bx = ax - 1 ∧ by9 = ay then w (ax - 1) ay else w (ax - 1) (ay - 1)
theorem qr_E (w : Int → Int → Int) (x y : Int) : qr w x y (x + 1) y = w x (y - 1) := by
  unfold qr; rw [if_pos ⟨rfl, rfl⟩]
theorem qr_N (w : Int → Int → Int) (x y : Int) : qr w x y x (y + 1) = w x y := by
  unfold qr; rw [if_neg (by omega), if_pos ⟨rfl, rfl⟩]
theorem qr_W (w : Int → Int → Int) (x y : Int) : qr w x y (x - 1) y = w (x - 1) y := by
  unfold qr; rw [if_neg (by omega), if_neg (by omega), if_pos ⟨rfl, rfl⟩]
theorem qr_S (w : Int → Int → Int) (x y : Int) : qr w x y x (y - 1) = w (x - 1) (y - 1) := by
  unfold qr; rw [if_neg (by omega), if_neg (by omega), if_neg (by omega)]
theorem qr_E2 (w : Int → Int → Int) (x y : Int) : qr w (x - 1) y x y = w (x - 1) (y - 1) := by
  have := qr_E w (x - 1) y
  rwa [Int.sub_add_cancel] at this
theorem qr_N2 (w : Int → Int → Int) (x y : Int) : qr w x (y - 1) x y = w x (y - 1) := by
  have := qr_N w x (y - 1)
  rwa [Int.sub_add_cancel] at this
theorem qr_W2 (w : Int → Int → Int) (x y : Int) : qr w (x + 1) y x y = w x y := by
  have := qr_W w (x + 1) y
  rwa [Int.add_sub_cancel] at this
theorem qr_S2 (w : Int → Int → Int) (x y : Int) : qr w x (y + 1) x y = w (x - 1) y := by
  have := qr_S w x (y + 1)
  rwa [Int.add_sub_cancel] at this
theorem qR_loc (w : Int → Int → Int) (ax ay x y bx by9 : Int) (f1 : qU ax ay x y) (f2 : qU x y bx by9) (hne : ¬ (ax = bx ∧ ay = by9))
    (hA : w x y - w (x - 1) y = (if bx = x ∧ by9 = y + 1 then 1 else 0) - (if ax = x ∧ ay = y + 1 then 1 else 0))
    (hB : w x (y - 1) - w (x - 1) (y - 1) = - ((if bx = x ∧ by9 = y - 1 then 1 else 0) - (if ax = x ∧ ay = y - 1 then 1 else 0)))
    (hC : w (x - 1) y - w (x - 1) (y - 1) = (if bx = x - 1 ∧ by9 = y then 1 else 0) - (if ax = x - 1 ∧ ay = y then 1 else 0))
    (hD : w x y - w x (y - 1) = - ((if bx = x + 1 ∧ by9 = y then 1 else 0) - (if ax = x + 1 ∧ ay = y then 1 else 0))) : qr w ax ay x y = qr w x y bx by9 := by
  unfold qU at f1 f2
  generalize hq1 : w x y = v1 at *
  generalize hq2 : w (x - 1) y = v2 at *
  generalize hq3 : w x (y - 1) = v3 at *
  generalize hq4 : w (x - 1) (y - 1) = v4 at *
  rcases f1 with ⟨g1, g2⟩ | ⟨g1, g2⟩ | ⟨g1, g2⟩ | ⟨g1, g2⟩
  · obtain rfl : ax = x - 1 := by omega
    subst g2
    rw [qr_E2, hq4]
    rcases f2 with ⟨rfl, rfl⟩ | ⟨rfl, rfl⟩ | ⟨rfl, rfl⟩ | ⟨rfl, rfl⟩
    · rw [qr_E, hq3]; omega
    · rw [qr_N, hq1]; omega
    · exact absurd ⟨rfl, rfl⟩ hne
    · rw [qr_S, hq4]
  · obtain rfl : ay = y - 1 := by omega
    subst g1
    rw [qr_N2, hq3]
    rcases f2 with ⟨rfl, rfl⟩ | ⟨rfl, rfl⟩ | ⟨rfl, rfl⟩ | ⟨rfl, rfl⟩
    · rw [qr_E, hq3]
    · rw [qr_N, hq1]; omega
    · rw [qr_W, hq2]; omega
    · exact absurd ⟨rfl, rfl⟩ hne
  · obtain rfl : ax = x + 1 := by omega
    subst g2
    rw [qr_W2, hq1]
    rcases f2 with ⟨rfl, rfl⟩ | ⟨rfl, rfl⟩ | ⟨rfl, rfl⟩ | ⟨rfl, rfl⟩
    · exact absurd ⟨rfl, rfl⟩ hne
    · rw [qr_N, hq1]
    · rw [qr_W, hq2]; omega
    · rw [qr_S, hq4]; omega
  · obtain rfl : ay = y + 1 := by omega
    subst g1
    rw [qr_S2, hq2]
    rcases f2 with ⟨rfl, rfl⟩ | ⟨rfl, rfl⟩ | ⟨rfl, rfl⟩ | ⟨rfl, rfl⟩
    · rw [qr_E, hq3]; omega
    · exact absurd ⟨rfl, rfl⟩ hne
    · rw [qr_W, hq2]
    · rw [qr_S, hq4]; omega
/-- the number on the right of step i -/
def qRi (px py : Nat → Int) (n i : Nat) : Int := qr (qw px py n) (px i) (py i) (px (i + 1)) (py (i + 1))
theorem qR_step (h : qPath px py n) {k : Nat} (hk : k + 1 < n) : qRi px py n k = qRi px py n (k + 1) := by
  unfold qRi
  have a1 := qw_v (px := px) (py := py) (n := n) (px (k + 1)) (py (k + 1))
  have a2 := qw_v (px := px) (py := py) (n := n) (px (k + 1)) (py (k + 1) - 1)
  have a3 := qw_h h (px (k + 1) - 1) (py (k + 1))
  have a4 := qw_h h (px (k + 1)) (py (k + 1))
  rw [Int.sub_add_cancel, qf_anti, qf_at h hk] at a2 a3
  rw [qf_at h hk] at a1 a4
  refine qR_loc _ _ _ _ _ _ _ (h.1 k (by omega)) (h.1 (k + 1) hk) (fun e => ?_) a1 a2 (a3.trans (Int.neg_neg _)) a4
  by_cases g : k + 2 = n
  · have g1 : px (k + 1 + 1) = px 0 := by rw [show k + 1 + 1 = n from g]; exact h.2.2.1
    have g2 : py (k + 1 + 1) = py 0 := by rw [show k + 1 + 1 = n from g]; exact h.2.2.2.1
    have := h.2.2.2.2.1
    exact qNe h (i := k) (j := 0) (by omega) (by omega) (by omega) (e.1.trans g1) (e.2.trans g2)
  · exact qNe h (i := k) (j := k + 1 + 1) (by omega) (by omega) (by omega) e.1 e.2
theorem qR_const (h : qPath px py n) : ∀ i, i < n → qRi px py n i = qRi px py n 0
  | 0, _ => rfl
  | i + 1, hi => by rw [← qR_step h hi]; exact qR_const h i (by omega)
theorem qf_edge (h : qPath px py n) {i : Nat} (hi : i < n) : qf px py n (px i) (py i) (px (i + 1)) (py (i + 1)) = 1 := by
  have hn := h.2.2.2.2.1
  unfold qf
  rw [qS_one hi (fun j hj hne => ?_)]
  · have a1 := fun e1 e2 => qU_ne (h.1 i hi) e1 e2
    unfold qF
    rw [if_pos ⟨rfl, rfl, rfl, rfl⟩, if_neg (fun e => a1 e.1 e.2.1)]
    rfl
  · unfold qF
    rw [if_neg (fun e => qNe h hj hi hne e.1 e.2.1), if_neg (fun e => ?_)]
    · rfl
    · obtain ⟨e1, e2, e3, e4⟩ := e
      by_cases g : i + 1 = n
      · rw [g, h.2.2.1] at e1
        rw [g, h.2.2.2.1] at e2
        have : j = 0 := Decidable.byContradiction (fun hc => qNe h hj (by omega) hc e1 e2)
        subst this
        exact qNe h (i := 0 + 1) (j := i) (by omega) hi (by omega) e3 e4
      · have : j = i + 1 := Decidable.byContradiction (fun hc => qNe h hj (by omega) hc e1 e2)
        subst this
        by_cases g2 : i + 1 + 1 = n
        · rw [g2, h.2.2.1] at e3
          rw [g2, h.2.2.2.1] at e4
          exact qNe h (i := 0) (j := i) (by omega) hi (by omega) e3 e4
        · exact qNe h (i := i + 1 + 1) (j := i) (by omega) hi (by omega) e3 e4
/-- where a wall goes north or south -/
def qB (px py : Nat → Int) (n : Nat) (c r : Int) : Prop := ∃ i, i < n ∧ px i = c ∧ px (i + 1) = c ∧ ((py i = r ∧ py (i + 1) = r + 1) ∨ (py i = r + 1 ∧ py (i + 1) = r))
theorem qB_t (h : qPath px py n) {c r : Int} (hb : qB px py n c r) : (qw px py n (c - 1) r = qRi px py n 0 - 1 ∧ qw px py n c r = qRi px py n 0) ∨ (qw px py n (c - 1) r = qRi px py n 0 ∧ qw px py n c r = qRi px py n 0 - 1) := by
  obtain ⟨i, hi, h1, h2, h3⟩ := hb
  have e := qR_const h i hi
  have e2 := qf_edge h hi
  have e3 := qw_v (px := px) (py := py) (n := n) c r
  unfold qRi at e
  rcases h3 with ⟨h3, h4⟩ | ⟨h3, h4⟩
  · rw [h1, h2, h3, h4] at e e2
    rw [qr_N] at e
    unfold qRi at *
    omega
  · rw [h1, h2, h3, h4] at e e2
    rw [qr_S2] at e
    rw [qf_anti] at e2
    unfold qRi at *
    omega
theorem qB_f {c r : Int} (hb : ¬ qB px py n c r) : qw px py n c r = qw px py n (c - 1) r := by
  have e3 := qw_v (px := px) (py := py) (n := n) c r
  have : qf px py n c r c (r + 1) = 0 := by
    unfold qf
    refine qS_zero (fun i hi => ?_)
    unfold qF
    rw [if_neg (fun e => hb ⟨i, hi, e.1, e.2.2.1, Or.inl ⟨e.2.1, e.2.2.2⟩⟩), if_neg (fun e => hb ⟨i, hi, e.1, e.2.2.1, Or.inr ⟨e.2.1, e.2.2.2⟩⟩)]
    rfl
  omega
theorem qw_0 (h : qPath px py n) (r : Int) : qw px py n (-1) r = 0 := by
  unfold qw
  refine qS_zero (fun i hi => ?_)
  have := h.2.2.2.2.2 i (by omega)
  unfold qW
  rw [if_neg (by omega)]
theorem q_in (h : qPath px py n) {B : Nat → Nat → Bool} (hB : ∀ r c, r < 40 → c < 40 → (B r c = true ↔ qB px py n c r)) : ∃ s : Int, (s = 1 ∨ s = -1) ∧ ∀ r k : Nat, r < 40 → k ≤ 40 → qw px py n ((k : Int) - 1) r = if kPi B r k then s else 0 := by
  have hk0 : ∀ r : Nat, qw px py n (((0 : Nat) : Int) - 1) r = 0 := fun r => qw_0 h r
  have hk1 : ∀ k : Nat, (((k + 1 : Nat) : Int) - 1) = (k : Int) := fun k => by omega
  by_cases ha : qRi px py n 0 = 0 ∨ qRi px py n 0 = 1
  · refine ⟨2 * qRi px py n 0 - 1, by omega, fun r k hr => ?_⟩
    induction k with
    | zero => intro _; rw [hk0]; rfl
    | succ k ih =>
      intro hk
      have ih := ih (by omega)
      rw [hk1]
      show qw px py n k r = if (bif B r k then !kPi B r k else kPi B r k) then 2 * qRi px py n 0 - 1 else 0
      cases hb : B r k with
      | false =>
        rw [qB_f (fun e => by rw [(hB r k hr (by omega)).mpr e] at hb; cases hb), ih]; rfl
      | true =>
        have := qB_t h ((hB r k hr (by omega)).mp hb)
        cases hp : kPi B r k <;> rw [hp] at ih <;> simp only [cond_true, Bool.not_true, Bool.not_false, if_true, if_false, Bool.false_eq_true] at ih ⊢ <;> omega
  · refine ⟨1, Or.inl rfl, fun r k hr hk => ?_⟩
    have : qw px py n ((k : Int) - 1) r = 0 ∧ kPi B r k = false := by
      induction k with
      | zero => exact ⟨hk0 r, rfl⟩
      | succ k ih =>
        have ih := ih (by omega)
        rw [hk1]
        cases hb : B r k with
        | false =>
          refine ⟨by rw [qB_f (fun e => by rw [(hB r k hr (by omega)).mpr e] at hb; cases hb), ih.1], ?_⟩
          show (bif B r k then !kPi B r k else kPi B r k) = false
          rw [hb, ih.2]; rfl
        | true =>
          have := qB_t h ((hB r k hr (by omega)).mp hb)
          omega
    rw [this.1, this.2]; rfl
/-- all squares' numbers, by steps -/
theorem qT_c {x v : Int} (hx : 0 ≤ x) : ∀ N : Nat, x ≤ N → qS (fun c => if x ≤ (c : Int) then v else 0) N = v * (N - x)
  | 0, h => by
    have : x = 0 := by omega
    subst this
    show (0 : Int) = v * (((0 : Nat) : Int) - 0)
    simp
  | N + 1, h => by
    show qS (fun c => if x ≤ (c : Int) then v else 0) N + (if x ≤ (N : Int) then v else 0) = _
    by_cases e : x ≤ (N : Int)
    · rw [qT_c hx N e, if_pos e]
      have : ((N + 1 : Nat) : Int) - x = (N - x) + 1 := by omega
      rw [this, Int.mul_add, Int.mul_one]
    · rw [if_neg e, qS_zero (fun i hi => if_neg (by omega))]
      have : ((N + 1 : Nat) : Int) - x = 0 := by omega
      rw [this, Int.mul_zero]; rfl
theorem qT_r {y v : Int} {N : Nat} (h0 : 0 ≤ y) (h1 : y < N) : qS (fun r => if y = (r : Int) then v else 0) N = v := by
  rw [qS_one (i := y.toNat) (by omega) (fun j hj hne => if_neg (by omega)), if_pos (by omega)]
theorem qT {ax ay bx by9 : Int} (hU : qU ax ay bx by9) (h1 : 0 ≤ ax ∧ ax ≤ 40 ∧ 0 ≤ ay ∧ ay ≤ 40) (h2 : 0 ≤ bx ∧ bx ≤ 40 ∧ 0 ≤ by9 ∧ by9 ≤ 40) : qS (fun r => qS (fun c => qW ax ay bx by9 c r) 40) 40 = (by9 - ay) * (40 - ax) := by
  unfold qU at hU
  rcases hU with ⟨rfl, rfl⟩ | ⟨rfl, rfl⟩ | ⟨rfl, rfl⟩ | ⟨rfl, rfl⟩
  · rw [qS_zero (fun r _ => qS_zero (fun c _ => by unfold qW; rw [if_neg (by omega)]))]
    rw [Int.sub_self, Int.zero_mul]
  · have : ∀ r : Nat, r < 40 → qS (fun c => qW bx ay bx (ay + 1) c r) 40 = if ay = (r : Int) then (40 - bx) else 0 := by
      intro r hr
      by_cases e : ay = (r : Int)
      · rw [if_pos e, qS_congr (g := fun c => if bx ≤ (c : Int) then 1 else 0) (fun c _ => by unfold qW; simp only [e, and_self, true_and, if_true]), qT_c h1.1 40 h1.2.1]
        show 1 * (40 - bx) = _
        omega
      · rw [if_neg e, qS_zero (fun c _ => by unfold qW; rw [if_neg (c := ay = (r : Int) ∧ ay + 1 = (r : Int) + 1) (by omega), if_neg (c := ay = (r : Int) + 1 ∧ ay + 1 = (r : Int)) (by omega)]; simp)]
    rw [qS_congr this, qT_r h1.2.2.1 (by omega)]
    have : ay + 1 - ay = 1 := by omega
    rw [this]; omega
  · rw [qS_zero (fun r _ => qS_zero (fun c _ => by unfold qW; rw [if_neg (by omega)]))]
    rw [Int.sub_self, Int.zero_mul]
  · have : ∀ r : Nat, r < 40 → qS (fun c => qW bx ay bx (ay - 1) c r) 40 = if (ay - 1) = (r : Int) then - (40 - bx) else 0 := by
      intro r hr
      by_cases e : ay - 1 = (r : Int)
      · rw [if_pos e, qS_congr (g := fun c => if bx ≤ (c : Int) then (-1) else 0) (fun c _ => by unfold qW; rw [if_neg (c := ay = (r : Int) ∧ ay - 1 = (r : Int) + 1) (by omega), if_pos (c := ay = (r : Int) + 1 ∧ ay - 1 = (r : Int)) (by omega)]; simp only [true_and]), qT_c h1.1 40 h1.2.1]
        show (-1) * (40 - bx) = _
        omega
      · rw [if_neg e, qS_zero (fun c _ => by unfold qW; rw [if_neg (c := ay = (r : Int) ∧ ay - 1 = (r : Int) + 1) (by omega), if_neg (c := ay = (r : Int) + 1 ∧ ay - 1 = (r : Int)) (by omega)]; simp)]
    rw [qS_congr this, qT_r h2.2.2.1 (by omega)]
    have : ay - 1 - ay = -1 := by omega
    rw [this]; omega
theorem qT_all : ∀ n, (∀ i, i < n → qU (px i) (py i) (px (i + 1)) (py (i + 1))) → (∀ i, i ≤ n → 0 ≤ px i ∧ px i ≤ 40 ∧ 0 ≤ py i ∧ py i ≤ 40) → qS (fun r => qS (fun c => qw px py n c r) 40) 40 = qS (fun i => (py (i + 1) - py i) * (40 - px i)) n
  | 0, _, _ => qS_zero (fun r _ => qS_zero (fun c _ => rfl))
  | n + 1, h1, h2 => by
    have e1 : ∀ r : Nat, r < 40 → qS (fun c => qw px py (n + 1) c r) 40 = qS (fun c => qw px py n c r) 40 + qS (fun c => qW (px n) (py n) (px (n + 1)) (py (n + 1)) c r) 40 := fun r _ => by
      rw [← qS_add]; rfl
    rw [qS_congr e1, qS_add, qT_all n (fun i hi => h1 i (by omega)) (fun i hi => h2 i (by omega)), qT (h1 n (by omega)) (h2 n (by omega)) (h2 (n + 1) (by omega))]
    rfl
theorem qX {ax ay bx by9 : Int} (hU : qU ax ay bx by9) : (ax * by9 - bx * ay) + 2 * ((by9 - ay) * (40 - ax)) = (ax * ay - 80 * ay) - (bx * by9 - 80 * by9) := by
  unfold qU at hU
  rcases hU with ⟨rfl, rfl⟩ | ⟨rfl, rfl⟩ | ⟨rfl, rfl⟩ | ⟨rfl, rfl⟩ <;> grind
/-- twice the area by corners -/
def qC (px py : Nat → Int) (n : Nat) : Int := qS (fun i => px i * py (i + 1) - px (i + 1) * py i) n
theorem qS_mul (f : Nat → Int) (a : Int) : ∀ n, qS (fun i => a * f i) n = a * qS f n
  | 0 => by show (0 : Int) = a * 0; rw [Int.mul_zero]
  | n + 1 => by
    show qS (fun i => a * f i) n + a * f n = a * (qS f n + f n)
    rw [qS_mul f a n, Int.mul_add]
theorem q_area (h : qPath px py n) {B : Nat → Nat → Bool} (hB : ∀ r c, r < 40 → c < 40 → (B r c = true ↔ qB px py n c r)) : qC px py n = 2 * qS (fun r => qS (fun c => if kPi B r (c + 1) then 1 else 0) 40) 40 ∨ qC px py n = - (2 * qS (fun r => qS (fun c => if kPi B r (c + 1) then 1 else 0) 40) 40) := by
  obtain ⟨s, hs, h1⟩ := q_in h hB
  have h2 := qT_all n h.1 h.2.2.2.2.2
  have h3 : qC px py n + 2 * qS (fun i => (py (i + 1) - py i) * (40 - px i)) n = 0 := by
    have : qS (fun i => (px i * py (i + 1) - px (i + 1) * py i) + 2 * ((py (i + 1) - py i) * (40 - px i))) n = (px 0 * py 0 - 80 * py 0) - (px n * py n - 80 * py n) := by
      rw [← qS_tel (fun i => px i * py i - 80 * py i) n]
      exact qS_congr (fun i hi => qX (h.1 i hi))
    rw [h.2.2.1, h.2.2.2.1, qS_add, qS_mul] at this
    unfold qC
    omega
  have h4 : qS (fun r => qS (fun c => qw px py n c r) 40) 40 = s * qS (fun r => qS (fun c => if kPi B r (c + 1) then 1 else 0) 40) 40 := by
    rw [← qS_mul]
    refine qS_congr (fun r hr => ?_)
    rw [← qS_mul]
    refine qS_congr (fun c hc => ?_)
    have := h1 r (c + 1) hr (by omega)
    rw [show (((c + 1 : Nat) : Int) - 1) = (c : Int) by omega] at this
    rw [this]
    cases kPi B r (c + 1)
    · show (0 : Int) = s * 0; rw [Int.mul_zero]
    · show s = s * 1; rw [Int.mul_one]
  rcases hs with rfl | rfl <;> omega
end QP
