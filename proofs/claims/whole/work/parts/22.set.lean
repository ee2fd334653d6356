/-! ===== a cell at a place of the world; rows' contents matter within their length alone ===== -/
theorem k_sets {ws : va_W} {k : Nat} {c c' : Nat × va_E} (h : ws[k]? = some c) : (ws.set k c')[k]? = some c' := by
  rw [List.getElem?_set_self (List.getElem?_eq_some_iff.mp h).1]
theorem k_seto {ws : va_W} {k j : Nat} {c c' : Nat × va_E} (h : ws[j]? = some c) (hn : k ≠ j) : (ws.set k c')[j]? = some c := by
  rw [List.getElem?_set_ne hn]; exact h
theorem k_setid {ws : va_W} {k : Nat} {c : Nat × va_E} (h : ws[k]? = some c) : ws.set k c = ws := by
  apply List.ext_getElem?
  intro i
  by_cases e : k = i
  · subst e; rw [k_sets h, h]
  · rw [List.getElem?_set_ne e]
theorem arrV_congr {cA : ClassId} {N : Nat} {f g : Nat → Value} (h : ∀ j, j < N → f j = g j) : arrV cA N f = arrV cA N g := by
  unfold arrV
  congr 2
  funext j
  exact h j.val j.isLt
section KS
variable {s : State} {H : Heap} {locs : List Loc} {D : va_G} {A : Nat → Prop} {ws : va_W} {k h n : Nat} {cA : ClassId}
theorem kG_swap {e e' : va_E} (hk : k < ws.length) (hG : kG D A s (ws.set k (h, e)) H locs) (he : ∀ a b : vp_A, ∀ cA, e = .inl (cA, a) → e' = .inl (cA, b) → vp_cell cA a = vp_cell cA b) (h0 : ∃ cA a b, e = .inl (cA, a) ∧ e' = .inl (cA, b)) : kG D A s (ws.set k (h, e')) H locs := by
  obtain ⟨cA, a, b, rfl, rfl⟩ := h0
  have ec := he a b cA rfl rfl
  have e0 : (ws.set k (h, (.inl (cA, a) : va_E)))[k]? = some (h, .inl (cA, a)) := by rw [List.getElem?_set_self hk]
  have e1 : (ws.set k (h, (.inl (cA, b) : va_E))) = (ws.set k (h, (.inl (cA, a) : va_E))).set k (h, .inl (cA, b)) := by rw [List.set_set]
  rw [e1]
  refine ⟨?_, hG.2.1.set e0, hG.2.2⟩
  intro j q hq
  by_cases e2 : k = j
  · subst e2
    rw [k_sets e0] at hq
    cases hq
    have := hG.1 k _ e0
    show H[h]? = some (vp_cell cA b)
    rw [← ec]
    exact this
  · rw [List.getElem?_set_ne e2] at hq
    exact hG.1 j q hq
theorem kG_rowJ {f f' : Nat → Int64} (hk : k < ws.length) (hG : kG D A s (ws.set k (h, .inl (cA, n, .inr (.inl f)))) H locs) (he : ∀ i, i < n → f i = f' i) : kG D A s (ws.set k (h, .inl (cA, n, .inr (.inl f')))) H locs := by
  refine kG_swap hk hG (fun a b cB e1 e2 => ?_) ⟨_, _, _, rfl, rfl⟩
  cases e1; cases e2
  exact arrV_congr (fun j hj => by show Value.long (f j) = Value.long (f' j); rw [he j hj])
theorem kG_rowI {f f' : Nat → Int32} (hk : k < ws.length) (hG : kG D A s (ws.set k (h, .inl (cA, n, .inl f))) H locs) (he : ∀ i, i < n → f i = f' i) : kG D A s (ws.set k (h, .inl (cA, n, .inl f'))) H locs := by
  refine kG_swap hk hG (fun a b cB e1 e2 => ?_) ⟨_, _, _, rfl, rfl⟩
  cases e1; cases e2
  exact arrV_congr (fun j hj => by show Value.int (f j) = Value.int (f' j); rw [he j hj])
end KS
def kFil {α : Type} (f : Nat → α) (v : α) (j : Nat) : Nat → α := fun i => if i < j then v else f i
theorem kFil0 {α : Type} (f : Nat → α) (v : α) : kFil f v 0 = f := by
  funext i
  simp [kFil]
theorem kFilJ (f : Nat → Int64) (v : Int64) (k : Nat) : vp_updL (kFil f v k) k v = kFil f v (k + 1) := by
  funext j
  unfold vp_updL kFil
  by_cases h : j = k
  · rw [if_pos h, if_pos (by omega)]
  · rw [if_neg h]
    by_cases h2 : j < k
    · rw [if_pos h2, if_pos (by omega)]
    · rw [if_neg h2, if_neg (by omega)]
theorem kFilI (f : Nat → Int32) (v : Int32) (k : Nat) : upd (kFil f v k) k v = kFil f v (k + 1) := by
  funext j
  unfold upd kFil
  by_cases h : j = k
  · rw [if_pos h, if_pos (by omega)]
  · rw [if_neg h]
    by_cases h2 : j < k
    · rw [if_pos h2, if_pos (by omega)]
    · rw [if_neg h2, if_neg (by omega)]
/-- a place; the rows of a drawing, by y and x -/
def kPl (x y : Int32) : Bool := kIn x 0 40 && kIn y 0 40
def kSt2 (B : Nat → Nat → Bool) (x y : Nat) : Nat → Nat → Bool := va_up B y (va_up (B y) x true)
theorem kSt2_row (B : Nat → Nat → Bool) (x y : Nat) (r : Int64) (hr : r = kRow (va_up (B y) x true)) : vp_updL (fun i9 => kRow (B i9)) y r = fun i9 => kRow (kSt2 B x y i9) := by
  subst hr
  funext i
  unfold vp_updL kSt2 va_up
  by_cases h : i = y
  · rw [if_pos h, if_pos h]
  · rw [if_neg h, if_neg h]
theorem kLt2 {n : Nat} (h : decide (nI n < 10) = true) (hn : n < 2 ^ 31) : n < 10 := by
  have := of_decide_eq_true h
  rw [show (10 : Int32) = nI 10 from rfl, nI_ltI hn (by omega)] at this
  exact this
