theorem kFr_pl {BO : Nat → Nat → Bool} {x y : Int32} (h : kFr BO x y = true) : kPl x y = true := k_andl h
theorem kAg_at {BO : Nat → Nat → Bool} {x y dx dy : Int32} : ∀ {n k : Nat}, kAg BO x y dx dy n = true → 1 ≤ k → k ≤ n → kFr BO (x + (nI k) * dx) (y + (nI k) * dy) = true
  | 0, k, _, h1, h2 => by omega
  | n + 1, k, h, h1, h2 => by
    have h3 : (kAg BO x y dx dy n && kFr BO (x + (nI (n + 1)) * dx) (y + (nI (n + 1)) * dy)) = true := h
    by_cases e : k = n + 1
    · rw [e]; exact k_andr h3
    · exact kAg_at (k_andl h3) h1 (by omega)
theorem kAd_pl {BO : Nat → Nat → Bool} {bx by9 x y ot d q : Int32} (h : kAd BO bx by9 x y ot d q = true) (hb : kPl bx by9 = true) (hq : kIn q 1 40 = true) : ∀ k, 1 ≤ k → k ≤ q.toNatClampNeg → kPl (x + (nI k) * kDx d) (y + (nI k) * kDy d) = true := by
  obtain ⟨n, h1, h2, rfl⟩ := kIn_1 hq
  rw [nI_clamp (by omega)]
  intro k hk1 hk2
  unfold kAd at h
  rw [nI_clamp (by omega)] at h
  by_cases e : k = n
  · subst e
    have h4 := k_andr h
    rw [Bool.or_eq_true] at h4
    rcases h4 with h4 | h4
    · exact kFr_pl h4
    · unfold kCz at h4
      rw [of_decide_eq_true (k_andl h4), of_decide_eq_true (k_andl (k_andr h4))]
      exact hb
  · exact kFr_pl (kAg_at (k_andl h) hk1 (by omega))
