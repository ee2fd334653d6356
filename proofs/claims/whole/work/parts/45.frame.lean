/-! ===== a contract in a larger world; a world in another order; weaker ends ===== -/
section KF
variable {l : Launch} {D : va_G} {ty : List (ClassId × FieldType)} {z mi : Nat} {y : MethodName} {wsm : List Cond} {rm : Room} {av : List Value} {wc wr : va_W} {post post' : Option Value → va_W → Prop} {px px' : String → va_W → Prop}
theorem kZ.narrow {A B : Nat → Prop} {U : State} {H : Heap} (h : kZ z mi A U H) (hAB : ∀ q, B q → A q) : kZ z mi B U H := by
  obtain ⟨h1, h2, h3, h4, h5, h6⟩ := h
  exact ⟨h1, h2, h3.narrow hAB, h4.narrow hAB, h5.narrow hAB, h6.narrow hAB⟩
theorem k_appL {k : Nat} {c : Nat × va_E} (h : wc[k]? = some c) : (wc ++ wr)[k]? = some c := by
  rw [List.getElem?_append_left (List.getElem?_eq_some_iff.mp h).1]; exact h
theorem kA_app {sz : Nat} : ∀ q, va_A wc sz q → va_A (wc ++ wr) sz q := by
  intro q h
  rcases h with ⟨k, e, h⟩ | h
  · exact Or.inl ⟨k, e, k_appL h⟩
  · exact Or.inr h
theorem k_appR {k : Nat} {c : Nat × va_E} (h : wr[k]? = some c) : (wc ++ wr)[wc.length + k]? = some c := by
  rw [List.getElem?_append_right (Nat.le_add_right _ _), Nat.add_sub_cancel_left]; exact h
/-- what stands beside the callee's world stays -/
theorem kF_end {sz : Nat} {H H1 : Heap} {u : va_W} (hsz : H.size = sz) (hP : va_P D vwCl (wc ++ wr) H) (hD : va_D (va_A (wc ++ wr) sz) (wc ++ wr)) (hF : H.size ≤ H1.size ∧ ∀ q : Nat, q < H.size → ¬ va_A wc sz q → H1[q]? = H[q]?) (hP1 : va_P D vwCl u H1) (hD1 : va_D (va_A wc sz) u) : va_P D vwCl (u ++ wr) H1 ∧ va_D (va_A (wc ++ wr) sz) (u ++ wr) := by
  have hout : ∀ (k : Nat) (q : Nat × va_E), wr[k]? = some q → q.1 < H.size ∧ ¬ va_A wc sz q.1 := by
    intro k q hq
    have hl := (hP _ q (k_appR hq)).lt
    refine ⟨hl, fun h => ?_⟩
    rcases h with ⟨k2, e, h⟩ | h
    · have h1 := hD.1 _ _ _ _ (k_appR (wc := wc) hq) (k_appL (wr := wr) h) rfl
      have h2 := (List.getElem?_eq_some_iff.mp h).1
      omega
    · omega
  refine ⟨hP1.app ?_, va_D.app (hD1.weaken (fun _ _ _ h => kA_app _ h)) ⟨fun i j p q hi hj e => ?_, fun k q hk => hD.2 _ _ (k_appR hk)⟩ (fun i j p q hi hj e => ?_)⟩
  · refine va_P.kept (H := H) (fun k q hk => hP _ q (k_appR hk)) (fun k q hk => hF.2 q.1 (hout k q hk).1 (hout k q hk).2)
  · have := hD.1 _ _ _ _ (k_appR (wc := wc) hi) (k_appR (wc := wc) hj) e
    omega
  · exact (hout j q hj).2 (e ▸ hD1.2 i p hi)
theorem kM.frame (hM : kM l D ty z mi y wsm rm av wc post px) (wr : va_W) : kM l D ty z mi y wsm rm av (wc ++ wr) (fun v u => ∃ u1, post v u1 ∧ u = u1 ++ wr) (fun E u => ∃ u1, px E u1 ∧ u = u1 ++ wr) := by
  intro sz p e hadm hcas hclk s m args below hfr happ hP hK
  obtain ⟨rfl, h1, h2, h3, h4, h5⟩ := hP
  have hpre : kP D ty z mi av wc sz av.toArray s := ⟨rfl, h1, fun k q hk => h2 k q (k_appL hk), h3, ⟨fun i j p q hi hj ee => h4.1 i j p q (k_appL hi) (k_appL hj) ee, fun k q hk => va_A.in hk⟩, h5.narrow kA_app⟩
  obtain ⟨n, o, hw, hs, he, hq⟩ := hM sz p e hadm hcas hclk s m _ below hfr happ hpre hK
  refine ⟨n, o, hw, hs, he, ?_⟩
  rcases hq with ⟨⟨⟨v, u, ho, hp, hP1, hD1⟩, hF⟩, L, hL, hLf⟩ | ⟨q, ho, E, ce, L, ⟨u, hp, hP1, hD1, hF⟩, c1, c2, c3, c4, c5, hLf⟩
  · obtain ⟨k1, k2⟩ := kF_end h1 h2 h4 hF hP1 hD1
    exact Or.inl ⟨⟨⟨v, u ++ wr, ho, ⟨u, hp, rfl⟩, k1, k2⟩, hF.1, fun q g1 g2 => hF.2 q g1 (fun h => g2 (kA_app q h))⟩, L, hL, fun q hq => kA_app _ (hLf q hq)⟩
  · obtain ⟨k1, k2⟩ := kF_end h1 h2 h4 hF hP1 hD1
    exact Or.inr ⟨q, ho, E, ce, L, ⟨u ++ wr, ⟨u, hp, rfl⟩, k1, k2, hF.1, fun q g1 g2 => hF.2 q g1 (fun h => g2 (kA_app q h))⟩, c1, c2, c3, c4, c5, fun q hq => kA_app _ (hLf q hq)⟩
theorem kM.mono (hM : kM l D ty z mi y wsm rm av wc post px) (hp : ∀ v u, post v u → post' v u) (hx : ∀ E u, px E u → px' E u) : kM l D ty z mi y wsm rm av wc post' px' := by
  intro sz p e hadm hcas hclk s m args below hfr happ hP hK
  obtain ⟨n, o, hw, hs, he, hq⟩ := hM sz p e hadm hcas hclk s m args below hfr happ hP hK
  refine ⟨n, o, hw, hs, he, ?_⟩
  rcases hq with ⟨⟨⟨v, u, ho, hp1, h2⟩, hF⟩, h3⟩ | ⟨q, ho, E, ce, L, ⟨u, hp1, h2⟩, h3⟩
  · exact Or.inl ⟨⟨⟨v, u, ho, hp v u hp1, h2⟩, hF⟩, h3⟩
  · exact Or.inr ⟨q, ho, E, ce, L, ⟨u, hx E u hp1, h2⟩, h3⟩
variable {A : Nat → Prop} {s : State} {ws : va_W} {H : Heap} {locs : List Loc}
theorem kG.swap (h : kG D A s (wc ++ wr) H locs) : kG D A s (wr ++ wc) H locs := ⟨va_P.swap (a := []) h.1, va_D.swap (a := []) h.2.1, h.2.2⟩
theorem kG.idx (h : kG D A s ws H locs) (is : List Nat) (hn : va_nd is = true) (hs : is.map (fun i => ws[i]?) = wc.map some) : kG D A s wc H locs := by
  refine ⟨fun k q hk => ?_, h.2.1.sub is hn hs, h.2.2⟩
  have h1 : (is.map (fun i => ws[i]?))[k]? = some (some q) := by rw [hs, List.getElem?_map, hk]; rfl
  rw [List.getElem?_map] at h1
  cases hi : is[k]? with
  | none => rw [hi] at h1; cases h1
  | some i => rw [hi] at h1; exact h.1 i q (Option.some.inj h1)
end KF
