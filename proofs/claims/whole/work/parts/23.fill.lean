set_option maxHeartbeats 4000000 in
set_option maxRecDepth 100000 in
/-- Arrays.fill -/
theorem K_J7_fill_d0a16 (l : Launch) (hfl : l.stackTraces = false) (D : va_G) (cI cJ cZ cO : ClassId) (z mi : Nat) (ws : va_W) (k h n : Nat) (f : Nat → Int64) (v : Int64) (hn : n < 2 ^ 31) (hw : ws[k]? = some (h, .inl (cJ, n, .inr (.inl f)))) : kM l D (kTy cI cJ cZ cO) z mi yJ7_fill_d0a16 wsJ7_fill_d0a16 ({ frames := 0, cells := 0, slots := 0, locals := 0 } : Room) [.ref h, .long v] (ws) (fun w u => w = none ∧ u = ws.set k (h, .inl (cJ, n, .inr (.inl (fun _ => v))))) (fun _ _ => False) := by
  refine kM.of hfl (cc := cJ7_fill_d0a16) (maxL := 5) (ret := none) (by decide) rfl (Nat.le_of_ble_eq_true rfl) ?_
  intro p e s m args below meth c A ls hC hr hmn hG hl
  have hx := hC.x
  have hb := hC.b
  have hl : lv_has ls 5 [(0, .ref h), (1, .long v)] := hl
  refine lv_iconst (v := 0) hx hb dJ7_fill_d0a16_0 (by decide) ?_
  refine lv_istore_n (lv' := [(3, .int 0), (0, .ref h), (1, .long v)]) hx hb dJ7_fill_d0a16_1 rfl hl (by decide) rfl (fun ls hl => ?_)
  refine lv_aload_n hx hb dJ7_fill_d0a16_2 rfl (lv_at hl 1 rfl) ?_
  refine va_alen (v := nI n) hx hb hC.K hG.1 k 1 hw rfl rfl dJ7_fill_d0a16_3 ?_
  refine lv_istore (lv' := [(4, .int (nI n)), (3, .int 0), (0, .ref h), (1, .long v)]) hx hb dJ7_fill_d0a16_4 hl (by decide) rfl (fun ls hl => ?_)
  have hG : kG D A s (ws.set k (h, .inl (cJ, n, .inr (.inl (kFil f v 0))))) s.heap [] := by
    rw [kFil0, k_setid hw]; exact hG
  refine k_loop (σ := Nat) (fun q9 => q9 ≤ n) (fun q9 => n - q9) (fun q9 => ws.set k (h, .inl (cJ, n, .inr (.inl (kFil f v q9))))) (fun q9 => [(0, .ref h), (1, .long v), (3, .int (nI q9)), (4, .int (nI n))]) 6 [] ?_ 0 (Nat.zero_le _) hG (lv_sub hl [2, 3, 1, 0] rfl)
  intro q9
  obtain ⟨j, rfl⟩ : ∃ z9, z9 = q9 := ⟨_, rfl⟩
  intro hI ih H locs ls hG hl
  have hI : j ≤ n := hI
  have hG : kG D A s (ws.set k (h, .inl (cJ, n, .inr (.inl (kFil f v j))))) H locs := hG
  have hl : lv_has ls 5 [(0, .ref h), (1, .long v), (3, .int (nI j)), (4, .int (nI n))] := hl
  refine lv_iload_n hx hb dJ7_fill_d0a16_6 rfl (lv_at hl 2 rfl) ?_
  refine lv_iload hx hb dJ7_fill_d0a16_7 (lv_at hl 3 rfl) ?_
  refine k_icmp_ge (tgt := 22) hx hb dJ7_fill_d0a16_9 (by decide) (fun c_1 => ?_) (fun c_1 => ?_)
  · have hk : j = n := by
      rcases Nat.lt_or_ge (j) (n) with h9 | h9
      · exact absurd (of_decide_eq_true c_1) (nI_ge h9 (by omega))
      · omega
    have hG := kG_rowJ (f' := fun _ => v) (List.getElem?_eq_some_iff.mp hw).1 hG (fun i hi => by unfold kFil; rw [if_pos (by omega)])
    exact k_retv hC hr hG ⟨rfl, rfl⟩ (Nat.le_of_ble_eq_true rfl) (Nat.le_of_ble_eq_true rfl) dJ7_fill_d0a16_22
  · have hk : j < n := by
      rcases Nat.lt_or_ge (j) (n) with h9 | h9
      · exact h9
      · exact absurd ((of_decide_eq_false c_1)) (fun z => z (nI_le h9 (by omega)))
    refine lv_aload_n hx hb dJ7_fill_d0a16_12 rfl (lv_at hl 0 rfl) ?_
    refine lv_iload_n hx hb dJ7_fill_d0a16_13 rfl (lv_at hl 2 rfl) ?_
    refine lv_lload_n hx hb dJ7_fill_d0a16_14 rfl (lv_at hl 1 rfl) ?_
    refine va_last (f := (kFil f v j)) (x := v) hx hb hC.K hG.1 hG.2.1 hG.2.2 k 1 (k_sets hw) rfl (vp_in_nI (by omega) (by omega)) dJ7_fill_d0a16_15 (fun H locs h1 h2 h3 => ?_)
    have hG : kG D A s ((ws.set k (h, .inl (cJ, n, .inr (.inl (kFil f v j))))).set k (h, .inl (cJ, n, .inr (.inl (vp_updL (kFil f v j) (nI j).toNatClampNeg v))))) H locs := ⟨h1, h2, h3⟩
    rw [List.set_set] at hG
    rw [nI_clamp (n := j) (by omega)] at hG
    refine lv_iinc (v := (nI j) + 1) (lv' := [(3, .int ((nI j) + 1)), (0, .ref h), (1, .long v), (4, .int (nI n))]) hx hb dJ7_fill_d0a16_16 hl (k := 2) rfl rfl (by decide) rfl (fun ls hl => ?_)
    refine lv_goto (tgt := 6) hx hb dJ7_fill_d0a16_19 (by decide) ?_
    rw [nI_1] at hl
    rw [kFilJ] at hG
    exact ih (j + 1) (show j + 1 ≤ n from hk) (by show n - (j + 1) < n - j; omega) _ _ _ hG (lv_sub hl [1, 2, 0, 3] rfl)

set_option maxHeartbeats 4000000 in
set_option maxRecDepth 100000 in
/-- Arrays.fill -/
theorem K_J7_fill_53178 (l : Launch) (hfl : l.stackTraces = false) (D : va_G) (cI cJ cZ cO : ClassId) (z mi : Nat) (ws : va_W) (k h n : Nat) (f : Nat → Int32) (v : Int32) (hn : n < 2 ^ 31) (hw : ws[k]? = some (h, .inl (cI, n, .inl f))) : kM l D (kTy cI cJ cZ cO) z mi yJ7_fill_53178 wsJ7_fill_53178 ({ frames := 0, cells := 0, slots := 0, locals := 0 } : Room) [.ref h, .int v] (ws) (fun w u => w = none ∧ u = ws.set k (h, .inl (cI, n, .inl (fun _ => v)))) (fun _ _ => False) := by
  refine kM.of hfl (cc := cJ7_fill_53178) (maxL := 4) (ret := none) (by decide) rfl (Nat.le_of_ble_eq_true rfl) ?_
  intro p e s m args below meth c A ls hC hr hmn hG hl
  have hx := hC.x
  have hb := hC.b
  have hl : lv_has ls 4 [(0, .ref h), (1, .int v)] := hl
  refine lv_iconst (v := 0) hx hb dJ7_fill_53178_0 (by decide) ?_
  refine lv_istore_n (lv' := [(2, .int 0), (0, .ref h), (1, .int v)]) hx hb dJ7_fill_53178_1 rfl hl (by decide) rfl (fun ls hl => ?_)
  refine lv_aload_n hx hb dJ7_fill_53178_2 rfl (lv_at hl 1 rfl) ?_
  refine va_alen (v := nI n) hx hb hC.K hG.1 k 0 hw rfl rfl dJ7_fill_53178_3 ?_
  refine lv_istore_n (lv' := [(3, .int (nI n)), (2, .int 0), (0, .ref h), (1, .int v)]) hx hb dJ7_fill_53178_4 rfl hl (by decide) rfl (fun ls hl => ?_)
  have hG : kG D A s (ws.set k (h, .inl (cI, n, .inl (kFil f v 0)))) s.heap [] := by
    rw [kFil0, k_setid hw]; exact hG
  refine k_loop (σ := Nat) (fun q9 => q9 ≤ n) (fun q9 => n - q9) (fun q9 => ws.set k (h, .inl (cI, n, .inl (kFil f v q9)))) (fun q9 => [(0, .ref h), (1, .int v), (2, .int (nI q9)), (3, .int (nI n))]) 5 [] ?_ 0 (Nat.zero_le _) hG (lv_sub hl [2, 3, 1, 0] rfl)
  intro q9
  obtain ⟨j, rfl⟩ : ∃ z9, z9 = q9 := ⟨_, rfl⟩
  intro hI ih H locs ls hG hl
  have hI : j ≤ n := hI
  have hG : kG D A s (ws.set k (h, .inl (cI, n, .inl (kFil f v j)))) H locs := hG
  have hl : lv_has ls 4 [(0, .ref h), (1, .int v), (2, .int (nI j)), (3, .int (nI n))] := hl
  refine lv_iload_n hx hb dJ7_fill_53178_5 rfl (lv_at hl 2 rfl) ?_
  refine lv_iload_n hx hb dJ7_fill_53178_6 rfl (lv_at hl 3 rfl) ?_
  refine k_icmp_ge (tgt := 20) hx hb dJ7_fill_53178_7 (by decide) (fun c_1 => ?_) (fun c_1 => ?_)
  · have hk : j = n := by
      rcases Nat.lt_or_ge (j) (n) with h9 | h9
      · exact absurd (of_decide_eq_true c_1) (nI_ge h9 (by omega))
      · omega
    have hG := kG_rowI (f' := fun _ => v) (List.getElem?_eq_some_iff.mp hw).1 hG (fun i hi => by unfold kFil; rw [if_pos (by omega)])
    exact k_retv hC hr hG ⟨rfl, rfl⟩ (Nat.le_of_ble_eq_true rfl) (Nat.le_of_ble_eq_true rfl) dJ7_fill_53178_20
  · have hk : j < n := by
      rcases Nat.lt_or_ge (j) (n) with h9 | h9
      · exact h9
      · exact absurd ((of_decide_eq_false c_1)) (fun z => z (nI_le h9 (by omega)))
    refine lv_aload_n hx hb dJ7_fill_53178_10 rfl (lv_at hl 0 rfl) ?_
    refine lv_iload_n hx hb dJ7_fill_53178_11 rfl (lv_at hl 2 rfl) ?_
    refine lv_iload_n hx hb dJ7_fill_53178_12 rfl (lv_at hl 1 rfl) ?_
    refine va_iast (f := (kFil f v j)) (x := v) hx hb hC.K hG.1 hG.2.1 hG.2.2 k 0 (k_sets hw) rfl (vp_in_nI (by omega) (by omega)) dJ7_fill_53178_13 (fun H locs h1 h2 h3 => ?_)
    have hG : kG D A s ((ws.set k (h, .inl (cI, n, .inl (kFil f v j)))).set k (h, .inl (cI, n, .inl (upd (kFil f v j) (nI j).toNatClampNeg v)))) H locs := ⟨h1, h2, h3⟩
    rw [List.set_set] at hG
    rw [nI_clamp (n := j) (by omega)] at hG
    refine lv_iinc (v := (nI j) + 1) (lv' := [(2, .int ((nI j) + 1)), (0, .ref h), (1, .int v), (3, .int (nI n))]) hx hb dJ7_fill_53178_14 hl (k := 2) rfl rfl (by decide) rfl (fun ls hl => ?_)
    refine lv_goto (tgt := 5) hx hb dJ7_fill_53178_17 (by decide) ?_
    rw [nI_1] at hl
    rw [kFilI] at hG
    exact ih (j + 1) (show j + 1 ≤ n from hk) (by show n - (j + 1) < n - j; omega) _ _ _ hG (lv_sub hl [1, 2, 0, 3] rfl)

