theorem k_suN {par : Nat → Option Nat} {ia : Nat → Nat} {o n : Nat} {up : Option Nat} (h : (up.map ia).isSome = false) : kSu par o n up = false := by
  cases up with
  | none => cases n <;> rfl
  | some k => exact Bool.noConfusion (show true = false from h)

set_option maxHeartbeats 4000000 in
set_option maxRecDepth 100000 in
/-- standsUnder: up the parents -/
theorem K_X1_standsUnder (l : Launch) (hfl : l.stackTraces = false) (D : va_G) (cI cJ cZ cO : ClassId) (z mi : Nat) (ws : va_W) (ni : Nat) (ia pi : Nat → Nat) (par rt : Nat → Option Nat) (ra : Nat → Nat) (wa me va dn : Nat → Int32) (hni : ni ≤ 30) (hip : kIP ws ni ia pi par rt ra wa me va dn) (j o : Nat) (hj : j < ni) (ho : o < ni) : kM l D (kTy cI cJ cZ cO) z mi yX1_standsUnder wsX1_standsUnder ({ frames := 0, cells := 0, slots := 0, locals := 0 } : Room) [.ref (ia j), .ref (ia o)] (ws) (fun v u => v = some (.int (kb (kSu par o 31 (some j)))) ∧ u = ws) (fun _ _ => False) := by
  refine kM.of hfl (cc := cX1_standsUnder) (maxL := 3) (ret := (some .boolean)) (by decide) rfl (Nat.le_of_ble_eq_true rfl) ?_
  intro p e s m args below meth c A ls hC hr hmn hG hl
  have hx := hC.x
  have hb := hC.b
  have hl : lv_has ls 3 [(0, .ref (ia j)), (1, .ref (ia o))] := hl
  have hi_RX1 : ∀ w ∈ wsX10, w ∈ wsX1_standsUnder := fun w h => List.mem_cons_of_mem _ (List.mem_append_right _ h)
  refine lv_aload_n hx hb dX1_standsUnder_0 rfl (lv_at hl 0 rfl) ?_
  refine lv_astore_n (lv' := [(2, .ref (ia j)), (0, .ref (ia j)), (1, .ref (ia o))]) hx hb dX1_standsUnder_1 rfl hl (by decide) rfl (fun ls hl => ?_)
  have hl : lv_has ls 3 [(2, va_rf ((some j).map ia)), (0, .ref (ia j)), (1, .ref (ia o))] := hl
  refine k_loop (σ := Nat × (Option Nat)) (fun q9 => (q9.2 = none ∨ ∃ k, q9.2 = some k ∧ k < q9.1 ∧ k < ni) ∧ kSu par o q9.1 q9.2 = kSu par o 31 (some j)) (fun q9 => q9.1) (fun q9 => ws) (fun q9 => [(0, .ref (ia j)), (1, .ref (ia o)), (2, va_rf (q9.2.map ia))]) 2 [] ?_ ⟨31, some j⟩ (⟨Or.inr ⟨j, rfl, by show j < 31; omega, hj⟩, rfl⟩) hG (lv_sub hl [1, 2, 0] rfl)
  intro q9
  obtain ⟨n, up⟩ := q9
  intro hI ih H locs ls hG hl
  have hI : (up = none ∨ ∃ k, up = some k ∧ k < n ∧ k < ni) ∧ kSu par o n up = kSu par o 31 (some j) := hI
  have hG : kG D A s (ws) H locs := hG
  have hl : lv_has ls 3 [(0, .ref (ia j)), (1, .ref (ia o)), (2, va_rf (up.map ia))] := hl
  refine k_aload_nQ hx hb dX1_standsUnder_2 rfl (lv_at hl 2 rfl) ?_
  refine k_ifnull (tgt := 21) hx hb dX1_standsUnder_3 (by decide) (fun c_1 => ?_) (fun c_1 => ?_)
  · refine lv_iconst (v := 0) hx hb dX1_standsUnder_21 (by decide) ?_
    exact k_retz hC hr hG rfl ⟨by rw [← hI.2, k_suN c_1]; rfl, rfl⟩ (Nat.le_of_ble_eq_true rfl) (Nat.le_of_ble_eq_true rfl) dX1_standsUnder_22
  · obtain ⟨h9, h8⟩ := hI
    rcases h9 with rfl | ⟨k, rfl, hk1, hk2⟩
    · exact Bool.noConfusion (show false = true from c_1)
    obtain ⟨n, rfl⟩ : ∃ n', n = n' + 1 := ⟨n - 1, by omega⟩
    have h7 : (bif decide (k = o) then true else kSu par o n (par k)) = kSu par o 31 (some j) := h8
    have hl : lv_has ls 3 [(0, .ref (ia j)), (1, .ref (ia o)), (2, .ref (ia k))] := hl
    refine lv_aload_n hx hb dX1_standsUnder_6 rfl (lv_at hl 2 rfl) ?_
    refine lv_aload_n hx hb dX1_standsUnder_7 rfl (lv_at hl 1 rfl) ?_
    refine k_acmp_ne (rx := some (ia k)) (ry := some (ia o)) (tgt := 13) hx hb dX1_standsUnder_8 (by decide) (fun c_2 => ?_) (fun c_2 => ?_)
    · have hne : k ≠ o := fun q => absurd (of_decide_eq_false c_2) (fun z => z (by rw [q]))
      rw [decide_eq_false hne] at h7
      have hI2 : (par k = none ∨ ∃ q, par k = some q ∧ q < n ∧ q < ni) ∧ kSu par o n (par k) = kSu par o 31 (some j) := by
        refine ⟨?_, h7⟩
        cases hp9 : par k with
        | none => exact Or.inl rfl
        | some q => exact Or.inr ⟨q, rfl, by have := hip.2.1 k q hk2 hp9; omega, by have := hip.2.1 k q hk2 hp9; omega⟩
      refine lv_aload_n hx hb dX1_standsUnder_13 rfl (lv_at hl 2 rfl) ?_
      refine k_get (C := RX1) (T := TX1) (N := 6) (ci := 2) (v := va_rf ((par k).map ia)) (fs := [va_rf ((par k).map ia), va_rf ((rt k).map ra), .int (wa k), .int (me k), .int (va k), .int (dn k)]) hC hG hi_RX1 (pi k) (hip.1 k hk2) rfl 0 (by decide) (List.mem_of_getElem? (i := 1) rfl) rfl rfl dX1_standsUnder_14 ?_
      refine k_astore_nQ (lv' := [(2, va_rf ((par k).map ia)), (0, .ref (ia j)), (1, .ref (ia o))]) hx hb dX1_standsUnder_17 rfl hl (by decide) rfl (fun ls hl => ?_)
      refine lv_goto (tgt := 2) hx hb dX1_standsUnder_18 (by decide) ?_
      exact ih ⟨n, par k⟩ (hI2) (Nat.lt_succ_self n) _ _ _ hG (lv_sub hl [1, 2, 0] rfl)
    · refine lv_iconst (v := 1) hx hb dX1_standsUnder_11 (by decide) ?_
      exact k_retz hC hr hG rfl ⟨by rw [← h7, decide_eq_true (hip.2.2 k o hk2 ho (Option.some.inj (of_decide_eq_true c_2)))]; rfl, rfl⟩ (Nat.le_of_ble_eq_true rfl) (Nat.le_of_ble_eq_true rfl) dX1_standsUnder_12

