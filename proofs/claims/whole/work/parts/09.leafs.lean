theorem k_nlt {x b : Int32} (h : decide (x ≤ b) = true) : decide (b < x) = false := decide_eq_false (fun q => absurd (of_decide_eq_true h) (Int32.not_le.mpr q))
theorem k_nle {x b : Int32} (h : decide (x ≤ b) = false) : decide (b < x) = true := decide_eq_true (Int32.not_le.mp (of_decide_eq_false h))
set_option maxHeartbeats 4000000 in
set_option maxRecDepth 100000 in
/-- checkRange: nothing, or it throws -/
theorem K_X3_checkRange (l : Launch) (hfl : l.stackTraces = false) (D : va_G) (cI cJ cZ cO : ClassId) (z mi : Nat) (ws : va_W) (x a b : Int32) : kM l D (kTy cI cJ cZ cO) z mi yX3_checkRange wsX3_checkRange ({ frames := 6, cells := 1, slots := 6, locals := 90 } : Room) [.int x, .int a, .int b] (ws) (fun v u => v = none ∧ u = ws ∧ kIn x a b = true) (fun E u => E = kIAE ∧ u = ws ∧ kIn x a b = false) := by
  refine kM.of hfl (cc := cX3_checkRange) (maxL := 3) (ret := none) (by decide) rfl (Nat.le_of_ble_eq_true rfl) ?_
  intro p e s m args below meth c A ls hC hr hmn hG hl
  have hx := hC.x
  have hb := hC.b
  have hl : lv_has ls 3 [(0, .int x), (1, .int a), (2, .int b)] := hl
  refine lv_iload_n hx hb dX3_checkRange_0 rfl (lv_at hl 0 rfl) ?_
  refine lv_iload_n hx hb dX3_checkRange_1 rfl (lv_at hl 1 rfl) ?_
  refine k_icmp_lt (tgt := 10) hx hb dX3_checkRange_2 (by decide) (fun c_1 => ?_) (fun c_1 => ?_)
  · exact k_throw (text := "out of its range") (is := 192) (ic := 194) (cls := "java/lang/IllegalArgumentException") hC hG rfl (by decide +kernel) (List.mem_of_getElem? (i := 1) rfl) (List.mem_of_getElem? (i := 2) rfl) (by decide) (fun w h => List.mem_cons_of_mem _ (List.mem_append_right _ h)) (by decide +kernel) (by decide +kernel) hl.1 dX3_checkRange_10 dX3_checkRange_13 dX3_checkRange_14 dX3_checkRange_16 dX3_checkRange_19 ⟨(Nat.le_of_ble_eq_true rfl), (Nat.le_of_ble_eq_true rfl)⟩ ⟨(Nat.le_of_ble_eq_true rfl), (Nat.le_of_ble_eq_true rfl)⟩ ⟨(Nat.le_of_ble_eq_true rfl), (Nat.le_of_ble_eq_true rfl)⟩ (⟨rfl, rfl, by unfold kIn; rw [c_1]; rfl⟩)
  · refine lv_iload_n hx hb dX3_checkRange_5 rfl (lv_at hl 0 rfl) ?_
    refine lv_iload_n hx hb dX3_checkRange_6 rfl (lv_at hl 2 rfl) ?_
    refine k_icmp_le (tgt := 20) hx hb dX3_checkRange_7 (by decide) (fun c_2 => ?_) (fun c_2 => ?_)
    · exact k_retv hC hr hG ⟨rfl, rfl, by unfold kIn; rw [c_1, k_nlt c_2]; rfl⟩ (Nat.le_of_ble_eq_true rfl) (Nat.le_of_ble_eq_true rfl) dX3_checkRange_20
    · exact k_throw (text := "out of its range") (is := 192) (ic := 194) (cls := "java/lang/IllegalArgumentException") hC hG rfl (by decide +kernel) (List.mem_of_getElem? (i := 1) rfl) (List.mem_of_getElem? (i := 2) rfl) (by decide) (fun w h => List.mem_cons_of_mem _ (List.mem_append_right _ h)) (by decide +kernel) (by decide +kernel) hl.1 dX3_checkRange_10 dX3_checkRange_13 dX3_checkRange_14 dX3_checkRange_16 dX3_checkRange_19 ⟨(Nat.le_of_ble_eq_true rfl), (Nat.le_of_ble_eq_true rfl)⟩ ⟨(Nat.le_of_ble_eq_true rfl), (Nat.le_of_ble_eq_true rfl)⟩ ⟨(Nat.le_of_ble_eq_true rfl), (Nat.le_of_ble_eq_true rfl)⟩ (⟨rfl, rfl, by unfold kIn; rw [c_1, k_nle c_2]; rfl⟩)

set_option maxHeartbeats 4000000 in
set_option maxRecDepth 100000 in
/-- in: whether it is within its range -/
theorem K_X4_in (l : Launch) (hfl : l.stackTraces = false) (D : va_G) (cI cJ cZ cO : ClassId) (z mi : Nat) (ws : va_W) (x a b : Int32) : kM l D (kTy cI cJ cZ cO) z mi yX4_in wsX4_in ({ frames := 0, cells := 0, slots := 0, locals := 0 } : Room) [.int x, .int a, .int b] (ws) (fun v u => v = some (.int (kb (kIn x a b))) ∧ u = ws) (fun _ _ => False) := by
  refine kM.of hfl (cc := cX4_in) (maxL := 3) (ret := (some .boolean)) (by decide) rfl (Nat.le_of_ble_eq_true rfl) ?_
  intro p e s m args below meth c A ls hC hr hmn hG hl
  have hx := hC.x
  have hb := hC.b
  have hl : lv_has ls 3 [(0, .int x), (1, .int a), (2, .int b)] := hl
  refine lv_iload_n hx hb dX4_in_0 rfl (lv_at hl 0 rfl) ?_
  refine lv_iload_n hx hb dX4_in_1 rfl (lv_at hl 1 rfl) ?_
  refine k_joinH (D := D) (A := A) (fun v3 : Int32 => F0 m 15 ls (.int v3 :: [])) (fun v3 => v3 = kb (!(decide (x < a)) && (!(decide (b < x))))) (ws) ?_ (fun J2 => ?_)
  · intro v3 ev3 H locs hG
    have ev3 : v3 = kb (!(decide (x < a)) && (!(decide (b < x)))) := ev3
    subst ev3
    exact k_retz hC hr hG (kb_nar _) ⟨rfl, rfl⟩ (Nat.le_of_ble_eq_true rfl) (Nat.le_of_ble_eq_true rfl) dX4_in_15
  refine k_icmp_lt (tgt := 14) hx hb dX4_in_2 (by decide) (fun c_1 => ?_) (fun c_1 => ?_)
  · refine lv_iconst (v := 0) hx hb dX4_in_14 (by decide) ?_
    exact J2 0 (by rw [c_1]; first | done | rfl) _ _ hG
  · refine lv_iload_n hx hb dX4_in_5 rfl (lv_at hl 0 rfl) ?_
    refine lv_iload_n hx hb dX4_in_6 rfl (lv_at hl 2 rfl) ?_
    refine k_icmp_gt (tgt := 14) hx hb dX4_in_7 (by decide) (fun c_4 => ?_) (fun c_4 => ?_)
    · refine lv_iconst (v := 0) hx hb dX4_in_14 (by decide) ?_
      exact J2 0 (by rw [c_1, c_4]; first | done | rfl) _ _ hG
    · refine lv_iconst (v := 1) hx hb dX4_in_10 (by decide) ?_
      refine lv_goto (tgt := 15) hx hb dX4_in_11 (by decide) ?_
      exact J2 1 (by rw [c_1, c_4]; first | done | rfl) _ _ hG

