set_option maxHeartbeats 4000000 in
set_option maxRecDepth 100000 in
/-- Rate(..) -/
theorem K_X2_init (l : Launch) (hfl : l.stackTraces = false) (D : va_G) (cI cJ cZ cO : ClassId) (z mi : Nat) (ws : va_W) (k h : Nat) (u1 u2 u3 l9 p9 m9 : Int32) (hw : ws[k]? = some (h, .inr (3, [.int u1, .int u2, .int u3]))) : kM l D (kTy cI cJ cZ cO) z mi yX2_init wsX2_init ({ frames := 1, cells := 0, slots := 0, locals := 20 } : Room) [.ref h, .int l9, .int p9, .int m9] (ws) (fun v u => v = none ∧ u = ws.set k (h, .inr (3, [.int l9, .int p9, .int m9]))) (fun _ _ => False) := by
  refine kM.of hfl (cc := cX2_init) (maxL := 4) (ret := none) (by decide) rfl (Nat.le_of_ble_eq_true rfl) ?_
  intro p e s m args below meth c A ls hC hr hmn hG hl
  have hx := hC.x
  have hb := hC.b
  have hl : lv_has ls 4 [(0, .ref h), (1, .int l9), (2, .int p9), (3, .int m9)] := hl
  have hi_RX2 : ∀ w ∈ wsX20, w ∈ wsX2_init := fun w h => List.mem_cons_of_mem _ (List.mem_append_right _ h)
  refine lv_aload_n hx hb dX2_init_0 rfl (lv_at hl 0 rfl) ?_
  refine W.objInit hx hb hC.o (hC.t _ (List.mem_of_getElem? (i := 1) rfl)) (hC.t _ (List.mem_of_getElem? (i := 2) rfl)) (hC.t _ (List.mem_of_getElem? (i := 3) rfl)) rfl (hl.1.trans hC.nl.symm) rfl dX2_init_1 (Nat.le_of_ble_eq_true rfl) (Nat.le_of_ble_eq_true rfl) ?_
  refine W.eq (g2 := F0 m 4 ls []) rfl ?_
  refine lv_aload_n hx hb dX2_init_4 rfl (lv_at hl 0 rfl) ?_
  refine lv_iload_n hx hb dX2_init_5 rfl (lv_at hl 1 rfl) ?_
  refine k_putF (C := RX2) (T := TX2) (N := 3) (ci := 3) (v := .int l9) (fs := [.int u1, .int u2, .int u3]) hC hG hi_RX2 tyX2_ok nmX2 k hw rfl 0 (by decide) (List.mem_of_getElem? (i := 4) rfl) rfl rfl hmn rfl rfl rfl (Nat.le_of_ble_eq_true rfl) dX2_init_6 (fun H locs hG => ?_)
  have hG : kG D A s (ws.set k (h, .inr (3, [.int l9, .int u2, .int u3]))) H locs := hG
  refine lv_aload_n hx hb dX2_init_9 rfl (lv_at hl 0 rfl) ?_
  refine lv_iload_n hx hb dX2_init_10 rfl (lv_at hl 2 rfl) ?_
  refine k_putF (C := RX2) (T := TX2) (N := 3) (ci := 3) (v := .int p9) (fs := [.int l9, .int u2, .int u3]) hC hG hi_RX2 tyX2_ok nmX2 k (k_sets hw) rfl 1 (by decide) (List.mem_of_getElem? (i := 5) rfl) rfl rfl hmn rfl rfl rfl (Nat.le_of_ble_eq_true rfl) dX2_init_11 (fun H locs hG => ?_)
  have hG : kG D A s ((ws.set k (h, .inr (3, [.int l9, .int u2, .int u3]))).set k (h, .inr (3, [.int l9, .int p9, .int u3]))) H locs := hG
  rw [List.set_set] at hG
  refine lv_aload_n hx hb dX2_init_14 rfl (lv_at hl 0 rfl) ?_
  refine lv_iload_n hx hb dX2_init_15 rfl (lv_at hl 3 rfl) ?_
  refine k_putF (C := RX2) (T := TX2) (N := 3) (ci := 3) (v := .int m9) (fs := [.int l9, .int p9, .int u3]) hC hG hi_RX2 tyX2_ok nmX2 k (k_sets hw) rfl 2 (by decide) (List.mem_of_getElem? (i := 6) rfl) rfl rfl hmn rfl rfl rfl (Nat.le_of_ble_eq_true rfl) dX2_init_16 (fun H locs hG => ?_)
  have hG : kG D A s ((ws.set k (h, .inr (3, [.int l9, .int p9, .int u3]))).set k (h, .inr (3, [.int l9, .int p9, .int m9]))) H locs := hG
  rw [List.set_set] at hG
  exact k_retv hC hr hG ⟨rfl, rfl⟩ (Nat.le_of_ble_eq_true rfl) (Nat.le_of_ble_eq_true rfl) dX2_init_19

set_option maxHeartbeats 4000000 in
set_option maxRecDepth 100000 in
/-- isOf -/
theorem K_X2_isOf (l : Launch) (hfl : l.stackTraces = false) (D : va_G) (cI cJ cZ cO : ClassId) (z mi : Nat) (ws : va_W) (k h : Nat) (u1 u2 u3 l9 p9 m9 : Int32) (hw : ws[k]? = some (h, .inr (3, [.int u1, .int u2, .int u3]))) : kM l D (kTy cI cJ cZ cO) z mi yX2_isOf wsX2_isOf ({ frames := 0, cells := 0, slots := 0, locals := 0 } : Room) [.ref h, .int l9, .int p9, .int m9] (ws) (fun v u => v = some (.int (kb ((decide (u1 = l9)) && ((decide (u2 = p9)) && (decide (u3 = m9)))))) ∧ u = ws) (fun _ _ => False) := by
  refine kM.of hfl (cc := cX2_isOf) (maxL := 4) (ret := (some .boolean)) (by decide) rfl (Nat.le_of_ble_eq_true rfl) ?_
  intro p e s m args below meth c A ls hC hr hmn hG hl
  have hx := hC.x
  have hb := hC.b
  have hl : lv_has ls 4 [(0, .ref h), (1, .int l9), (2, .int p9), (3, .int m9)] := hl
  have hi_RX2 : ∀ w ∈ wsX20, w ∈ wsX2_isOf := fun w h => List.mem_cons_of_mem _ (List.mem_append_right _ h)
  refine lv_aload_n hx hb dX2_isOf_0 rfl (lv_at hl 0 rfl) ?_
  refine k_get (C := RX2) (T := TX2) (N := 3) (ci := 3) (v := .int u1) (fs := [.int u1, .int u2, .int u3]) hC hG hi_RX2 k hw rfl 0 (by decide) (List.mem_of_getElem? (i := 1) rfl) rfl rfl dX2_isOf_1 ?_
  refine lv_iload_n hx hb dX2_isOf_4 rfl (lv_at hl 1 rfl) ?_
  refine k_joinH (D := D) (A := A) (fun v3 : Int32 => F0 m 29 ls (.int v3 :: [])) (fun v3 => v3 = kb ((decide (u1 = l9)) && ((decide (u2 = p9)) && (decide (u3 = m9))))) (ws) ?_ (fun J2 => ?_)
  · intro v3 ev3 H locs hG
    have ev3 : v3 = kb ((decide (u1 = l9)) && ((decide (u2 = p9)) && (decide (u3 = m9)))) := ev3
    subst ev3
    exact k_retz hC hr hG (kb_nar _) ⟨rfl, rfl⟩ (Nat.le_of_ble_eq_true rfl) (Nat.le_of_ble_eq_true rfl) dX2_isOf_29
  refine k_icmp_ne (tgt := 28) hx hb dX2_isOf_5 (by decide) (fun c_1 => ?_) (fun c_1 => ?_)
  · refine lv_iconst (v := 0) hx hb dX2_isOf_28 (by decide) ?_
    exact J2 0 (by rw [c_1]; first | done | rfl) _ _ hG
  · refine lv_aload_n hx hb dX2_isOf_8 rfl (lv_at hl 0 rfl) ?_
    refine k_get (C := RX2) (T := TX2) (N := 3) (ci := 3) (v := .int u2) (fs := [.int u1, .int u2, .int u3]) hC hG hi_RX2 k hw rfl 1 (by decide) (List.mem_of_getElem? (i := 2) rfl) rfl rfl dX2_isOf_9 ?_
    refine lv_iload_n hx hb dX2_isOf_12 rfl (lv_at hl 2 rfl) ?_
    refine k_icmp_ne (tgt := 28) hx hb dX2_isOf_13 (by decide) (fun c_4 => ?_) (fun c_4 => ?_)
    · refine lv_iconst (v := 0) hx hb dX2_isOf_28 (by decide) ?_
      exact J2 0 (by rw [c_4, c_1]; first | done | rfl) _ _ hG
    · refine lv_aload_n hx hb dX2_isOf_16 rfl (lv_at hl 0 rfl) ?_
      refine k_get (C := RX2) (T := TX2) (N := 3) (ci := 3) (v := .int u3) (fs := [.int u1, .int u2, .int u3]) hC hG hi_RX2 k hw rfl 2 (by decide) (List.mem_of_getElem? (i := 3) rfl) rfl rfl dX2_isOf_17 ?_
      refine lv_iload_n hx hb dX2_isOf_20 rfl (lv_at hl 3 rfl) ?_
      refine k_icmp_ne (tgt := 28) hx hb dX2_isOf_21 (by decide) (fun c_5 => ?_) (fun c_5 => ?_)
      · refine lv_iconst (v := 0) hx hb dX2_isOf_28 (by decide) ?_
        exact J2 0 (by rw [c_5, c_4, c_1]; first | done | rfl) _ _ hG
      · refine lv_iconst (v := 1) hx hb dX2_isOf_24 (by decide) ?_
        refine lv_goto (tgt := 29) hx hb dX2_isOf_25 (by decide) ?_
        exact J2 1 (by rw [c_5, c_4, c_1]; first | done | rfl) _ _ hG

set_option maxHeartbeats 4000000 in
set_option maxRecDepth 100000 in
/-- hundredthsRoundedUp -/
theorem K_X3_hundredthsRoundedUp (l : Launch) (hfl : l.stackTraces = false) (D : va_G) (cI cJ cZ cO : ClassId) (z mi : Nat) (ws : va_W) (a9 : Int64) : kM l D (kTy cI cJ cZ cO) z mi yX3_hundredthsRoundedUp wsX3_hundredthsRoundedUp ({ frames := 0, cells := 0, slots := 0, locals := 0 } : Room) [.long a9] (ws) (fun v u => v = some (.long (((a9 + 100) - 1) / 100)) ∧ u = ws) (fun _ _ => False) := by
  refine kM.of hfl (cc := cX3_hundredthsRoundedUp) (maxL := 2) (ret := (some .long)) (by decide) rfl (Nat.le_of_ble_eq_true rfl) ?_
  intro p e s m args below meth c A ls hC hr hmn hG hl
  have hx := hC.x
  have hb := hC.b
  have hl : lv_has ls 2 [(0, .long a9)] := hl
  refine lv_lload_n hx hb dX3_hundredthsRoundedUp_0 rfl (lv_at hl 0 rfl) ?_
  refine lv_ldc2 (v := 100) hx hb hC.o (hC.t _ (List.mem_of_getElem? (i := 1) rfl)) dX3_hundredthsRoundedUp_1 ?_
  refine lv_ladd hx hb dX3_hundredthsRoundedUp_4 ?_
  refine lv_lconst (v := 1) hx hb dX3_hundredthsRoundedUp_5 (by decide) ?_
  refine lv_lsub hx hb dX3_hundredthsRoundedUp_6 ?_
  refine lv_ldc2 (v := 100) hx hb hC.o (hC.t _ (List.mem_of_getElem? (i := 1) rfl)) dX3_hundredthsRoundedUp_7 ?_
  refine lv_ldiv hx hb dX3_hundredthsRoundedUp_10 (by decide) ?_
  exact k_retl hC hr hG ⟨rfl, rfl⟩ (Nat.le_of_ble_eq_true rfl) (Nat.le_of_ble_eq_true rfl) dX3_hundredthsRoundedUp_11

set_option maxHeartbeats 4000000 in
set_option maxRecDepth 100000 in
/-- isLeaf -/
theorem K_X1_isLeaf (l : Launch) (hfl : l.stackTraces = false) (D : va_G) (cI cJ cZ cO : ClassId) (z mi : Nat) (ws : va_W) (k h : Nat) (pa ra : Option Nat) (wa me va dn : Int32) (hw : ws[k]? = some (h, .inr (2, [va_rf pa, va_rf ra, .int wa, .int me, .int va, .int dn]))) : kM l D (kTy cI cJ cZ cO) z mi yX1_isLeaf wsX1_isLeaf ({ frames := 0, cells := 0, slots := 0, locals := 0 } : Room) [.ref h] (ws) (fun v u => v = some (.int (kb ra.isSome)) ∧ u = ws) (fun _ _ => False) := by
  refine kM.of hfl (cc := cX1_isLeaf) (maxL := 1) (ret := (some .boolean)) (by decide) rfl (Nat.le_of_ble_eq_true rfl) ?_
  intro p e s m args below meth c A ls hC hr hmn hG hl
  have hx := hC.x
  have hb := hC.b
  have hl : lv_has ls 1 [(0, .ref h)] := hl
  have hi_RX1 : ∀ w ∈ wsX10, w ∈ wsX1_isLeaf := fun w h => List.mem_cons_of_mem _ (List.mem_append_right _ h)
  refine lv_aload_n hx hb dX1_isLeaf_0 rfl (lv_at hl 0 rfl) ?_
  refine k_get (C := RX1) (T := TX1) (N := 6) (ci := 2) (v := va_rf ra) (fs := [va_rf pa, va_rf ra, .int wa, .int me, .int va, .int dn]) hC hG hi_RX1 k hw rfl 1 (by decide) (List.mem_of_getElem? (i := 1) rfl) rfl rfl dX1_isLeaf_1 ?_
  refine k_joinH (D := D) (A := A) (fun v3 : Int32 => F0 m 12 ls (.int v3 :: [])) (fun v3 => v3 = kb ra.isSome) (ws) ?_ (fun J2 => ?_)
  · intro v3 ev3 H locs hG
    have ev3 : v3 = kb ra.isSome := ev3
    subst ev3
    exact k_retz hC hr hG (kb_nar _) ⟨rfl, rfl⟩ (Nat.le_of_ble_eq_true rfl) (Nat.le_of_ble_eq_true rfl) dX1_isLeaf_12
  refine k_ifnull (tgt := 11) hx hb dX1_isLeaf_4 (by decide) (fun c_1 => ?_) (fun c_1 => ?_)
  · refine lv_iconst (v := 0) hx hb dX1_isLeaf_11 (by decide) ?_
    exact J2 0 (by rw [c_1]; first | done | rfl) _ _ hG
  · refine lv_iconst (v := 1) hx hb dX1_isLeaf_7 (by decide) ?_
    refine lv_goto (tgt := 12) hx hb dX1_isLeaf_8 (by decide) ?_
    exact J2 1 (by rw [c_1]; first | done | rfl) _ _ hG

set_option maxHeartbeats 4000000 in
set_option maxRecDepth 100000 in
/-- measureWithWaste -/
theorem K_X1_measureWithWaste (l : Launch) (hfl : l.stackTraces = false) (D : va_G) (cI cJ cZ cO : ClassId) (z mi : Nat) (ws : va_W) (k h : Nat) (pa ra : Option Nat) (wa me va dn : Int32) (hw : ws[k]? = some (h, .inr (2, [va_rf pa, va_rf ra, .int wa, .int me, .int va, .int dn]))) : kM l D (kTy cI cJ cZ cO) z mi yX1_measureWithWaste wsX1_measureWithWaste ({ frames := 1, cells := 0, slots := 0, locals := 21 } : Room) [.ref h] (ws) (fun v u => v = some (.long ((((me.toInt64 * (100 + wa).toInt64) + 100) - 1) / 100)) ∧ u = ws) (fun _ _ => False) := by
  refine kM.of hfl (cc := cX1_measureWithWaste) (maxL := 1) (ret := (some .long)) (by decide) rfl (Nat.le_of_ble_eq_true rfl) ?_
  intro p e s m args below meth c A ls hC hr hmn hG hl
  have hx := hC.x
  have hb := hC.b
  have hl : lv_has ls 1 [(0, .ref h)] := hl
  have hi_RX1 : ∀ w ∈ wsX10, w ∈ wsX1_measureWithWaste := fun w h => List.mem_cons_of_mem _ (List.mem_append_right _ h)
  refine lv_aload_n hx hb dX1_measureWithWaste_0 rfl (lv_at hl 0 rfl) ?_
  refine k_get (C := RX1) (T := TX1) (N := 6) (ci := 2) (v := .int me) (fs := [va_rf pa, va_rf ra, .int wa, .int me, .int va, .int dn]) hC hG hi_RX1 k hw rfl 3 (by decide) (List.mem_of_getElem? (i := 1) rfl) rfl rfl dX1_measureWithWaste_1 ?_
  refine lv_i2l hx hb dX1_measureWithWaste_4 rfl ?_
  refine lv_bipush (v := 100) hx hb dX1_measureWithWaste_5 (by decide) ?_
  refine lv_aload_n hx hb dX1_measureWithWaste_7 rfl (lv_at hl 0 rfl) ?_
  refine k_get (C := RX1) (T := TX1) (N := 6) (ci := 2) (v := .int wa) (fs := [va_rf pa, va_rf ra, .int wa, .int me, .int va, .int dn]) hC hG hi_RX1 k hw rfl 2 (by decide) (List.mem_of_getElem? (i := 2) rfl) rfl rfl dX1_measureWithWaste_8 ?_
  refine lv_iadd hx hb dX1_measureWithWaste_11 ?_
  refine lv_i2l hx hb dX1_measureWithWaste_12 rfl ?_
  refine lv_lmul hx hb dX1_measureWithWaste_13 ?_
  refine k_callSN (nn := 1) (host := RX3) hC hG (K_X3_hundredthsRoundedUp l hfl D cI cJ cZ cO z mi (ws) (me.toInt64 * ((100 + wa).toInt64))) gX1_measureWithWaste_X3_hundredthsRoundedUp_n26 (by unfold kBad; simp only [List.mem_cons]; right; right; right; right; right; right; right; right; right; right; right; left; rfl) (List.mem_of_getElem? (i := 4) rfl) (List.mem_of_getElem? (i := 3) rfl) rfl rfl (by decide +kernel) ⟨(Nat.le_of_ble_eq_true rfl), (Nat.le_of_ble_eq_true rfl)⟩ hl.1 rfl (Nat.le_of_ble_eq_true rfl) dX1_measureWithWaste_14 ⟨(Nat.le_of_ble_eq_true rfl), (Nat.le_of_ble_eq_true rfl)⟩ (fun _ _ _ _ _ _ hp => hp.elim) (fun v9 u9 H locs hp hG => ?_)
  obtain ⟨rfl, hu9⟩ := hp
  rw [hu9] at hG
  refine W.widen (k := 0) (n := 0) (Nat.le_of_ble_eq_true rfl) (Nat.le_of_ble_eq_true rfl) ?_
  refine W.eq (g2 := F0 m 17 ls [.long ((((me.toInt64 * ((100 + wa).toInt64)) + 100) - 1) / 100)]) rfl ?_
  exact k_retl hC hr hG ⟨rfl, rfl⟩ (Nat.le_of_ble_eq_true rfl) (Nat.le_of_ble_eq_true rfl) dX1_measureWithWaste_17

set_option maxHeartbeats 4000000 in
set_option maxRecDepth 100000 in
/-- Item(..) -/
theorem K_X1_init_NN (l : Launch) (hfl : l.stackTraces = false) (D : va_G) (cI cJ cZ cO : ClassId) (z mi : Nat) (ws : va_W) (k h : Nat) (u1 u2 u3 u4 w9 : Int32) (hw : ws[k]? = some (h, .inr (2, [.null, .null, .int u1, .int u2, .int u3, .int u4]))) : kM l D (kTy cI cJ cZ cO) z mi yX1_init wsX1_init ({ frames := 1, cells := 0, slots := 0, locals := 20 } : Room) [.ref h, .null, .null, .int w9] (ws) (fun v u => v = none ∧ u = ws.set k (h, .inr (2, [.null, .null, .int w9, .int u2, .int u3, .int u4]))) (fun _ _ => False) := by
  refine kM.of hfl (cc := cX1_init) (maxL := 4) (ret := none) (by decide) rfl (Nat.le_of_ble_eq_true rfl) ?_
  intro p e s m args below meth c A ls hC hr hmn hG hl
  have hx := hC.x
  have hb := hC.b
  have hl : lv_has ls 4 [(0, .ref h), (1, .null), (2, .null), (3, .int w9)] := hl
  have hi_RX1 : ∀ w ∈ wsX10, w ∈ wsX1_init := fun w h => List.mem_cons_of_mem _ (List.mem_append_right _ h)
  refine lv_aload_n hx hb dX1_init_0 rfl (lv_at hl 0 rfl) ?_
  refine W.objInit hx hb hC.o (hC.t _ (List.mem_of_getElem? (i := 1) rfl)) (hC.t _ (List.mem_of_getElem? (i := 2) rfl)) (hC.t _ (List.mem_of_getElem? (i := 3) rfl)) rfl (hl.1.trans hC.nl.symm) rfl dX1_init_1 (Nat.le_of_ble_eq_true rfl) (Nat.le_of_ble_eq_true rfl) ?_
  refine W.eq (g2 := F0 m 4 ls []) rfl ?_
  refine lv_aload_n hx hb dX1_init_4 rfl (lv_at hl 0 rfl) ?_
  refine k_aload_nN hx hb dX1_init_5 rfl (lv_at hl 1 rfl) ?_
  refine k_putF (C := RX1) (T := TX1) (N := 6) (ci := 2) (v := .null) (fs := [.null, .null, .int u1, .int u2, .int u3, .int u4]) hC hG hi_RX1 tyX1_ok nmX1 k hw rfl 0 (by decide) (List.mem_of_getElem? (i := 4) rfl) rfl rfl hmn rfl rfl rfl (Nat.le_of_ble_eq_true rfl) dX1_init_6 (fun H locs hG => ?_)
  have hG : kG D A s (ws.set k (h, .inr (2, [.null, .null, .int u1, .int u2, .int u3, .int u4]))) H locs := hG
  refine lv_aload_n hx hb dX1_init_9 rfl (lv_at hl 0 rfl) ?_
  refine k_aload_nN hx hb dX1_init_10 rfl (lv_at hl 2 rfl) ?_
  refine k_putF (C := RX1) (T := TX1) (N := 6) (ci := 2) (v := .null) (fs := [.null, .null, .int u1, .int u2, .int u3, .int u4]) hC hG hi_RX1 tyX1_ok nmX1 k (k_sets hw) rfl 1 (by decide) (List.mem_of_getElem? (i := 5) rfl) rfl rfl hmn rfl rfl rfl (Nat.le_of_ble_eq_true rfl) dX1_init_11 (fun H locs hG => ?_)
  have hG : kG D A s ((ws.set k (h, .inr (2, [.null, .null, .int u1, .int u2, .int u3, .int u4]))).set k (h, .inr (2, [.null, .null, .int u1, .int u2, .int u3, .int u4]))) H locs := hG
  rw [List.set_set] at hG
  refine lv_aload_n hx hb dX1_init_14 rfl (lv_at hl 0 rfl) ?_
  refine lv_iload_n hx hb dX1_init_15 rfl (lv_at hl 3 rfl) ?_
  refine k_putF (C := RX1) (T := TX1) (N := 6) (ci := 2) (v := .int w9) (fs := [.null, .null, .int u1, .int u2, .int u3, .int u4]) hC hG hi_RX1 tyX1_ok nmX1 k (k_sets hw) rfl 2 (by decide) (List.mem_of_getElem? (i := 6) rfl) rfl rfl hmn rfl rfl rfl (Nat.le_of_ble_eq_true rfl) dX1_init_16 (fun H locs hG => ?_)
  have hG : kG D A s ((ws.set k (h, .inr (2, [.null, .null, .int u1, .int u2, .int u3, .int u4]))).set k (h, .inr (2, [.null, .null, .int w9, .int u2, .int u3, .int u4]))) H locs := hG
  rw [List.set_set] at hG
  exact k_retv hC hr hG ⟨rfl, rfl⟩ (Nat.le_of_ble_eq_true rfl) (Nat.le_of_ble_eq_true rfl) dX1_init_19

set_option maxHeartbeats 4000000 in
set_option maxRecDepth 100000 in
/-- Item(..) -/
theorem K_X1_init_NR (l : Launch) (hfl : l.stackTraces = false) (D : va_G) (cI cJ cZ cO : ClassId) (z mi : Nat) (ws : va_W) (k h : Nat) (ra : Nat) (u1 u2 u3 u4 w9 : Int32) (hw : ws[k]? = some (h, .inr (2, [.null, .null, .int u1, .int u2, .int u3, .int u4]))) : kM l D (kTy cI cJ cZ cO) z mi yX1_init wsX1_init ({ frames := 1, cells := 0, slots := 0, locals := 20 } : Room) [.ref h, .null, .ref ra, .int w9] (ws) (fun v u => v = none ∧ u = ws.set k (h, .inr (2, [.null, .ref ra, .int w9, .int u2, .int u3, .int u4]))) (fun _ _ => False) := by
  refine kM.of hfl (cc := cX1_init) (maxL := 4) (ret := none) (by decide) rfl (Nat.le_of_ble_eq_true rfl) ?_
  intro p e s m args below meth c A ls hC hr hmn hG hl
  have hx := hC.x
  have hb := hC.b
  have hl : lv_has ls 4 [(0, .ref h), (1, .null), (2, .ref ra), (3, .int w9)] := hl
  have hi_RX1 : ∀ w ∈ wsX10, w ∈ wsX1_init := fun w h => List.mem_cons_of_mem _ (List.mem_append_right _ h)
  refine lv_aload_n hx hb dX1_init_0 rfl (lv_at hl 0 rfl) ?_
  refine W.objInit hx hb hC.o (hC.t _ (List.mem_of_getElem? (i := 1) rfl)) (hC.t _ (List.mem_of_getElem? (i := 2) rfl)) (hC.t _ (List.mem_of_getElem? (i := 3) rfl)) rfl (hl.1.trans hC.nl.symm) rfl dX1_init_1 (Nat.le_of_ble_eq_true rfl) (Nat.le_of_ble_eq_true rfl) ?_
  refine W.eq (g2 := F0 m 4 ls []) rfl ?_
  refine lv_aload_n hx hb dX1_init_4 rfl (lv_at hl 0 rfl) ?_
  refine k_aload_nN hx hb dX1_init_5 rfl (lv_at hl 1 rfl) ?_
  refine k_putF (C := RX1) (T := TX1) (N := 6) (ci := 2) (v := .null) (fs := [.null, .null, .int u1, .int u2, .int u3, .int u4]) hC hG hi_RX1 tyX1_ok nmX1 k hw rfl 0 (by decide) (List.mem_of_getElem? (i := 4) rfl) rfl rfl hmn rfl rfl rfl (Nat.le_of_ble_eq_true rfl) dX1_init_6 (fun H locs hG => ?_)
  have hG : kG D A s (ws.set k (h, .inr (2, [.null, .null, .int u1, .int u2, .int u3, .int u4]))) H locs := hG
  refine lv_aload_n hx hb dX1_init_9 rfl (lv_at hl 0 rfl) ?_
  refine lv_aload_n hx hb dX1_init_10 rfl (lv_at hl 2 rfl) ?_
  refine k_putF (C := RX1) (T := TX1) (N := 6) (ci := 2) (v := .ref ra) (fs := [.null, .null, .int u1, .int u2, .int u3, .int u4]) hC hG hi_RX1 tyX1_ok nmX1 k (k_sets hw) rfl 1 (by decide) (List.mem_of_getElem? (i := 5) rfl) rfl rfl hmn rfl rfl rfl (Nat.le_of_ble_eq_true rfl) dX1_init_11 (fun H locs hG => ?_)
  have hG : kG D A s ((ws.set k (h, .inr (2, [.null, .null, .int u1, .int u2, .int u3, .int u4]))).set k (h, .inr (2, [.null, .ref ra, .int u1, .int u2, .int u3, .int u4]))) H locs := hG
  rw [List.set_set] at hG
  refine lv_aload_n hx hb dX1_init_14 rfl (lv_at hl 0 rfl) ?_
  refine lv_iload_n hx hb dX1_init_15 rfl (lv_at hl 3 rfl) ?_
  refine k_putF (C := RX1) (T := TX1) (N := 6) (ci := 2) (v := .int w9) (fs := [.null, .ref ra, .int u1, .int u2, .int u3, .int u4]) hC hG hi_RX1 tyX1_ok nmX1 k (k_sets hw) rfl 2 (by decide) (List.mem_of_getElem? (i := 6) rfl) rfl rfl hmn rfl rfl rfl (Nat.le_of_ble_eq_true rfl) dX1_init_16 (fun H locs hG => ?_)
  have hG : kG D A s ((ws.set k (h, .inr (2, [.null, .ref ra, .int u1, .int u2, .int u3, .int u4]))).set k (h, .inr (2, [.null, .ref ra, .int w9, .int u2, .int u3, .int u4]))) H locs := hG
  rw [List.set_set] at hG
  exact k_retv hC hr hG ⟨rfl, rfl⟩ (Nat.le_of_ble_eq_true rfl) (Nat.le_of_ble_eq_true rfl) dX1_init_19

set_option maxHeartbeats 4000000 in
set_option maxRecDepth 100000 in
/-- Item(..) -/
theorem K_X1_init_RN (l : Launch) (hfl : l.stackTraces = false) (D : va_G) (cI cJ cZ cO : ClassId) (z mi : Nat) (ws : va_W) (k h : Nat) (pa : Nat) (u1 u2 u3 u4 w9 : Int32) (hw : ws[k]? = some (h, .inr (2, [.null, .null, .int u1, .int u2, .int u3, .int u4]))) : kM l D (kTy cI cJ cZ cO) z mi yX1_init wsX1_init ({ frames := 1, cells := 0, slots := 0, locals := 20 } : Room) [.ref h, .ref pa, .null, .int w9] (ws) (fun v u => v = none ∧ u = ws.set k (h, .inr (2, [.ref pa, .null, .int w9, .int u2, .int u3, .int u4]))) (fun _ _ => False) := by
  refine kM.of hfl (cc := cX1_init) (maxL := 4) (ret := none) (by decide) rfl (Nat.le_of_ble_eq_true rfl) ?_
  intro p e s m args below meth c A ls hC hr hmn hG hl
  have hx := hC.x
  have hb := hC.b
  have hl : lv_has ls 4 [(0, .ref h), (1, .ref pa), (2, .null), (3, .int w9)] := hl
  have hi_RX1 : ∀ w ∈ wsX10, w ∈ wsX1_init := fun w h => List.mem_cons_of_mem _ (List.mem_append_right _ h)
  refine lv_aload_n hx hb dX1_init_0 rfl (lv_at hl 0 rfl) ?_
  refine W.objInit hx hb hC.o (hC.t _ (List.mem_of_getElem? (i := 1) rfl)) (hC.t _ (List.mem_of_getElem? (i := 2) rfl)) (hC.t _ (List.mem_of_getElem? (i := 3) rfl)) rfl (hl.1.trans hC.nl.symm) rfl dX1_init_1 (Nat.le_of_ble_eq_true rfl) (Nat.le_of_ble_eq_true rfl) ?_
  refine W.eq (g2 := F0 m 4 ls []) rfl ?_
  refine lv_aload_n hx hb dX1_init_4 rfl (lv_at hl 0 rfl) ?_
  refine lv_aload_n hx hb dX1_init_5 rfl (lv_at hl 1 rfl) ?_
  refine k_putF (C := RX1) (T := TX1) (N := 6) (ci := 2) (v := .ref pa) (fs := [.null, .null, .int u1, .int u2, .int u3, .int u4]) hC hG hi_RX1 tyX1_ok nmX1 k hw rfl 0 (by decide) (List.mem_of_getElem? (i := 4) rfl) rfl rfl hmn rfl rfl rfl (Nat.le_of_ble_eq_true rfl) dX1_init_6 (fun H locs hG => ?_)
  have hG : kG D A s (ws.set k (h, .inr (2, [.ref pa, .null, .int u1, .int u2, .int u3, .int u4]))) H locs := hG
  refine lv_aload_n hx hb dX1_init_9 rfl (lv_at hl 0 rfl) ?_
  refine k_aload_nN hx hb dX1_init_10 rfl (lv_at hl 2 rfl) ?_
  refine k_putF (C := RX1) (T := TX1) (N := 6) (ci := 2) (v := .null) (fs := [.ref pa, .null, .int u1, .int u2, .int u3, .int u4]) hC hG hi_RX1 tyX1_ok nmX1 k (k_sets hw) rfl 1 (by decide) (List.mem_of_getElem? (i := 5) rfl) rfl rfl hmn rfl rfl rfl (Nat.le_of_ble_eq_true rfl) dX1_init_11 (fun H locs hG => ?_)
  have hG : kG D A s ((ws.set k (h, .inr (2, [.ref pa, .null, .int u1, .int u2, .int u3, .int u4]))).set k (h, .inr (2, [.ref pa, .null, .int u1, .int u2, .int u3, .int u4]))) H locs := hG
  rw [List.set_set] at hG
  refine lv_aload_n hx hb dX1_init_14 rfl (lv_at hl 0 rfl) ?_
  refine lv_iload_n hx hb dX1_init_15 rfl (lv_at hl 3 rfl) ?_
  refine k_putF (C := RX1) (T := TX1) (N := 6) (ci := 2) (v := .int w9) (fs := [.ref pa, .null, .int u1, .int u2, .int u3, .int u4]) hC hG hi_RX1 tyX1_ok nmX1 k (k_sets hw) rfl 2 (by decide) (List.mem_of_getElem? (i := 6) rfl) rfl rfl hmn rfl rfl rfl (Nat.le_of_ble_eq_true rfl) dX1_init_16 (fun H locs hG => ?_)
  have hG : kG D A s ((ws.set k (h, .inr (2, [.ref pa, .null, .int u1, .int u2, .int u3, .int u4]))).set k (h, .inr (2, [.ref pa, .null, .int w9, .int u2, .int u3, .int u4]))) H locs := hG
  rw [List.set_set] at hG
  exact k_retv hC hr hG ⟨rfl, rfl⟩ (Nat.le_of_ble_eq_true rfl) (Nat.le_of_ble_eq_true rfl) dX1_init_19

set_option maxHeartbeats 4000000 in
set_option maxRecDepth 100000 in
/-- Item(..) -/
theorem K_X1_init_RR (l : Launch) (hfl : l.stackTraces = false) (D : va_G) (cI cJ cZ cO : ClassId) (z mi : Nat) (ws : va_W) (k h : Nat) (pa : Nat) (ra : Nat) (u1 u2 u3 u4 w9 : Int32) (hw : ws[k]? = some (h, .inr (2, [.null, .null, .int u1, .int u2, .int u3, .int u4]))) : kM l D (kTy cI cJ cZ cO) z mi yX1_init wsX1_init ({ frames := 1, cells := 0, slots := 0, locals := 20 } : Room) [.ref h, .ref pa, .ref ra, .int w9] (ws) (fun v u => v = none ∧ u = ws.set k (h, .inr (2, [.ref pa, .ref ra, .int w9, .int u2, .int u3, .int u4]))) (fun _ _ => False) := by
  refine kM.of hfl (cc := cX1_init) (maxL := 4) (ret := none) (by decide) rfl (Nat.le_of_ble_eq_true rfl) ?_
  intro p e s m args below meth c A ls hC hr hmn hG hl
  have hx := hC.x
  have hb := hC.b
  have hl : lv_has ls 4 [(0, .ref h), (1, .ref pa), (2, .ref ra), (3, .int w9)] := hl
  have hi_RX1 : ∀ w ∈ wsX10, w ∈ wsX1_init := fun w h => List.mem_cons_of_mem _ (List.mem_append_right _ h)
  refine lv_aload_n hx hb dX1_init_0 rfl (lv_at hl 0 rfl) ?_
  refine W.objInit hx hb hC.o (hC.t _ (List.mem_of_getElem? (i := 1) rfl)) (hC.t _ (List.mem_of_getElem? (i := 2) rfl)) (hC.t _ (List.mem_of_getElem? (i := 3) rfl)) rfl (hl.1.trans hC.nl.symm) rfl dX1_init_1 (Nat.le_of_ble_eq_true rfl) (Nat.le_of_ble_eq_true rfl) ?_
  refine W.eq (g2 := F0 m 4 ls []) rfl ?_
  refine lv_aload_n hx hb dX1_init_4 rfl (lv_at hl 0 rfl) ?_
  refine lv_aload_n hx hb dX1_init_5 rfl (lv_at hl 1 rfl) ?_
  refine k_putF (C := RX1) (T := TX1) (N := 6) (ci := 2) (v := .ref pa) (fs := [.null, .null, .int u1, .int u2, .int u3, .int u4]) hC hG hi_RX1 tyX1_ok nmX1 k hw rfl 0 (by decide) (List.mem_of_getElem? (i := 4) rfl) rfl rfl hmn rfl rfl rfl (Nat.le_of_ble_eq_true rfl) dX1_init_6 (fun H locs hG => ?_)
  have hG : kG D A s (ws.set k (h, .inr (2, [.ref pa, .null, .int u1, .int u2, .int u3, .int u4]))) H locs := hG
  refine lv_aload_n hx hb dX1_init_9 rfl (lv_at hl 0 rfl) ?_
  refine lv_aload_n hx hb dX1_init_10 rfl (lv_at hl 2 rfl) ?_
  refine k_putF (C := RX1) (T := TX1) (N := 6) (ci := 2) (v := .ref ra) (fs := [.ref pa, .null, .int u1, .int u2, .int u3, .int u4]) hC hG hi_RX1 tyX1_ok nmX1 k (k_sets hw) rfl 1 (by decide) (List.mem_of_getElem? (i := 5) rfl) rfl rfl hmn rfl rfl rfl (Nat.le_of_ble_eq_true rfl) dX1_init_11 (fun H locs hG => ?_)
  have hG : kG D A s ((ws.set k (h, .inr (2, [.ref pa, .null, .int u1, .int u2, .int u3, .int u4]))).set k (h, .inr (2, [.ref pa, .ref ra, .int u1, .int u2, .int u3, .int u4]))) H locs := hG
  rw [List.set_set] at hG
  refine lv_aload_n hx hb dX1_init_14 rfl (lv_at hl 0 rfl) ?_
  refine lv_iload_n hx hb dX1_init_15 rfl (lv_at hl 3 rfl) ?_
  refine k_putF (C := RX1) (T := TX1) (N := 6) (ci := 2) (v := .int w9) (fs := [.ref pa, .ref ra, .int u1, .int u2, .int u3, .int u4]) hC hG hi_RX1 tyX1_ok nmX1 k (k_sets hw) rfl 2 (by decide) (List.mem_of_getElem? (i := 6) rfl) rfl rfl hmn rfl rfl rfl (Nat.le_of_ble_eq_true rfl) dX1_init_16 (fun H locs hG => ?_)
  have hG : kG D A s ((ws.set k (h, .inr (2, [.ref pa, .ref ra, .int u1, .int u2, .int u3, .int u4]))).set k (h, .inr (2, [.ref pa, .ref ra, .int w9, .int u2, .int u3, .int u4]))) H locs := hG
  rw [List.set_set] at hG
  exact k_retv hC hr hG ⟨rfl, rfl⟩ (Nat.le_of_ble_eq_true rfl) (Nat.le_of_ble_eq_true rfl) dX1_init_19

theorem K_X1_init (l : Launch) (hfl : l.stackTraces = false) (D : va_G) (cI cJ cZ cO : ClassId) (z mi : Nat) (ws : va_W) (k h : Nat) (pa ra : Option Nat) (u1 u2 u3 u4 w9 : Int32) (hw : ws[k]? = some (h, .inr (2, [.null, .null, .int u1, .int u2, .int u3, .int u4]))) : kM l D (kTy cI cJ cZ cO) z mi yX1_init wsX1_init ({ frames := 1, cells := 0, slots := 0, locals := 20 } : Room) [.ref h, va_rf pa, va_rf ra, .int w9] ws (fun v u => v = none ∧ u = ws.set k (h, .inr (2, [va_rf pa, va_rf ra, .int w9, .int u2, .int u3, .int u4]))) (fun _ _ => False) := by
  cases pa with
  | none => cases ra with
    | none => exact K_X1_init_NN l hfl D cI cJ cZ cO z mi ws k h u1 u2 u3 u4 w9 hw
    | some ra => exact K_X1_init_NR l hfl D cI cJ cZ cO z mi ws k h ra u1 u2 u3 u4 w9 hw
  | some pa => cases ra with
    | none => exact K_X1_init_RN l hfl D cI cJ cZ cO z mi ws k h pa u1 u2 u3 u4 w9 hw
    | some ra => exact K_X1_init_RR l hfl D cI cJ cZ cO z mi ws k h pa ra u1 u2 u3 u4 w9 hw

set_option maxHeartbeats 4000000 in
set_option maxRecDepth 100000 in
/-- a list's maker -/
theorem K_Jxa1e45_init_da8c8 (l : Launch) (hfl : l.stackTraces = false) (D : va_G) (cI cJ cZ cO : ClassId) (z mi : Nat) (ws : va_W) (k h : Nat) (mc : Int32) (ed : Option Nat) (n9 : Int32) (hw : ws[k]? = some (h, .inr (0, [.int mc, va_rf ed, .int n9]))) : kM l D (kTy cI cJ cZ cO) z mi yJxa1e45_init_da8c8 wsJxa1e45_init_da8c8 ({ frames := 1, cells := 0, slots := 0, locals := 20 } : Room) [.ref h] (ws) (fun v u => v = none ∧ u = ws) (fun _ _ => False) := by
  refine kM.of hfl (cc := cJxa1e45_init_da8c8) (maxL := 1) (ret := none) (by decide) rfl (Nat.le_of_ble_eq_true rfl) ?_
  intro p e s m args below meth c A ls hC hr hmn hG hl
  have hx := hC.x
  have hb := hC.b
  have hl : lv_has ls 1 [(0, .ref h)] := hl
  refine lv_aload_n hx hb dJxa1e45_init_da8c8_0 rfl (lv_at hl 0 rfl) ?_
  refine W.objInit hx hb hC.o (hC.t _ (List.mem_of_getElem? (i := 1) rfl)) (hC.t _ (List.mem_of_getElem? (i := 2) rfl)) (hC.t _ (List.mem_of_getElem? (i := 3) rfl)) rfl (hl.1.trans hC.nl.symm) rfl dJxa1e45_init_da8c8_1 (Nat.le_of_ble_eq_true rfl) (Nat.le_of_ble_eq_true rfl) ?_
  refine W.eq (g2 := F0 m 4 ls []) rfl ?_
  exact k_retv hC hr hG ⟨rfl, rfl⟩ (Nat.le_of_ble_eq_true rfl) (Nat.le_of_ble_eq_true rfl) dJxa1e45_init_da8c8_4

set_option maxHeartbeats 4000000 in
set_option maxRecDepth 100000 in
/-- a list's maker -/
theorem K_Jxc12de_init_da8c8 (l : Launch) (hfl : l.stackTraces = false) (D : va_G) (cI cJ cZ cO : ClassId) (z mi : Nat) (ws : va_W) (k h : Nat) (mc : Int32) (ed : Option Nat) (n9 : Int32) (hw : ws[k]? = some (h, .inr (0, [.int mc, va_rf ed, .int n9]))) : kM l D (kTy cI cJ cZ cO) z mi yJxc12de_init_da8c8 wsJxc12de_init_da8c8 ({ frames := 2, cells := 0, slots := 0, locals := 40 } : Room) [.ref h] (ws) (fun v u => v = none ∧ u = ws.set k (h, .inr (0, [.int 0, va_rf ed, .int n9]))) (fun _ _ => False) := by
  refine kM.of hfl (cc := cJxc12de_init_da8c8) (maxL := 1) (ret := none) (by decide) rfl (Nat.le_of_ble_eq_true rfl) ?_
  intro p e s m args below meth c A ls hC hr hmn hG hl
  have hx := hC.x
  have hb := hC.b
  have hl : lv_has ls 1 [(0, .ref h)] := hl
  have hi_RJx4a65c : ∀ w ∈ wsJx4a65c0, w ∈ wsJxc12de_init_da8c8 := fun w h => List.mem_cons_of_mem _ (List.mem_append_right _ h)
  refine lv_aload_n hx hb dJxc12de_init_da8c8_0 rfl (lv_at hl 0 rfl) ?_
  refine k_callI (nn := 0) hC hG (K_Jxa1e45_init_da8c8 l hfl D cI cJ cZ cO z mi (ws) k h mc ed n9 hw) gJxc12de_init_da8c8_Jxa1e45_init_da8c8 (List.mem_of_getElem? (i := 2) rfl) (List.mem_of_getElem? (i := 3) rfl) (List.mem_of_getElem? (i := 4) rfl) rfl rfl (by decide +kernel) ⟨(Nat.le_of_ble_eq_true rfl), (Nat.le_of_ble_eq_true rfl)⟩ hl.1 rfl (Nat.le_of_ble_eq_true rfl) dJxc12de_init_da8c8_1 ⟨(Nat.le_of_ble_eq_true rfl), (Nat.le_of_ble_eq_true rfl)⟩ (fun _ _ _ _ _ _ hp => hp.elim) (fun v9 u9 H locs hp hG => ?_)
  obtain ⟨rfl, hu9⟩ := hp
  rw [hu9] at hG
  refine W.widen (k := 0) (n := 0) (Nat.le_of_ble_eq_true rfl) (Nat.le_of_ble_eq_true rfl) ?_
  refine W.eq (g2 := F0 m 4 ls []) rfl ?_
  refine lv_aload_n hx hb dJxc12de_init_da8c8_4 rfl (lv_at hl 0 rfl) ?_
  refine lv_iconst (v := 0) hx hb dJxc12de_init_da8c8_5 (by decide) ?_
  refine k_put (C := RJx4a65c) (T := TJx4a65c) (N := 3) (ci := 0) (v := .int 0) (fs := [.int mc, va_rf ed, .int n9]) hC hG hi_RJx4a65c tyJx4a65c_ok nmJx4a65c k hw rfl 0 (by decide) (List.mem_of_getElem? (i := 1) rfl) rfl rfl rfl rfl (Nat.le_of_ble_eq_true rfl) dJxc12de_init_da8c8_6 (fun H locs hG => ?_)
  have hG : kG D A s (ws.set k (h, .inr (0, [.int 0, va_rf ed, .int n9]))) H locs := hG
  exact k_retv hC hr hG ⟨rfl, rfl⟩ (Nat.le_of_ble_eq_true rfl) (Nat.le_of_ble_eq_true rfl) dJxc12de_init_da8c8_9

set_option maxHeartbeats 4000000 in
set_option maxRecDepth 100000 in
/-- a list's maker -/
theorem K_Jx4a65c_init_da8c8 (l : Launch) (hfl : l.stackTraces = false) (D : va_G) (cI cJ cZ cO : ClassId) (z mi : Nat) (ws : va_W) (k h : Nat) (mc : Int32) (ed : Option Nat) (n9 : Int32) (hw : ws[k]? = some (h, .inr (0, [.int mc, va_rf ed, .int n9]))) : kM l D (kTy cI cJ cZ cO) z mi yJx4a65c_init_da8c8 wsJx4a65c_init_da8c8 ({ frames := 3, cells := 0, slots := 0, locals := 60 } : Room) [.ref h] (ws) (fun v u => v = none ∧ u = ws.set k (h, .inr (0, [.int 0, .ref z, .int n9]))) (fun _ _ => False) := by
  refine kM.of hfl (cc := cJx4a65c_init_da8c8) (maxL := 1) (ret := none) (by decide) rfl (Nat.le_of_ble_eq_true rfl) ?_
  intro p e s m args below meth c A ls hC hr hmn hG hl
  have hx := hC.x
  have hb := hC.b
  have hl : lv_has ls 1 [(0, .ref h)] := hl
  have hi_RJx4a65c : ∀ w ∈ wsJx4a65c0, w ∈ wsJx4a65c_init_da8c8 := fun w h => List.mem_cons_of_mem _ (List.mem_append_right _ h)
  refine lv_aload_n hx hb dJx4a65c_init_da8c8_0 rfl (lv_at hl 0 rfl) ?_
  refine k_callI (nn := 0) hC hG (K_Jxc12de_init_da8c8 l hfl D cI cJ cZ cO z mi (ws) k h mc ed n9 hw) gJx4a65c_init_da8c8_Jxc12de_init_da8c8 (List.mem_of_getElem? (i := 3) rfl) (List.mem_of_getElem? (i := 4) rfl) (List.mem_of_getElem? (i := 5) rfl) rfl rfl (by decide +kernel) ⟨(Nat.le_of_ble_eq_true rfl), (Nat.le_of_ble_eq_true rfl)⟩ hl.1 rfl (Nat.le_of_ble_eq_true rfl) dJx4a65c_init_da8c8_1 ⟨(Nat.le_of_ble_eq_true rfl), (Nat.le_of_ble_eq_true rfl)⟩ (fun _ _ _ _ _ _ hp => hp.elim) (fun v9 u9 H locs hp hG => ?_)
  obtain ⟨rfl, hu9⟩ := hp
  rw [hu9] at hG
  refine W.widen (k := 0) (n := 0) (Nat.le_of_ble_eq_true rfl) (Nat.le_of_ble_eq_true rfl) ?_
  refine W.eq (g2 := F0 m 4 ls []) rfl ?_
  refine lv_aload_n hx hb dJx4a65c_init_da8c8_4 rfl (lv_at hl 0 rfl) ?_
  refine va_gets (C := RJx4a65c) (n := "DEFAULTCAPACITY_EMPTY_ELEMENTDATA") (d := "[Ljava/lang/Object;") (v := .ref z) (ref := "java/util/ArrayList") hx hb hC.Z.2.2.2.2.1 hG.2.2 hC.o (hC.t _ (List.mem_of_getElem? (i := 1) rfl)) (fun _ h9 => h9) dJx4a65c_init_da8c8_5 ?_
  refine k_put (C := RJx4a65c) (T := TJx4a65c) (N := 3) (ci := 0) (v := .ref z) (fs := [.int 0, va_rf ed, .int n9]) hC hG hi_RJx4a65c tyJx4a65c_ok nmJx4a65c k (k_sets hw) rfl 1 (by decide) (List.mem_of_getElem? (i := 2) rfl) rfl rfl rfl rfl (Nat.le_of_ble_eq_true rfl) dJx4a65c_init_da8c8_8 (fun H locs hG => ?_)
  have hG : kG D A s ((ws.set k (h, .inr (0, [.int 0, va_rf ed, .int n9]))).set k (h, .inr (0, [.int 0, .ref z, .int n9]))) H locs := hG
  rw [List.set_set] at hG
  exact k_retv hC hr hG ⟨rfl, rfl⟩ (Nat.le_of_ble_eq_true rfl) (Nat.le_of_ble_eq_true rfl) dJx4a65c_init_da8c8_11

