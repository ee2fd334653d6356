set_option maxHeartbeats 4000000 in
set_option maxRecDepth 100000 in
/-- ArrayList.size -/
theorem K_list_size (l : Launch) (hfl : l.stackTraces = false) (D : va_G) (cI cJ cZ cO : ClassId) (z mi : Nat) (ws : va_W) (k la : Nat) (mc : Int32) (ed n : Nat) (hw : ws[k]? = some (la, .inr (0, [.int mc, .ref ed, .int (nI n)]))) : kM l D (kTy cI cJ cZ cO) z mi yJx4a65c_size_8abf5 wsJx4a65c_size_8abf5 ({ frames := 0, cells := 0, slots := 0, locals := 0 } : Room) [.ref la] (ws) (fun v u => v = some (.int (nI n)) ∧ u = ws) (fun _ _ => False) := by
  refine kM.of hfl (cc := cJx4a65c_size_8abf5) (maxL := 1) (ret := (some .int)) (by decide) rfl (Nat.le_of_ble_eq_true rfl) ?_
  intro p e s m args below meth c A ls hC hr hmn hG hl
  have hx := hC.x
  have hb := hC.b
  have hl : lv_has ls 1 [(0, .ref la)] := hl
  have hi_RJx4a65c : ∀ w ∈ wsJx4a65c0, w ∈ wsJx4a65c_size_8abf5 := fun w h => List.mem_cons_of_mem _ (List.mem_append_right _ h)
  refine lv_aload_n hx hb dJx4a65c_size_8abf5_0 rfl (lv_at hl 0 rfl) ?_
  refine k_get (C := RJx4a65c) (T := TJx4a65c) (N := 3) (ci := 0) (v := .int (nI n)) (fs := [.int mc, .ref ed, .int (nI n)]) hC hG hi_RJx4a65c k hw rfl 2 (by decide) (List.mem_of_getElem? (i := 1) rfl) rfl rfl dJx4a65c_size_8abf5_1 ?_
  exact k_reti hC hr hG ⟨rfl, rfl⟩ (Nat.le_of_ble_eq_true rfl) (Nat.le_of_ble_eq_true rfl) dJx4a65c_size_8abf5_4

set_option maxHeartbeats 4000000 in
set_option maxRecDepth 100000 in
/-- checkIndex -/
theorem K_J3_checkIndex (l : Launch) (hfl : l.stackTraces = false) (D : va_G) (cI cJ cZ cO : ClassId) (z mi : Nat) (ws : va_W) (j n : Nat) (hj : j < n) (hn : n < 2 ^ 31) : kM l D (kTy cI cJ cZ cO) z mi yJ3_checkIndex_8e157 wsJ3_checkIndex_8e157 ({ frames := 0, cells := 0, slots := 0, locals := 0 } : Room) [.int (nI j), .int (nI n), .null] (ws) (fun v u => v = some (.int (nI j)) ∧ u = ws) (fun _ _ => False) := by
  refine kM.of hfl (cc := cJ3_checkIndex_8e157) (maxL := 3) (ret := (some .int)) (by decide) rfl (Nat.le_of_ble_eq_true rfl) ?_
  intro p e s m args below meth c A ls hC hr hmn hG hl
  have hx := hC.x
  have hb := hC.b
  have hl : lv_has ls 3 [(0, .int (nI j)), (1, .int (nI n)), (2, .null)] := hl
  refine lv_iload_n hx hb dJ3_checkIndex_8e157_0 rfl (lv_at hl 0 rfl) ?_
  refine k_if_lt (tgt := 9) hx hb dJ3_checkIndex_8e157_1 (by decide) (fun c_1 => absurd ((decide_eq_false (nI_pos (by omega))).symm.trans c_1) (by decide)) (fun c_1 => ?_)
  refine lv_iload_n hx hb dJ3_checkIndex_8e157_4 rfl (lv_at hl 0 rfl) ?_
  refine lv_iload_n hx hb dJ3_checkIndex_8e157_5 rfl (lv_at hl 1 rfl) ?_
  refine k_icmp_lt (tgt := 16) hx hb dJ3_checkIndex_8e157_6 (by decide) (fun c_2 => ?_) (fun c_2 => absurd ((decide_eq_true (nI_lt hj (by omega))).symm.trans c_2) (by decide))
  refine lv_iload_n hx hb dJ3_checkIndex_8e157_16 rfl (lv_at hl 0 rfl) ?_
  exact k_reti hC hr hG ⟨rfl, rfl⟩ (Nat.le_of_ble_eq_true rfl) (Nat.le_of_ble_eq_true rfl) dJ3_checkIndex_8e157_17

set_option maxHeartbeats 4000000 in
set_option maxRecDepth 100000 in
/-- Objects.checkIndex -/
theorem K_J15_checkIndex (l : Launch) (hfl : l.stackTraces = false) (D : va_G) (cI cJ cZ cO : ClassId) (z mi : Nat) (ws : va_W) (j n : Nat) (hj : j < n) (hn : n < 2 ^ 31) : kM l D (kTy cI cJ cZ cO) z mi yJ15_checkIndex_7cf53 wsJ15_checkIndex_7cf53 ({ frames := 1, cells := 0, slots := 0, locals := 22 } : Room) [.int (nI j), .int (nI n)] (ws) (fun v u => v = some (.int (nI j)) ∧ u = ws) (fun _ _ => False) := by
  refine kM.of hfl (cc := cJ15_checkIndex_7cf53) (maxL := 2) (ret := (some .int)) (by decide) rfl (Nat.le_of_ble_eq_true rfl) ?_
  intro p e s m args below meth c A ls hC hr hmn hG hl
  have hx := hC.x
  have hb := hC.b
  have hl : lv_has ls 2 [(0, .int (nI j)), (1, .int (nI n))] := hl
  refine lv_iload_n hx hb dJ15_checkIndex_7cf53_0 rfl (lv_at hl 0 rfl) ?_
  refine lv_iload_n hx hb dJ15_checkIndex_7cf53_1 rfl (lv_at hl 1 rfl) ?_
  refine k_aconst_null hx hb dJ15_checkIndex_7cf53_2 ?_
  refine k_callS (nn := 3) hC hG (K_J3_checkIndex l hfl D cI cJ cZ cO z mi (ws) j n hj (by omega)) gJ15_checkIndex_7cf53_J3_checkIndex_8e157 rfl rfl (by decide +kernel) ⟨(Nat.le_of_ble_eq_true rfl), (Nat.le_of_ble_eq_true rfl)⟩ hl.1 rfl (Nat.le_of_ble_eq_true rfl) dJ15_checkIndex_7cf53_3 ⟨(Nat.le_of_ble_eq_true rfl), (Nat.le_of_ble_eq_true rfl)⟩ (fun _ _ _ _ _ _ hp => hp.elim) (fun v9 u9 H locs hp hG => ?_)
  obtain ⟨rfl, hu9⟩ := hp
  rw [hu9] at hG
  refine W.widen (k := 0) (n := 0) (Nat.le_of_ble_eq_true rfl) (Nat.le_of_ble_eq_true rfl) ?_
  refine W.eq (g2 := F0 m 6 ls [.int (nI j)]) rfl ?_
  exact k_reti hC hr hG ⟨rfl, rfl⟩ (Nat.le_of_ble_eq_true rfl) (Nat.le_of_ble_eq_true rfl) dJ15_checkIndex_7cf53_6

set_option maxHeartbeats 4000000 in
set_option maxRecDepth 100000 in
/-- ArrayList.elementData -/
theorem K_list_elementData (l : Launch) (hfl : l.stackTraces = false) (D : va_G) (cI cJ cZ cO : ClassId) (z mi : Nat) (ws : va_W) (k ke la : Nat) (mc : Int32) (ed n len : Nat) (g : Nat → Option Nat) (j : Nat) (hj : j < n) (hn : n ≤ len) (hlen : len < 2 ^ 31) (hw : ws[k]? = some (la, .inr (0, [.int mc, .ref ed, .int (nI n)]))) (hw2 : ws[ke]? = some (ed, .inl (cO, len, .inr (.inr (.inr (.inr g)))))) : kM l D (kTy cI cJ cZ cO) z mi yJx4a65c_elementData_915e3 wsJx4a65c_elementData_915e3 ({ frames := 0, cells := 0, slots := 0, locals := 0 } : Room) [.ref la, .int (nI j)] (ws) (fun v u => v = some (va_rf (g j)) ∧ u = ws) (fun _ _ => False) := by
  refine kM.of hfl (cc := cJx4a65c_elementData_915e3) (maxL := 2) (ret := (some (.object "java/lang/Object"))) (by decide) rfl (Nat.le_of_ble_eq_true rfl) ?_
  intro p e s m args below meth c A ls hC hr hmn hG hl
  have hx := hC.x
  have hb := hC.b
  have hl : lv_has ls 2 [(0, .ref la), (1, .int (nI j))] := hl
  have hi_RJx4a65c : ∀ w ∈ wsJx4a65c0, w ∈ wsJx4a65c_elementData_915e3 := fun w h => List.mem_cons_of_mem _ (List.mem_append_right _ h)
  refine lv_aload_n hx hb dJx4a65c_elementData_915e3_0 rfl (lv_at hl 0 rfl) ?_
  refine k_get (C := RJx4a65c) (T := TJx4a65c) (N := 3) (ci := 0) (v := .ref ed) (fs := [.int mc, .ref ed, .int (nI n)]) hC hG hi_RJx4a65c k hw rfl 1 (by decide) (List.mem_of_getElem? (i := 1) rfl) rfl rfl dJx4a65c_elementData_915e3_1 ?_
  refine lv_iload_n hx hb dJx4a65c_elementData_915e3_4 rfl (lv_at hl 1 rfl) ?_
  refine va_aldq (f := g) hx hb hC.K hG.1 ke 3 hw2 rfl (vp_in_nI (by omega) (by omega)) dJx4a65c_elementData_915e3_5 ?_
  refine k_topq (y := g j) (congrArg g (nI_clamp (by omega))) ?_
  exact k_reta hC hr (Or.inl ⟨_, rfl⟩) hG (v := (g j)) ⟨rfl, rfl⟩ (Nat.le_of_ble_eq_true rfl) (Nat.le_of_ble_eq_true rfl) dJx4a65c_elementData_915e3_6

set_option maxHeartbeats 4000000 in
set_option maxRecDepth 100000 in
/-- ArrayList.get -/
theorem K_list_get (l : Launch) (hfl : l.stackTraces = false) (D : va_G) (cI cJ cZ cO : ClassId) (z mi : Nat) (ws : va_W) (k ke la : Nat) (mc : Int32) (ed n len : Nat) (g : Nat → Option Nat) (j : Nat) (hj : j < n) (hn : n ≤ len) (hlen : len < 2 ^ 31) (hw : ws[k]? = some (la, .inr (0, [.int mc, .ref ed, .int (nI n)]))) (hw2 : ws[ke]? = some (ed, .inl (cO, len, .inr (.inr (.inr (.inr g)))))) : kM l D (kTy cI cJ cZ cO) z mi yJx4a65c_get_915e3 wsJx4a65c_get_915e3 ({ frames := 2, cells := 0, slots := 0, locals := 43 } : Room) [.ref la, .int (nI j)] (ws) (fun v u => v = some (va_rf (g j)) ∧ u = ws) (fun _ _ => False) := by
  refine kM.of hfl (cc := cJx4a65c_get_915e3) (maxL := 2) (ret := (some (.object "java/lang/Object"))) (by decide) rfl (Nat.le_of_ble_eq_true rfl) ?_
  intro p e s m args below meth c A ls hC hr hmn hG hl
  have hx := hC.x
  have hb := hC.b
  have hl : lv_has ls 2 [(0, .ref la), (1, .int (nI j))] := hl
  have hi_RJx4a65c : ∀ w ∈ wsJx4a65c0, w ∈ wsJx4a65c_get_915e3 := fun w h => List.mem_cons_of_mem _ (List.mem_append_right _ h)
  refine lv_iload_n hx hb dJx4a65c_get_915e3_0 rfl (lv_at hl 1 rfl) ?_
  refine lv_aload_n hx hb dJx4a65c_get_915e3_1 rfl (lv_at hl 0 rfl) ?_
  refine k_get (C := RJx4a65c) (T := TJx4a65c) (N := 3) (ci := 0) (v := .int (nI n)) (fs := [.int mc, .ref ed, .int (nI n)]) hC hG hi_RJx4a65c k hw rfl 2 (by decide) (List.mem_of_getElem? (i := 1) rfl) rfl rfl dJx4a65c_get_915e3_2 ?_
  refine k_callS (nn := 2) hC hG (K_J15_checkIndex l hfl D cI cJ cZ cO z mi (ws) j n hj (by omega)) gJx4a65c_get_915e3_J15_checkIndex_7cf53 rfl rfl (by decide +kernel) ⟨(Nat.le_of_ble_eq_true rfl), (Nat.le_of_ble_eq_true rfl)⟩ hl.1 rfl (Nat.le_of_ble_eq_true rfl) dJx4a65c_get_915e3_5 ⟨(Nat.le_of_ble_eq_true rfl), (Nat.le_of_ble_eq_true rfl)⟩ (fun _ _ _ _ _ _ hp => hp.elim) (fun v9 u9 H locs hp hG => ?_)
  obtain ⟨rfl, hu9⟩ := hp
  rw [hu9] at hG
  refine W.widen (k := 0) (n := 0) (Nat.le_of_ble_eq_true rfl) (Nat.le_of_ble_eq_true rfl) ?_
  refine W.eq (g2 := F0 m 8 ls [.int (nI j)]) rfl ?_
  refine lv_pop hx hb dJx4a65c_get_915e3_8 rfl ?_
  refine lv_aload_n hx hb dJx4a65c_get_915e3_9 rfl (lv_at hl 0 rfl) ?_
  refine lv_iload_n hx hb dJx4a65c_get_915e3_10 rfl (lv_at hl 1 rfl) ?_
  refine k_callV (nn := 1) (C := RJx4a65c) hC hG k hw (ci := 0) rfl (K_list_elementData l hfl D cI cJ cZ cO z mi (ws) k ke la mc ed n len g j hj (by omega) (by omega) hw hw2) gJx4a65c_get_915e3_Jx4a65c_elementData_915e3 rfl rfl (by decide +kernel) ⟨(Nat.le_of_ble_eq_true rfl), (Nat.le_of_ble_eq_true rfl)⟩ hl.1 rfl (Nat.le_of_ble_eq_true rfl) dJx4a65c_get_915e3_11 ⟨(Nat.le_of_ble_eq_true rfl), (Nat.le_of_ble_eq_true rfl)⟩ (fun _ _ _ _ _ _ hp => hp.elim) (fun v9 u9 H locs hp hG => ?_)
  obtain ⟨rfl, hu9⟩ := hp
  rw [hu9] at hG
  refine W.widen (k := 0) (n := 0) (Nat.le_of_ble_eq_true rfl) (Nat.le_of_ble_eq_true rfl) ?_
  refine W.eq (g2 := F0 m 14 ls [va_rf (g j)]) rfl ?_
  exact k_reta hC hr (Or.inl ⟨_, rfl⟩) hG (v := (g j)) ⟨rfl, rfl⟩ (Nat.le_of_ble_eq_true rfl) (Nat.le_of_ble_eq_true rfl) dJx4a65c_get_915e3_14

