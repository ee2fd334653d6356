theorem k_sub1 (n : Nat) : nI (n + 1) - nI n = nI 1 := by
  rw [pk_sub (by omega), Nat.add_sub_cancel_left]

set_option maxHeartbeats 4000000 in
set_option maxRecDepth 100000 in
/-- newLength -/
theorem K_J8_newLength (l : Launch) (hfl : l.stackTraces = false) (D : va_G) (cI cJ cZ cO : ClassId) (z mi : Nat) (ws : va_W) (n : Nat) (h2 : 2 ≤ n) (hn : n ≤ 40) : kM l D (kTy cI cJ cZ cO) z mi yJ8_newLength_cabcc wsJ8_newLength_cabcc ({ frames := 1, cells := 0, slots := 0, locals := 30 } : Room) [.int (nI n), .int (nI 1), .int (nI (n / 2))] (ws) (fun v u => v = some (.int (nI (n + n / 2))) ∧ u = ws) (fun _ _ => False) := by
  refine kM.of hfl (cc := cJ8_newLength_cabcc) (maxL := 4) (ret := (some .int)) (by decide) rfl (Nat.le_of_ble_eq_true rfl) ?_
  intro p e s m args below meth c A ls hC hr hmn hG hl
  have hx := hC.x
  have hb := hC.b
  have hl : lv_has ls 4 [(0, .int (nI n)), (1, .int (nI 1)), (2, .int (nI (n / 2)))] := hl
  refine lv_iload_n hx hb dJ8_newLength_cabcc_0 rfl (lv_at hl 0 rfl) ?_
  refine lv_iload_n hx hb dJ8_newLength_cabcc_1 rfl (lv_at hl 1 rfl) ?_
  refine lv_iload_n hx hb dJ8_newLength_cabcc_2 rfl (lv_at hl 2 rfl) ?_
  refine va_mmax hx hb (hC.nl.trans hl.1.symm) hC.o (hC.t _ (List.mem_of_getElem? (i := 1) rfl)) (hC.t _ (List.mem_of_getElem? (i := 2) rfl)) (hC.t _ (List.mem_of_getElem? (i := 3) rfl)) (hC.t _ (List.mem_of_getElem? (i := 4) rfl)) (Nat.le_of_ble_eq_true rfl) (Nat.le_of_ble_eq_true rfl) (Nat.le_of_ble_eq_true rfl) (Nat.le_of_ble_eq_true rfl) dJ8_newLength_cabcc_3 ?_
  refine k_topi (y := nI (n / 2)) (k_grow h2 hn) ?_
  refine lv_iadd hx hb dJ8_newLength_cabcc_6 ?_
  refine k_topi (y := nI (n + n / 2)) (nI_add _ _) ?_
  refine lv_istore_n (lv' := [(3, .int (nI (n + n / 2))), (0, .int (nI n)), (1, .int (nI 1)), (2, .int (nI (n / 2)))]) hx hb dJ8_newLength_cabcc_7 rfl hl (by decide) rfl (fun ls hl => ?_)
  refine lv_iconst (v := 0) hx hb dJ8_newLength_cabcc_8 (by decide) ?_
  refine lv_iload_n hx hb dJ8_newLength_cabcc_9 rfl (lv_at hl 0 rfl) ?_
  refine k_icmp_ge (tgt := 21) hx hb dJ8_newLength_cabcc_10 (by decide) (fun c_1 => absurd ((decide_eq_false (by rw [Int32.le_iff_toInt_le, nI_toInt (by omega), Int32.toInt_zero]; omega)).symm.trans c_1) (by decide)) (fun c_1 => ?_)
  refine lv_iload_n hx hb dJ8_newLength_cabcc_13 rfl (lv_at hl 0 rfl) ?_
  refine lv_ldc (v := 2147483639) hx hb hC.o (hC.t _ (List.mem_of_getElem? (i := 5) rfl)) dJ8_newLength_cabcc_14 ?_
  refine k_icmp_gt (tgt := 21) hx hb dJ8_newLength_cabcc_16 (by decide) (fun c_2 => absurd ((decide_eq_false (by rw [show (2147483639 : Int32) = nI 2147483639 from rfl]; exact nI_nlt (by omega) (by omega))).symm.trans c_2) (by decide)) (fun c_2 => ?_)
  refine lv_iload_n hx hb dJ8_newLength_cabcc_19 rfl (lv_at hl 0 rfl) ?_
  exact k_reti hC hr hG ⟨rfl, rfl⟩ (Nat.le_of_ble_eq_true rfl) (Nat.le_of_ble_eq_true rfl) dJ8_newLength_cabcc_20

/-- what the first n are: objects of the world's own, of one class -/
def kHE (ws : va_W) (n ci : Nat) (g : Nat → Option Nat) : Prop := ∀ i, i < n → ∀ y, g i = some y → ∃ (q : Nat) (fs : List Value), ws[q]? = some (y, (.inr (ci, fs) : va_E))

set_option maxHeartbeats 4000000 in
set_option maxRecDepth 100000 in
/-- copyOf -/
theorem K_J7_copyOf3 (l : Launch) (hfl : l.stackTraces = false) (D : va_G) (cI cJ cZ cO : ClassId) (z mi : Nat) (ws : va_W) (ke ed n : Nat) (g : Nat → Option Nat) (n1 : Nat) (ci N9 : Nat) (C : String) (T9 : u_T) (hci : vwCl[ci]? = some (C, T9, N9)) (hcast : Cond.castable C "java/lang/Object" ∈ kBad) (hn : n ≤ n1) (hn1 : n1 ≤ 60) (hw2 : ws[ke]? = some (ed, kOA cO n g)) (hE : kHE ws n ci g) : kM l D (kTy cI cJ cZ cO) z mi yJ7_copyOf_6403c wsJ7_copyOf_6403c ({ frames := 1, cells := 1, slots := 60, locals := 40 } : Room) [.ref ed, .int (nI n1), .ref mi] (ws) (fun v u => ∃ q, v = some (.ref q) ∧ u = ws ++ [(q, kOA cO n1 (va_cpy g (fun _ => none) 0 0 n))]) (fun _ _ => False) := by
  refine kM.of hfl (cc := cJ7_copyOf_6403c) (maxL := 4) (ret := (some (.array (.object "java/lang/Object")))) (by decide) rfl (Nat.le_of_ble_eq_true rfl) ?_
  intro p e s m args below meth c A ls hC hr hmn hG hl
  have hx := hC.x
  have hb := hC.b
  have hl : lv_has ls 4 [(0, .ref ed), (1, .int (nI n1)), (2, .ref mi)] := hl
  refine lv_aload_n hx hb dJ7_copyOf_6403c_0 rfl (lv_at hl 2 rfl) ?_
  refine va_ldcM hx hb hC.o (hC.t _ (List.mem_of_getElem? (i := 1) rfl)) hC.Z.2.1.2.2.1 dJ7_copyOf_6403c_1 ?_
  refine k_acmp_ne (rx := some mi) (ry := some mi) (tgt := 13) hx hb dJ7_copyOf_6403c_3 (by decide) (fun c_1 => absurd ((decide_eq_true rfl).symm.trans c_1) (by decide)) (fun c_1 => ?_)
  refine lv_iload_n hx hb dJ7_copyOf_6403c_6 rfl (lv_at hl 1 rfl) ?_
  refine k_newq hC hG (List.mem_of_getElem? (i := 2) rfl) n1 (nI_pos (by omega)) (nI_clamp (by omega)) (by omega) (Nat.le_of_ble_eq_true rfl) (by show 0 + n1 ≤ 60; omega) dJ7_copyOf_6403c_7 (fun qn H hG => ?_)
  refine W.widen (k := 1) (n := 60) (Nat.le_of_ble_eq_true rfl) (by omega) ?_
  refine lv_goto (tgt := 24) hx hb dJ7_copyOf_6403c_10 (by decide) ?_
  refine lv_astore_n (lv' := [(3, .ref qn), (0, .ref ed), (1, .int (nI n1)), (2, .ref mi)]) hx hb dJ7_copyOf_6403c_24 rfl hl (by decide) rfl (fun ls hl => ?_)
  refine lv_aload_n hx hb dJ7_copyOf_6403c_25 rfl (lv_at hl 1 rfl) ?_
  refine lv_iconst (v := 0) hx hb dJ7_copyOf_6403c_26 (by decide) ?_
  refine lv_aload_n hx hb dJ7_copyOf_6403c_27 rfl (lv_at hl 0 rfl) ?_
  refine lv_iconst (v := 0) hx hb dJ7_copyOf_6403c_28 (by decide) ?_
  refine lv_aload_n hx hb dJ7_copyOf_6403c_29 rfl (lv_at hl 1 rfl) ?_
  refine va_alen (v := nI n) hx hb hC.K hG.1 ke 3 (k_fst hw2) rfl rfl dJ7_copyOf_6403c_30 ?_
  refine k_topi (y := nI n) rfl ?_
  refine lv_iload_n hx hb dJ7_copyOf_6403c_31 rfl (lv_at hl 2 rfl) ?_
  refine va_mmin hx hb (hC.nl.trans hl.1.symm) hC.o (hC.t _ (List.mem_of_getElem? (i := 3) rfl)) (hC.t _ (List.mem_of_getElem? (i := 4) rfl)) (hC.t _ (List.mem_of_getElem? (i := 5) rfl)) (hC.t _ (List.mem_of_getElem? (i := 6) rfl)) (Nat.le_of_ble_eq_true rfl) (Nat.le_of_ble_eq_true rfl) (Nat.le_of_ble_eq_true rfl) (Nat.le_of_ble_eq_true rfl) dJ7_copyOf_6403c_32 ?_
  refine k_topi (y := nI n) (if_neg (nI_nlt (by omega) (by omega))) ?_
  refine k_copyq hC hG hl.1 (List.mem_of_getElem? (i := 7) rfl) (List.mem_of_getElem? (i := 8) rfl) (List.mem_of_getElem? (i := 9) rfl) (List.mem_of_getElem? (i := 10) rfl) ke ws.length (C := C) (k_fst hw2) (k_last _ _) hcast (Nat.le_refl _) hn (by omega) (fun i hi y hy => ?_) (Nat.le_of_ble_eq_true rfl) (Nat.le_of_ble_eq_true rfl) dJ7_copyOf_6403c_35 (fun H locs hG => ?_)
  · obtain ⟨p9, fs9, h9⟩ := hE i hi y hy; exact va_recv hC.K hG.1 hci (k_fst h9)
  rw [k_setlast] at hG
  refine lv_aload_n hx hb dJ7_copyOf_6403c_38 rfl (lv_at hl 0 rfl) ?_
  exact k_reta hC hr (Or.inr ⟨_, rfl⟩) hG (v := (some qn)) ⟨_, rfl, rfl⟩ (Nat.le_of_ble_eq_true rfl) (Nat.le_of_ble_eq_true rfl) dJ7_copyOf_6403c_39

set_option maxHeartbeats 4000000 in
set_option maxRecDepth 100000 in
/-- copyOf -/
theorem K_J7_copyOf (l : Launch) (hfl : l.stackTraces = false) (D : va_G) (cI cJ cZ cO : ClassId) (z mi : Nat) (ws : va_W) (ke ed n : Nat) (g : Nat → Option Nat) (n1 : Nat) (ci N9 : Nat) (C : String) (T9 : u_T) (hci : vwCl[ci]? = some (C, T9, N9)) (hcast : Cond.castable C "java/lang/Object" ∈ kBad) (hn : n ≤ n1) (hn1 : n1 ≤ 60) (hw2 : ws[ke]? = some (ed, kOA cO n g)) (hE : kHE ws n ci g) : kM l D (kTy cI cJ cZ cO) z mi yJ7_copyOf_1904c wsJ7_copyOf_1904c ({ frames := 2, cells := 1, slots := 60, locals := 90 } : Room) [.ref ed, .int (nI n1)] (ws) (fun v u => ∃ q, v = some (.ref q) ∧ u = ws ++ [(q, kOA cO n1 (va_cpy g (fun _ => none) 0 0 n))]) (fun _ _ => False) := by
  refine kM.of hfl (cc := cJ7_copyOf_1904c) (maxL := 2) (ret := (some (.array (.object "java/lang/Object")))) (by decide) rfl (Nat.le_of_ble_eq_true rfl) ?_
  intro p e s m args below meth c A ls hC hr hmn hG hl
  have hx := hC.x
  have hb := hC.b
  have hl : lv_has ls 2 [(0, .ref ed), (1, .int (nI n1))] := hl
  refine lv_aload_n hx hb dJ7_copyOf_1904c_0 rfl (lv_at hl 0 rfl) ?_
  refine lv_iload_n hx hb dJ7_copyOf_1904c_1 rfl (lv_at hl 1 rfl) ?_
  refine lv_aload_n hx hb dJ7_copyOf_1904c_2 rfl (lv_at hl 0 rfl) ?_
  refine k_getC hC hG hl.1 (List.mem_of_getElem? (i := 1) rfl) (List.mem_of_getElem? (i := 2) rfl) (List.mem_of_getElem? (i := 3) rfl) (List.mem_of_getElem? (i := 4) rfl) hw2 (Nat.le_of_ble_eq_true rfl) (Nat.le_of_ble_eq_true rfl) dJ7_copyOf_1904c_3 ?_
  refine k_callS (nn := 3) hC hG (K_J7_copyOf3 l hfl D cI cJ cZ cO z mi (ws) ke ed n g n1 ci N9 C T9 hci hcast (by omega) (by omega) hw2 hE) gJ7_copyOf_1904c_J7_copyOf_6403c rfl rfl (by decide +kernel) ⟨(Nat.le_of_ble_eq_true rfl), (Nat.le_of_ble_eq_true rfl)⟩ hl.1 rfl (Nat.le_of_ble_eq_true rfl) dJ7_copyOf_1904c_6 ⟨(Nat.le_of_ble_eq_true rfl), (Nat.le_of_ble_eq_true rfl)⟩ (fun _ _ _ _ _ _ hp => hp.elim) (fun v9 u9 H locs hp hG => ?_)
  obtain ⟨qa, rfl, hu9⟩ := hp
  rw [hu9] at hG
  refine W.widen (k := 1) (n := 60) (Nat.le_of_ble_eq_true rfl) (Nat.le_of_ble_eq_true rfl) ?_
  refine W.eq (g2 := F0 m 9 ls [.ref qa]) rfl ?_
  exact k_reta hC hr (Or.inr ⟨_, rfl⟩) hG (v := (some qa)) ⟨_, rfl, rfl⟩ (Nat.le_of_ble_eq_true rfl) (Nat.le_of_ble_eq_true rfl) dJ7_copyOf_1904c_9

set_option maxHeartbeats 4000000 in
set_option maxRecDepth 100000 in
/-- grow, of an array that is full -/
theorem K_grow_G (l : Launch) (hfl : l.stackTraces = false) (D : va_G) (cI cJ cZ cO : ClassId) (z mi : Nat) (ws : va_W) (k ke la : Nat) (mc : Int32) (ed n : Nat) (g : Nat → Option Nat) (ci N9 : Nat) (C : String) (T9 : u_T) (hci : vwCl[ci]? = some (C, T9, N9)) (hcast : Cond.castable C "java/lang/Object" ∈ kBad) (h2 : 2 ≤ n) (h26 : n ≤ 26) (hw : ws[k]? = some (la, .inr (0, [.int mc, .ref ed, .int (nI n)]))) (hw2 : ws[ke]? = some (ed, kOA cO n g)) (hE : kHE ws n ci g) : kM l D (kTy cI cJ cZ cO) z mi yJx4a65c_grow_92f84 wsJx4a65c_grow_92f84 ({ frames := 3, cells := 1, slots := 60, locals := 130 } : Room) [.ref la, .int (nI (n + 1))] (ws) (fun v u => ∃ q, v = some (.ref q) ∧ u = (ws ++ [(q, kOA cO (n + n / 2) (va_cpy g (fun _ => none) 0 0 n))]).set k (la, .inr (0, [.int mc, .ref q, .int (nI n)]))) (fun _ _ => False) := by
  refine kM.of hfl (cc := cJx4a65c_grow_92f84) (maxL := 4) (ret := (some (.array (.object "java/lang/Object")))) (by decide) rfl (Nat.le_of_ble_eq_true rfl) ?_
  intro p e s m args below meth c A ls hC hr hmn hG hl
  have hx := hC.x
  have hb := hC.b
  have hl : lv_has ls 4 [(0, .ref la), (1, .int (nI (n + 1)))] := hl
  have hi_RJx4a65c : ∀ w ∈ wsJx4a65c0, w ∈ wsJx4a65c_grow_92f84 := fun w h => List.mem_cons_of_mem _ (List.mem_append_right _ h)
  refine lv_aload_n hx hb dJx4a65c_grow_92f84_0 rfl (lv_at hl 0 rfl) ?_
  refine k_get (C := RJx4a65c) (T := TJx4a65c) (N := 3) (ci := 0) (v := .ref ed) (fs := [.int mc, .ref ed, .int (nI n)]) hC hG hi_RJx4a65c k hw rfl 1 (by decide) (List.mem_of_getElem? (i := 1) rfl) rfl rfl dJx4a65c_grow_92f84_1 ?_
  refine va_alen (v := nI n) hx hb hC.K hG.1 ke 3 hw2 rfl rfl dJx4a65c_grow_92f84_4 ?_
  refine lv_istore_n (lv' := [(2, .int (nI n)), (0, .ref la), (1, .int (nI (n + 1)))]) hx hb dJx4a65c_grow_92f84_5 rfl hl (by decide) rfl (fun ls hl => ?_)
  refine lv_iload_n hx hb dJx4a65c_grow_92f84_6 rfl (lv_at hl 0 rfl) ?_
  refine k_if_gt (tgt := 20) hx hb dJx4a65c_grow_92f84_7 (by decide) (fun c_1 => ?_) (fun c_1 => absurd ((decide_eq_true (nI_lt (a := 0) (by omega) (by omega))).symm.trans c_1) (by decide))
  refine lv_iload_n hx hb dJx4a65c_grow_92f84_20 rfl (lv_at hl 0 rfl) ?_
  refine lv_iload_n hx hb dJx4a65c_grow_92f84_21 rfl (lv_at hl 2 rfl) ?_
  refine lv_iload_n hx hb dJx4a65c_grow_92f84_22 rfl (lv_at hl 0 rfl) ?_
  refine lv_isub hx hb dJx4a65c_grow_92f84_23 ?_
  refine k_topi (y := nI 1) (k_sub1 n) ?_
  refine lv_iload_n hx hb dJx4a65c_grow_92f84_24 rfl (lv_at hl 0 rfl) ?_
  refine lv_iconst (v := 1) hx hb dJx4a65c_grow_92f84_25 (by decide) ?_
  refine lv_ishr hx hb dJx4a65c_grow_92f84_26 ?_
  refine k_topi (y := nI (n / 2)) (k_ishr1 (by omega)) ?_
  refine k_callS (nn := 3) hC hG (K_J8_newLength l hfl D cI cJ cZ cO z mi (ws) n h2 (by omega)) gJx4a65c_grow_92f84_J8_newLength_cabcc rfl rfl (by decide +kernel) ⟨(Nat.le_of_ble_eq_true rfl), (Nat.le_of_ble_eq_true rfl)⟩ hl.1 rfl (Nat.le_of_ble_eq_true rfl) dJx4a65c_grow_92f84_27 ⟨(Nat.le_of_ble_eq_true rfl), (Nat.le_of_ble_eq_true rfl)⟩ (fun _ _ _ _ _ _ hp => hp.elim) (fun v9 u9 H locs hp hG => ?_)
  obtain ⟨rfl, hu9⟩ := hp
  rw [hu9] at hG
  refine W.widen (k := 0) (n := 0) (Nat.le_of_ble_eq_true rfl) (Nat.le_of_ble_eq_true rfl) ?_
  refine W.eq (g2 := F0 m 30 ls [.int (nI (n + n / 2))]) rfl ?_
  refine lv_istore_n (lv' := [(3, .int (nI (n + n / 2))), (2, .int (nI n)), (0, .ref la), (1, .int (nI (n + 1)))]) hx hb dJx4a65c_grow_92f84_30 rfl hl (by decide) rfl (fun ls hl => ?_)
  refine lv_aload_n hx hb dJx4a65c_grow_92f84_31 rfl (lv_at hl 2 rfl) ?_
  refine lv_aload_n hx hb dJx4a65c_grow_92f84_32 rfl (lv_at hl 2 rfl) ?_
  refine k_get (C := RJx4a65c) (T := TJx4a65c) (N := 3) (ci := 0) (v := .ref ed) (fs := [.int mc, .ref ed, .int (nI n)]) hC hG hi_RJx4a65c k hw rfl 1 (by decide) (List.mem_of_getElem? (i := 1) rfl) rfl rfl dJx4a65c_grow_92f84_33 ?_
  refine lv_iload_n hx hb dJx4a65c_grow_92f84_36 rfl (lv_at hl 0 rfl) ?_
  refine k_callS (nn := 2) hC hG (K_J7_copyOf l hfl D cI cJ cZ cO z mi (ws) ke ed n g (n + n / 2) ci N9 C T9 hci hcast (by omega) (by omega) hw2 hE) gJx4a65c_grow_92f84_J7_copyOf_1904c rfl rfl (by decide +kernel) ⟨(Nat.le_of_ble_eq_true rfl), (Nat.le_of_ble_eq_true rfl)⟩ hl.1 rfl (Nat.le_of_ble_eq_true rfl) dJx4a65c_grow_92f84_37 ⟨(Nat.le_of_ble_eq_true rfl), (Nat.le_of_ble_eq_true rfl)⟩ (fun _ _ _ _ _ _ hp => hp.elim) (fun v9 u9 H locs hp hG => ?_)
  obtain ⟨qa, rfl, hu9⟩ := hp
  rw [hu9] at hG
  refine W.widen (k := 1) (n := 60) (Nat.le_of_ble_eq_true rfl) (Nat.le_of_ble_eq_true rfl) ?_
  refine W.eq (g2 := F0 m 40 ls [.ref qa, .ref la]) rfl ?_
  refine lv_dup_x1 hx hb dJx4a65c_grow_92f84_40 rfl rfl ?_
  refine k_put (C := RJx4a65c) (T := TJx4a65c) (N := 3) (ci := 0) (v := .ref qa) (fs := [.int mc, .ref ed, .int (nI n)]) hC hG hi_RJx4a65c tyJx4a65c_ok nmJx4a65c k (k_fst hw) rfl 1 (by decide) (List.mem_of_getElem? (i := 1) rfl) rfl rfl rfl rfl (Nat.le_of_ble_eq_true rfl) dJx4a65c_grow_92f84_41 (fun H locs hG => ?_)
  have hG : kG D A s ((ws ++ [(qa, kOA cO (n + n / 2) (va_cpy g (fun _ => none) 0 0 n))]).set k (la, .inr (0, [.int mc, .ref qa, .int (nI n)]))) H locs := hG
  exact k_reta hC hr (Or.inr ⟨_, rfl⟩) hG (v := (some qa)) ⟨_, rfl, rfl⟩ (Nat.le_of_ble_eq_true rfl) (Nat.le_of_ble_eq_true rfl) dJx4a65c_grow_92f84_44

set_option maxHeartbeats 4000000 in
set_option maxRecDepth 100000 in
/-- grow, the first time -/
theorem K_grow_Z (l : Launch) (hfl : l.stackTraces = false) (D : va_G) (cI cJ cZ cO : ClassId) (z mi : Nat) (ws : va_W) (k la : Nat) (mc : Int32) (hw : ws[k]? = some (la, .inr (0, [.int mc, .ref z, .int (nI 0)]))) : kM l D (kTy cI cJ cZ cO) z mi yJx4a65c_grow_92f84 wsJx4a65c_grow_92f84 ({ frames := 3, cells := 1, slots := 60, locals := 130 } : Room) [.ref la, .int (nI 1)] (ws) (fun v u => ∃ q, v = some (.ref q) ∧ u = (ws ++ [(q, kOA cO 10 (fun _ => none))]).set k (la, .inr (0, [.int mc, .ref q, .int (nI 0)]))) (fun _ _ => False) := by
  refine kM.of hfl (cc := cJx4a65c_grow_92f84) (maxL := 4) (ret := (some (.array (.object "java/lang/Object")))) (by decide) rfl (Nat.le_of_ble_eq_true rfl) ?_
  intro p e s m args below meth c A ls hC hr hmn hG hl
  have hx := hC.x
  have hb := hC.b
  have hl : lv_has ls 4 [(0, .ref la), (1, .int (nI 1))] := hl
  have hi_RJx4a65c : ∀ w ∈ wsJx4a65c0, w ∈ wsJx4a65c_grow_92f84 := fun w h => List.mem_cons_of_mem _ (List.mem_append_right _ h)
  refine lv_aload_n hx hb dJx4a65c_grow_92f84_0 rfl (lv_at hl 0 rfl) ?_
  refine k_get (C := RJx4a65c) (T := TJx4a65c) (N := 3) (ci := 0) (v := .ref z) (fs := [.int mc, .ref z, .int (nI 0)]) hC hG hi_RJx4a65c k hw rfl 1 (by decide) (List.mem_of_getElem? (i := 1) rfl) rfl rfl dJx4a65c_grow_92f84_1 ?_
  refine va_tlen (v := 0) hx hb hC.Z.2.2.2.2.2 hG.2.2 rfl dJx4a65c_grow_92f84_4 ?_
  refine lv_istore_n (lv' := [(2, .int 0), (0, .ref la), (1, .int (nI 1))]) hx hb dJx4a65c_grow_92f84_5 rfl hl (by decide) rfl (fun ls hl => ?_)
  refine lv_iload_n hx hb dJx4a65c_grow_92f84_6 rfl (lv_at hl 0 rfl) ?_
  refine k_if_gt (tgt := 20) hx hb dJx4a65c_grow_92f84_7 (by decide) (fun c_1 => absurd ((decide_eq_false (by decide)).symm.trans c_1) (by decide)) (fun c_1 => ?_)
  refine lv_aload_n hx hb dJx4a65c_grow_92f84_10 rfl (lv_at hl 1 rfl) ?_
  refine k_get (C := RJx4a65c) (T := TJx4a65c) (N := 3) (ci := 0) (v := .ref z) (fs := [.int mc, .ref z, .int (nI 0)]) hC hG hi_RJx4a65c k hw rfl 1 (by decide) (List.mem_of_getElem? (i := 1) rfl) rfl rfl dJx4a65c_grow_92f84_11 ?_
  refine va_gets (C := RJx4a65c) (n := "DEFAULTCAPACITY_EMPTY_ELEMENTDATA") (d := "[Ljava/lang/Object;") (v := .ref z) (ref := "java/util/ArrayList") hx hb hC.Z.2.2.2.2.1 hG.2.2 hC.o (hC.t _ (List.mem_of_getElem? (i := 2) rfl)) (fun _ h9 => h9) dJx4a65c_grow_92f84_14 ?_
  refine k_acmp_eq (rx := some z) (ry := some z) (tgt := 45) hx hb dJx4a65c_grow_92f84_17 (by decide) (fun c_2 => ?_) (fun c_2 => absurd ((decide_eq_true rfl).symm.trans c_2) (by decide))
  refine lv_aload_n hx hb dJx4a65c_grow_92f84_45 rfl (lv_at hl 1 rfl) ?_
  refine lv_bipush (v := 10) hx hb dJx4a65c_grow_92f84_46 (by decide) ?_
  refine lv_iload_n hx hb dJx4a65c_grow_92f84_48 rfl (lv_at hl 2 rfl) ?_
  refine va_mmax hx hb (hC.nl.trans hl.1.symm) hC.o (hC.t _ (List.mem_of_getElem? (i := 3) rfl)) (hC.t _ (List.mem_of_getElem? (i := 4) rfl)) (hC.t _ (List.mem_of_getElem? (i := 5) rfl)) (hC.t _ (List.mem_of_getElem? (i := 6) rfl)) (Nat.le_of_ble_eq_true rfl) (Nat.le_of_ble_eq_true rfl) (Nat.le_of_ble_eq_true rfl) (Nat.le_of_ble_eq_true rfl) dJx4a65c_grow_92f84_49 ?_
  refine k_topi (y := nI 10) k_max10 ?_
  refine k_newq hC hG (List.mem_of_getElem? (i := 7) rfl) 10 (by decide) (nI_clamp (by omega)) (by omega) (Nat.le_of_ble_eq_true rfl) (Nat.le_of_ble_eq_true rfl) dJx4a65c_grow_92f84_52 (fun qa H hG => ?_)
  refine W.widen (k := 1) (n := 60) (Nat.le_of_ble_eq_true rfl) (Nat.le_of_ble_eq_true rfl) ?_
  refine lv_dup_x1 hx hb dJx4a65c_grow_92f84_55 rfl rfl ?_
  refine k_put (C := RJx4a65c) (T := TJx4a65c) (N := 3) (ci := 0) (v := .ref qa) (fs := [.int mc, .ref z, .int (nI 0)]) hC hG hi_RJx4a65c tyJx4a65c_ok nmJx4a65c k (k_fst hw) rfl 1 (by decide) (List.mem_of_getElem? (i := 1) rfl) rfl rfl rfl rfl (Nat.le_of_ble_eq_true rfl) dJx4a65c_grow_92f84_56 (fun H locs hG => ?_)
  have hG : kG D A s ((ws ++ [(qa, kOA cO 10 (fun _ => none))]).set k (la, .inr (0, [.int mc, .ref qa, .int (nI 0)]))) H locs := hG
  exact k_reta hC hr (Or.inr ⟨_, rfl⟩) hG (v := (some qa)) ⟨_, rfl, rfl⟩ (Nat.le_of_ble_eq_true rfl) (Nat.le_of_ble_eq_true rfl) dJx4a65c_grow_92f84_59

