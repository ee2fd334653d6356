set_option maxHeartbeats 4000000 in
set_option maxRecDepth 100000 in
/-- isHeading -/
theorem K_X4_isHeading (l : Launch) (hfl : l.stackTraces = false) (D : va_G) (cI cJ cZ cO : ClassId) (z mi : Nat) (hm : Nat) (hM : Nat) (hH : Nat) (hA : Nat) (hP : Nat) (hPa : Nat) (hR : Nat) (hW : Nat) (hMe : Nat) (hV : Nat) (hDo : Nat) (hS : Nat) (mk : Nat → Bool) (fH : Nat → Int32) (fA : Nat → Int32) (fP : Nat → Int32) (fPa : Nat → Int32) (fR : Nat → Int32) (fW : Nat → Int32) (fMe : Nat → Int32) (fV : Nat → Int32) (fDo : Nat → Int32) (fS : Nat → Int64) (dr : Bool) (cl : Bool) (bx : Int32) (by9 : Int32) (x : Int32) (y : Int32) (ot : Int32) (tw : Int32) (no : Nat) (lim : Int32) (nr : Nat) (ni : Nat) (ret : Int32) (clm : Int64) (la : Int32) (rest : va_W) (q : Int32) (hq : vp_in q 30) : kM l D (kTy cI cJ cZ cO) z mi yX4_isHeading wsX4_isHeading ({ frames := 0, cells := 0, slots := 0, locals := 0 } : Room) [.ref hm, .int q] ((hm, .inr (5, [.ref hM, .int (kb dr), .int (kb cl), .int bx, .int by9, .int x, .int y, .int ot, .int tw, .ref hH, .int (nI no), .int lim, .ref hA, .int (nI nr), .ref hP, .ref hPa, .ref hR, .ref hW, .ref hMe, .ref hV, .ref hDo, .ref hS, .int (nI ni), .int ret, .long clm, .int la])) :: (hM, .inl (cZ, 1681, .inl (fun j9 => kb (mk j9)))) :: (hH, .inl (cI, 10, .inl fH)) :: (hA, .inl (cI, 36, .inl fA)) :: (hP, .inl (cI, 3, .inl fP)) :: (hPa, .inl (cI, 30, .inl fPa)) :: (hR, .inl (cI, 30, .inl fR)) :: (hW, .inl (cI, 30, .inl fW)) :: (hMe, .inl (cI, 30, .inl fMe)) :: (hV, .inl (cI, 30, .inl fV)) :: (hDo, .inl (cI, 30, .inl fDo)) :: (hS, .inl (cJ, 30, .inr (.inl fS))) :: rest) (fun v u => v = some (.int (kb (decide (fR q.toNatClampNeg = (-1))))) ∧ u = (hm, .inr (5, [.ref hM, .int (kb dr), .int (kb cl), .int bx, .int by9, .int x, .int y, .int ot, .int tw, .ref hH, .int (nI no), .int lim, .ref hA, .int (nI nr), .ref hP, .ref hPa, .ref hR, .ref hW, .ref hMe, .ref hV, .ref hDo, .ref hS, .int (nI ni), .int ret, .long clm, .int la])) :: (hM, .inl (cZ, 1681, .inl (fun j9 => kb (mk j9)))) :: (hH, .inl (cI, 10, .inl fH)) :: (hA, .inl (cI, 36, .inl fA)) :: (hP, .inl (cI, 3, .inl fP)) :: (hPa, .inl (cI, 30, .inl fPa)) :: (hR, .inl (cI, 30, .inl fR)) :: (hW, .inl (cI, 30, .inl fW)) :: (hMe, .inl (cI, 30, .inl fMe)) :: (hV, .inl (cI, 30, .inl fV)) :: (hDo, .inl (cI, 30, .inl fDo)) :: (hS, .inl (cJ, 30, .inr (.inl fS))) :: rest) (fun _ _ => False) := by
  refine kM.of hfl (cc := cX4_isHeading) (maxL := 2) (ret := (some .boolean)) (by decide) rfl (Nat.le_of_ble_eq_true rfl) ?_
  intro p e s m args below meth c A ls hC hr hmn hG hl
  have hx := hC.x
  have hb := hC.b
  have hl : lv_has ls 2 [(0, .ref hm), (1, .int q)] := hl
  have hi_RX4 : ∀ w ∈ wsX40, w ∈ wsX4_isHeading := fun w h => List.mem_cons_of_mem _ (List.mem_append_right _ h)
  refine lv_aload_n hx hb dX4_isHeading_0 rfl (lv_at hl 0 rfl) ?_
  refine k_get (C := RX4) (T := TX4) (N := 26) (ci := 5) (v := .ref hR) (fs := [.ref hM, .int (kb dr), .int (kb cl), .int bx, .int by9, .int x, .int y, .int ot, .int tw, .ref hH, .int (nI no), .int lim, .ref hA, .int (nI nr), .ref hP, .ref hPa, .ref hR, .ref hW, .ref hMe, .ref hV, .ref hDo, .ref hS, .int (nI ni), .int ret, .long clm, .int la]) hC hG hi_RX4 0 rfl rfl 16 (by decide) (List.mem_of_getElem? (i := 1) rfl) rfl rfl dX4_isHeading_1 ?_
  refine lv_iload_n hx hb dX4_isHeading_4 rfl (lv_at hl 1 rfl) ?_
  refine va_iald (f := fR) hx hb hC.K hG.1 6 0 rfl rfl hq dX4_isHeading_5 ?_
  refine lv_iconst (v := (-1)) hx hb dX4_isHeading_6 (by decide) ?_
  refine k_joinH (D := D) (A := A) (fun v3 : Int32 => F0 m 15 ls (.int v3 :: [])) (fun v3 => v3 = kb (decide ((fR q.toNatClampNeg) = (-1)))) ((hm, .inr (5, [.ref hM, .int (kb dr), .int (kb cl), .int bx, .int by9, .int x, .int y, .int ot, .int tw, .ref hH, .int (nI no), .int lim, .ref hA, .int (nI nr), .ref hP, .ref hPa, .ref hR, .ref hW, .ref hMe, .ref hV, .ref hDo, .ref hS, .int (nI ni), .int ret, .long clm, .int la])) :: (hM, .inl (cZ, 1681, .inl (fun j9 => kb (mk j9)))) :: (hH, .inl (cI, 10, .inl fH)) :: (hA, .inl (cI, 36, .inl fA)) :: (hP, .inl (cI, 3, .inl fP)) :: (hPa, .inl (cI, 30, .inl fPa)) :: (hR, .inl (cI, 30, .inl fR)) :: (hW, .inl (cI, 30, .inl fW)) :: (hMe, .inl (cI, 30, .inl fMe)) :: (hV, .inl (cI, 30, .inl fV)) :: (hDo, .inl (cI, 30, .inl fDo)) :: (hS, .inl (cJ, 30, .inr (.inl fS))) :: rest) ?_ (fun J2 => ?_)
  · intro v3 ev3 H locs hG
    have ev3 : v3 = kb (decide ((fR q.toNatClampNeg) = (-1))) := ev3
    subst ev3
    exact k_retz hC hr hG (kb_nar _) ⟨rfl, rfl⟩ (Nat.le_of_ble_eq_true rfl) (Nat.le_of_ble_eq_true rfl) dX4_isHeading_15
  refine k_icmp_ne (tgt := 14) hx hb dX4_isHeading_7 (by decide) (fun c_1 => ?_) (fun c_1 => ?_)
  · refine lv_iconst (v := 0) hx hb dX4_isHeading_14 (by decide) ?_
    exact J2 0 (by rw [c_1]; first | done | rfl) _ _ hG
  · refine lv_iconst (v := 1) hx hb dX4_isHeading_10 (by decide) ?_
    refine lv_goto (tgt := 15) hx hb dX4_isHeading_11 (by decide) ?_
    exact J2 1 (by rw [c_1]; first | done | rfl) _ _ hG

set_option maxHeartbeats 4000000 in
set_option maxRecDepth 100000 in
/-- isLeaf -/
theorem K_X4_isLeaf (l : Launch) (hfl : l.stackTraces = false) (D : va_G) (cI cJ cZ cO : ClassId) (z mi : Nat) (hm : Nat) (hM : Nat) (hH : Nat) (hA : Nat) (hP : Nat) (hPa : Nat) (hR : Nat) (hW : Nat) (hMe : Nat) (hV : Nat) (hDo : Nat) (hS : Nat) (mk : Nat → Bool) (fH : Nat → Int32) (fA : Nat → Int32) (fP : Nat → Int32) (fPa : Nat → Int32) (fR : Nat → Int32) (fW : Nat → Int32) (fMe : Nat → Int32) (fV : Nat → Int32) (fDo : Nat → Int32) (fS : Nat → Int64) (dr : Bool) (cl : Bool) (bx : Int32) (by9 : Int32) (x : Int32) (y : Int32) (ot : Int32) (tw : Int32) (no : Nat) (lim : Int32) (nr : Nat) (ni : Nat) (ret : Int32) (clm : Int64) (la : Int32) (rest : va_W) (q : Int32) (hq : q = -1 ∨ vp_in q 30) : kM l D (kTy cI cJ cZ cO) z mi yX4_isLeaf wsX4_isLeaf ({ frames := 1, cells := 0, slots := 0, locals := 21 } : Room) [.ref hm, .int q] ((hm, .inr (5, [.ref hM, .int (kb dr), .int (kb cl), .int bx, .int by9, .int x, .int y, .int ot, .int tw, .ref hH, .int (nI no), .int lim, .ref hA, .int (nI nr), .ref hP, .ref hPa, .ref hR, .ref hW, .ref hMe, .ref hV, .ref hDo, .ref hS, .int (nI ni), .int ret, .long clm, .int la])) :: (hM, .inl (cZ, 1681, .inl (fun j9 => kb (mk j9)))) :: (hH, .inl (cI, 10, .inl fH)) :: (hA, .inl (cI, 36, .inl fA)) :: (hP, .inl (cI, 3, .inl fP)) :: (hPa, .inl (cI, 30, .inl fPa)) :: (hR, .inl (cI, 30, .inl fR)) :: (hW, .inl (cI, 30, .inl fW)) :: (hMe, .inl (cI, 30, .inl fMe)) :: (hV, .inl (cI, 30, .inl fV)) :: (hDo, .inl (cI, 30, .inl fDo)) :: (hS, .inl (cJ, 30, .inr (.inl fS))) :: rest) (fun v u => v = some (.int (kb (kLf fR q))) ∧ u = (hm, .inr (5, [.ref hM, .int (kb dr), .int (kb cl), .int bx, .int by9, .int x, .int y, .int ot, .int tw, .ref hH, .int (nI no), .int lim, .ref hA, .int (nI nr), .ref hP, .ref hPa, .ref hR, .ref hW, .ref hMe, .ref hV, .ref hDo, .ref hS, .int (nI ni), .int ret, .long clm, .int la])) :: (hM, .inl (cZ, 1681, .inl (fun j9 => kb (mk j9)))) :: (hH, .inl (cI, 10, .inl fH)) :: (hA, .inl (cI, 36, .inl fA)) :: (hP, .inl (cI, 3, .inl fP)) :: (hPa, .inl (cI, 30, .inl fPa)) :: (hR, .inl (cI, 30, .inl fR)) :: (hW, .inl (cI, 30, .inl fW)) :: (hMe, .inl (cI, 30, .inl fMe)) :: (hV, .inl (cI, 30, .inl fV)) :: (hDo, .inl (cI, 30, .inl fDo)) :: (hS, .inl (cJ, 30, .inr (.inl fS))) :: rest) (fun _ _ => False) := by
  refine kM.of hfl (cc := cX4_isLeaf) (maxL := 2) (ret := (some .boolean)) (by decide) rfl (Nat.le_of_ble_eq_true rfl) ?_
  intro p e s m args below meth c A ls hC hr hmn hG hl
  have hx := hC.x
  have hb := hC.b
  have hl : lv_has ls 2 [(0, .ref hm), (1, .int q)] := hl
  refine lv_iload_n hx hb dX4_isLeaf_0 rfl (lv_at hl 1 rfl) ?_
  refine lv_iconst (v := (-1)) hx hb dX4_isLeaf_1 (by decide) ?_
  refine k_joinH (D := D) (A := A) (fun v3 : Int32 => F0 m 18 ls (.int v3 :: [])) (fun v3 => v3 = kb (!(decide (q = (-1))) && (!(decide (fR q.toNatClampNeg = (-1)))))) ((hm, .inr (5, [.ref hM, .int (kb dr), .int (kb cl), .int bx, .int by9, .int x, .int y, .int ot, .int tw, .ref hH, .int (nI no), .int lim, .ref hA, .int (nI nr), .ref hP, .ref hPa, .ref hR, .ref hW, .ref hMe, .ref hV, .ref hDo, .ref hS, .int (nI ni), .int ret, .long clm, .int la])) :: (hM, .inl (cZ, 1681, .inl (fun j9 => kb (mk j9)))) :: (hH, .inl (cI, 10, .inl fH)) :: (hA, .inl (cI, 36, .inl fA)) :: (hP, .inl (cI, 3, .inl fP)) :: (hPa, .inl (cI, 30, .inl fPa)) :: (hR, .inl (cI, 30, .inl fR)) :: (hW, .inl (cI, 30, .inl fW)) :: (hMe, .inl (cI, 30, .inl fMe)) :: (hV, .inl (cI, 30, .inl fV)) :: (hDo, .inl (cI, 30, .inl fDo)) :: (hS, .inl (cJ, 30, .inr (.inl fS))) :: rest) ?_ (fun J2 => ?_)
  · intro v3 ev3 H locs hG
    have ev3 : v3 = kb (!(decide (q = (-1))) && (!(decide (fR q.toNatClampNeg = (-1))))) := ev3
    subst ev3
    exact k_retz hC hr hG (kb_nar _) ⟨rfl, rfl⟩ (Nat.le_of_ble_eq_true rfl) (Nat.le_of_ble_eq_true rfl) dX4_isLeaf_18
  refine k_icmp_eq (tgt := 17) hx hb dX4_isLeaf_2 (by decide) (fun c_1 => ?_) (fun c_1 => ?_)
  · refine lv_iconst (v := 0) hx hb dX4_isLeaf_17 (by decide) ?_
    exact J2 0 (by rw [c_1]; first | done | rfl) _ _ hG
  · refine lv_aload_n hx hb dX4_isLeaf_5 rfl (lv_at hl 0 rfl) ?_
    refine lv_iload_n hx hb dX4_isLeaf_6 rfl (lv_at hl 1 rfl) ?_
    refine k_callV (nn := 1) (C := RX4) hC hG 0 rfl (ci := 5) rfl (K_X4_isHeading l hfl D cI cJ cZ cO z mi hm hM hH hA hP hPa hR hW hMe hV hDo hS mk fH fA fP fPa fR fW fMe fV fDo fS dr cl bx by9 x y ot tw no lim nr ni ret clm la rest q (hq.resolve_left (of_decide_eq_false c_1))) gX4_isLeaf_X4_isHeading rfl rfl (by decide +kernel) ⟨(Nat.le_of_ble_eq_true rfl), (Nat.le_of_ble_eq_true rfl)⟩ hl.1 rfl (Nat.le_of_ble_eq_true rfl) dX4_isLeaf_7 ⟨(Nat.le_of_ble_eq_true rfl), (Nat.le_of_ble_eq_true rfl)⟩ (fun _ _ _ _ _ _ hp => hp.elim) (fun v9 u9 H locs hp hG => ?_)
    obtain ⟨rfl, rfl⟩ := hp
    refine W.widen (k := 0) (n := 0) (Nat.le_of_ble_eq_true rfl) (Nat.le_of_ble_eq_true rfl) ?_
    refine W.eq (g2 := F0 m 10 ls [.int (kb (decide (fR q.toNatClampNeg = (-1))))]) rfl ?_
    refine k_ifB_ne (tgt := 17) hx hb dX4_isLeaf_10 (by decide) (fun c_4 => ?_) (fun c_4 => ?_)
    · refine lv_iconst (v := 0) hx hb dX4_isLeaf_17 (by decide) ?_
      exact J2 0 (by rw [c_1, c_4]; first | done | rfl) _ _ hG
    · refine lv_iconst (v := 1) hx hb dX4_isLeaf_13 (by decide) ?_
      refine lv_goto (tgt := 18) hx hb dX4_isLeaf_14 (by decide) ?_
      exact J2 1 (by rw [c_1, c_4]; first | done | rfl) _ _ hG

set_option maxHeartbeats 4000000 in
set_option maxRecDepth 100000 in
/-- quantities -/
theorem K_X4_quantities (l : Launch) (hfl : l.stackTraces = false) (D : va_G) (cI cJ cZ cO : ClassId) (z mi : Nat) (hm : Nat) (hM : Nat) (hH : Nat) (hA : Nat) (hP : Nat) (hPa : Nat) (hR : Nat) (hW : Nat) (hMe : Nat) (hV : Nat) (hDo : Nat) (hS : Nat) (mk : Nat → Bool) (fH : Nat → Int32) (fA : Nat → Int32) (fP : Nat → Int32) (fPa : Nat → Int32) (fR : Nat → Int32) (fW : Nat → Int32) (fMe : Nat → Int32) (fV : Nat → Int32) (fDo : Nat → Int32) (fS : Nat → Int64) (dr : Bool) (cl : Bool) (bx : Int32) (by9 : Int32) (x : Int32) (y : Int32) (ot : Int32) (tw : Int32) (no : Nat) (lim : Int32) (nr : Nat) (ni : Nat) (ret : Int32) (clm : Int64) (la : Int32) (rest : va_W) (q : Int32) (hq : vp_in q 30) : kM l D (kTy cI cJ cZ cO) z mi yX4_quantities wsX4_quantities ({ frames := 0, cells := 0, slots := 0, locals := 0 } : Room) [.ref hm, .int q] ((hm, .inr (5, [.ref hM, .int (kb dr), .int (kb cl), .int bx, .int by9, .int x, .int y, .int ot, .int tw, .ref hH, .int (nI no), .int lim, .ref hA, .int (nI nr), .ref hP, .ref hPa, .ref hR, .ref hW, .ref hMe, .ref hV, .ref hDo, .ref hS, .int (nI ni), .int ret, .long clm, .int la])) :: (hM, .inl (cZ, 1681, .inl (fun j9 => kb (mk j9)))) :: (hH, .inl (cI, 10, .inl fH)) :: (hA, .inl (cI, 36, .inl fA)) :: (hP, .inl (cI, 3, .inl fP)) :: (hPa, .inl (cI, 30, .inl fPa)) :: (hR, .inl (cI, 30, .inl fR)) :: (hW, .inl (cI, 30, .inl fW)) :: (hMe, .inl (cI, 30, .inl fMe)) :: (hV, .inl (cI, 30, .inl fV)) :: (hDo, .inl (cI, 30, .inl fDo)) :: (hS, .inl (cJ, 30, .inr (.inl fS))) :: rest) (fun v u => v = some (.int (kQt (fMe q.toNatClampNeg) (fW q.toNatClampNeg))) ∧ u = (hm, .inr (5, [.ref hM, .int (kb dr), .int (kb cl), .int bx, .int by9, .int x, .int y, .int ot, .int tw, .ref hH, .int (nI no), .int lim, .ref hA, .int (nI nr), .ref hP, .ref hPa, .ref hR, .ref hW, .ref hMe, .ref hV, .ref hDo, .ref hS, .int (nI ni), .int ret, .long clm, .int la])) :: (hM, .inl (cZ, 1681, .inl (fun j9 => kb (mk j9)))) :: (hH, .inl (cI, 10, .inl fH)) :: (hA, .inl (cI, 36, .inl fA)) :: (hP, .inl (cI, 3, .inl fP)) :: (hPa, .inl (cI, 30, .inl fPa)) :: (hR, .inl (cI, 30, .inl fR)) :: (hW, .inl (cI, 30, .inl fW)) :: (hMe, .inl (cI, 30, .inl fMe)) :: (hV, .inl (cI, 30, .inl fV)) :: (hDo, .inl (cI, 30, .inl fDo)) :: (hS, .inl (cJ, 30, .inr (.inl fS))) :: rest) (fun _ _ => False) := by
  refine kM.of hfl (cc := cX4_quantities) (maxL := 2) (ret := (some .int)) (by decide) rfl (Nat.le_of_ble_eq_true rfl) ?_
  intro p e s m args below meth c A ls hC hr hmn hG hl
  have hx := hC.x
  have hb := hC.b
  have hl : lv_has ls 2 [(0, .ref hm), (1, .int q)] := hl
  have hi_RX4 : ∀ w ∈ wsX40, w ∈ wsX4_quantities := fun w h => List.mem_cons_of_mem _ (List.mem_append_right _ h)
  refine lv_aload_n hx hb dX4_quantities_0 rfl (lv_at hl 0 rfl) ?_
  refine k_get (C := RX4) (T := TX4) (N := 26) (ci := 5) (v := .ref hMe) (fs := [.ref hM, .int (kb dr), .int (kb cl), .int bx, .int by9, .int x, .int y, .int ot, .int tw, .ref hH, .int (nI no), .int lim, .ref hA, .int (nI nr), .ref hP, .ref hPa, .ref hR, .ref hW, .ref hMe, .ref hV, .ref hDo, .ref hS, .int (nI ni), .int ret, .long clm, .int la]) hC hG hi_RX4 0 rfl rfl 18 (by decide) (List.mem_of_getElem? (i := 1) rfl) rfl rfl dX4_quantities_1 ?_
  refine lv_iload_n hx hb dX4_quantities_4 rfl (lv_at hl 1 rfl) ?_
  refine va_iald (f := fMe) hx hb hC.K hG.1 8 0 rfl rfl hq dX4_quantities_5 ?_
  refine lv_i2l hx hb dX4_quantities_6 rfl ?_
  refine lv_bipush (v := 100) hx hb dX4_quantities_7 (by decide) ?_
  refine lv_aload_n hx hb dX4_quantities_9 rfl (lv_at hl 0 rfl) ?_
  refine k_get (C := RX4) (T := TX4) (N := 26) (ci := 5) (v := .ref hW) (fs := [.ref hM, .int (kb dr), .int (kb cl), .int bx, .int by9, .int x, .int y, .int ot, .int tw, .ref hH, .int (nI no), .int lim, .ref hA, .int (nI nr), .ref hP, .ref hPa, .ref hR, .ref hW, .ref hMe, .ref hV, .ref hDo, .ref hS, .int (nI ni), .int ret, .long clm, .int la]) hC hG hi_RX4 0 rfl rfl 17 (by decide) (List.mem_of_getElem? (i := 2) rfl) rfl rfl dX4_quantities_10 ?_
  refine lv_iload_n hx hb dX4_quantities_13 rfl (lv_at hl 1 rfl) ?_
  refine va_iald (f := fW) hx hb hC.K hG.1 7 0 rfl rfl hq dX4_quantities_14 ?_
  refine lv_iadd hx hb dX4_quantities_15 ?_
  refine lv_i2l hx hb dX4_quantities_16 rfl ?_
  refine lv_lmul hx hb dX4_quantities_17 ?_
  refine lv_ldc2 (v := 99) hx hb hC.o (hC.t _ (List.mem_of_getElem? (i := 3) rfl)) dX4_quantities_18 ?_
  refine lv_ladd hx hb dX4_quantities_21 ?_
  refine lv_ldc2 (v := 100) hx hb hC.o (hC.t _ (List.mem_of_getElem? (i := 4) rfl)) dX4_quantities_22 ?_
  refine lv_ldiv hx hb dX4_quantities_25 (by decide) ?_
  refine lv_l2i hx hb dX4_quantities_26 rfl ?_
  exact k_reti hC hr hG ⟨rfl, rfl⟩ (Nat.le_of_ble_eq_true rfl) (Nat.le_of_ble_eq_true rfl) dX4_quantities_27

set_option maxHeartbeats 4000000 in
set_option maxRecDepth 100000 in
/-- quantity -/
theorem K_X4_quantity (l : Launch) (hfl : l.stackTraces = false) (D : va_G) (cI cJ cZ cO : ClassId) (z mi : Nat) (hm : Nat) (hM : Nat) (hH : Nat) (hA : Nat) (hP : Nat) (hPa : Nat) (hR : Nat) (hW : Nat) (hMe : Nat) (hV : Nat) (hDo : Nat) (hS : Nat) (mk : Nat → Bool) (fH : Nat → Int32) (fA : Nat → Int32) (fP : Nat → Int32) (fPa : Nat → Int32) (fR : Nat → Int32) (fW : Nat → Int32) (fMe : Nat → Int32) (fV : Nat → Int32) (fDo : Nat → Int32) (fS : Nat → Int64) (dr : Bool) (cl : Bool) (bx : Int32) (by9 : Int32) (x : Int32) (y : Int32) (ot : Int32) (tw : Int32) (no : Nat) (lim : Int32) (nr : Nat) (ni : Nat) (ret : Int32) (clm : Int64) (la : Int32) (rest : va_W) (q : Int32) (hni : ni ≤ 30) : kM l D (kTy cI cJ cZ cO) z mi yX4_quantity wsX4_quantity ({ frames := 2, cells := 0, slots := 0, locals := 43 } : Room) [.ref hm, .int q] ((hm, .inr (5, [.ref hM, .int (kb dr), .int (kb cl), .int bx, .int by9, .int x, .int y, .int ot, .int tw, .ref hH, .int (nI no), .int lim, .ref hA, .int (nI nr), .ref hP, .ref hPa, .ref hR, .ref hW, .ref hMe, .ref hV, .ref hDo, .ref hS, .int (nI ni), .int ret, .long clm, .int la])) :: (hM, .inl (cZ, 1681, .inl (fun j9 => kb (mk j9)))) :: (hH, .inl (cI, 10, .inl fH)) :: (hA, .inl (cI, 36, .inl fA)) :: (hP, .inl (cI, 3, .inl fP)) :: (hPa, .inl (cI, 30, .inl fPa)) :: (hR, .inl (cI, 30, .inl fR)) :: (hW, .inl (cI, 30, .inl fW)) :: (hMe, .inl (cI, 30, .inl fMe)) :: (hV, .inl (cI, 30, .inl fV)) :: (hDo, .inl (cI, 30, .inl fDo)) :: (hS, .inl (cJ, 30, .inr (.inl fS))) :: rest) (fun v u => v = some (.int (bif ((kIn q 0 (nI ni - 1)) && (!(decide ((fR q.toNatClampNeg) = (-1))))) && (kIn q 0 (nI ni - 1)) then kQt (fMe q.toNatClampNeg) (fW q.toNatClampNeg) else 0)) ∧ u = (hm, .inr (5, [.ref hM, .int (kb dr), .int (kb cl), .int bx, .int by9, .int x, .int y, .int ot, .int tw, .ref hH, .int (nI no), .int lim, .ref hA, .int (nI nr), .ref hP, .ref hPa, .ref hR, .ref hW, .ref hMe, .ref hV, .ref hDo, .ref hS, .int (nI ni), .int ret, .long clm, .int (kGo (kIn q 0 (nI ni - 1)) ((kIn q 0 (nI ni - 1)) && (!(decide ((fR q.toNatClampNeg) = (-1))))) true)])) :: (hM, .inl (cZ, 1681, .inl (fun j9 => kb (mk j9)))) :: (hH, .inl (cI, 10, .inl fH)) :: (hA, .inl (cI, 36, .inl fA)) :: (hP, .inl (cI, 3, .inl fP)) :: (hPa, .inl (cI, 30, .inl fPa)) :: (hR, .inl (cI, 30, .inl fR)) :: (hW, .inl (cI, 30, .inl fW)) :: (hMe, .inl (cI, 30, .inl fMe)) :: (hV, .inl (cI, 30, .inl fV)) :: (hDo, .inl (cI, 30, .inl fDo)) :: (hS, .inl (cJ, 30, .inr (.inl fS))) :: rest) (fun _ _ => False) := by
  refine kM.of hfl (cc := cX4_quantity) (maxL := 3) (ret := (some .int)) (by decide) rfl (Nat.le_of_ble_eq_true rfl) ?_
  intro p e s m args below meth c A ls hC hr hmn hG hl
  have hx := hC.x
  have hb := hC.b
  have hl : lv_has ls 3 [(0, .ref hm), (1, .int q)] := hl
  refine lv_aload_n hx hb dX4_quantity_0 rfl (lv_at hl 0 rfl) ?_
  refine lv_iload_n hx hb dX4_quantity_1 rfl (lv_at hl 1 rfl) ?_
  refine k_callV (nn := 1) (C := RX4) hC hG 0 rfl (ci := 5) rfl (K_X4_isItem l hfl D cI cJ cZ cO z mi hm hM hH hA hP hPa hR hW hMe hV hDo hS mk fH fA fP fPa fR fW fMe fV fDo fS dr cl bx by9 x y ot tw no lim nr ni ret clm la rest q) gX4_quantity_X4_isItem rfl rfl (by decide +kernel) ⟨(Nat.le_of_ble_eq_true rfl), (Nat.le_of_ble_eq_true rfl)⟩ hl.1 rfl (Nat.le_of_ble_eq_true rfl) dX4_quantity_2 ⟨(Nat.le_of_ble_eq_true rfl), (Nat.le_of_ble_eq_true rfl)⟩ (fun _ _ _ _ _ _ hp => hp.elim) (fun v9 u9 H locs hp hG => ?_)
  obtain ⟨rfl, rfl⟩ := hp
  refine W.widen (k := 0) (n := 0) (Nat.le_of_ble_eq_true rfl) (Nat.le_of_ble_eq_true rfl) ?_
  refine W.eq (g2 := F0 m 5 ls [.int (kb (kIn q 0 (nI ni - 1)))]) rfl ?_
  refine lv_istore_n (lv' := [(2, .int (kb (kIn q 0 (nI ni - 1)))), (0, .ref hm), (1, .int q)]) hx hb dX4_quantity_5 rfl hl (by decide) rfl (fun ls hl => ?_)
  refine lv_aload_n hx hb dX4_quantity_6 rfl (lv_at hl 1 rfl) ?_
  refine lv_iload_n hx hb dX4_quantity_7 rfl (lv_at hl 0 rfl) ?_
  refine lv_iload_n hx hb dX4_quantity_8 rfl (lv_at hl 0 rfl) ?_
  refine k_joinH (D := D) (A := A) (fun v3 : Int32 => F0 m 25 ls (.int v3 :: [.int (kb (kIn q 0 (nI ni - 1))), .ref hm])) (fun v3 => v3 = kb ((kIn q 0 (nI ni - 1)) && (!(decide (fR q.toNatClampNeg = (-1)))))) ((hm, .inr (5, [.ref hM, .int (kb dr), .int (kb cl), .int bx, .int by9, .int x, .int y, .int ot, .int tw, .ref hH, .int (nI no), .int lim, .ref hA, .int (nI nr), .ref hP, .ref hPa, .ref hR, .ref hW, .ref hMe, .ref hV, .ref hDo, .ref hS, .int (nI ni), .int ret, .long clm, .int la])) :: (hM, .inl (cZ, 1681, .inl (fun j9 => kb (mk j9)))) :: (hH, .inl (cI, 10, .inl fH)) :: (hA, .inl (cI, 36, .inl fA)) :: (hP, .inl (cI, 3, .inl fP)) :: (hPa, .inl (cI, 30, .inl fPa)) :: (hR, .inl (cI, 30, .inl fR)) :: (hW, .inl (cI, 30, .inl fW)) :: (hMe, .inl (cI, 30, .inl fMe)) :: (hV, .inl (cI, 30, .inl fV)) :: (hDo, .inl (cI, 30, .inl fDo)) :: (hS, .inl (cJ, 30, .inr (.inl fS))) :: rest) ?_ (fun J2 => ?_)
  · intro v3 ev3 H locs hG
    have ev3 : v3 = kb ((kIn q 0 (nI ni - 1)) && (!(decide (fR q.toNatClampNeg = (-1))))) := ev3
    subst ev3
    refine lv_iconst (v := 1) hx hb dX4_quantity_25 (by decide) ?_
    refine k_callV (nn := 3) (C := RX4) hC hG 0 rfl (ci := 5) rfl (K_X4_goes l hfl D cI cJ cZ cO z mi hm hM hH hA hP hPa hR hW hMe hV hDo hS mk fH fA fP fPa fR fW fMe fV fDo fS dr cl bx by9 x y ot tw no lim nr ni ret clm la rest (kIn q 0 (nI ni - 1)) ((kIn q 0 (nI ni - 1)) && (!(decide (fR q.toNatClampNeg = (-1))))) true) gX4_quantity_X4_goes rfl rfl (by decide +kernel) ⟨(Nat.le_of_ble_eq_true rfl), (Nat.le_of_ble_eq_true rfl)⟩ hl.1 rfl (Nat.le_of_ble_eq_true rfl) dX4_quantity_26 ⟨(Nat.le_of_ble_eq_true rfl), (Nat.le_of_ble_eq_true rfl)⟩ (fun _ _ _ _ _ _ hp => hp.elim) (fun v9 u9 H locs hp hG => ?_)
    obtain ⟨rfl, rfl⟩ := hp
    have hG : kG D A s ((hm, .inr (5, [.ref hM, .int (kb dr), .int (kb cl), .int bx, .int by9, .int x, .int y, .int ot, .int tw, .ref hH, .int (nI no), .int lim, .ref hA, .int (nI nr), .ref hP, .ref hPa, .ref hR, .ref hW, .ref hMe, .ref hV, .ref hDo, .ref hS, .int (nI ni), .int ret, .long clm, .int (kGo (kIn q 0 (nI ni - 1)) ((kIn q 0 (nI ni - 1)) && (!(decide (fR q.toNatClampNeg = (-1))))) true)])) :: (hM, .inl (cZ, 1681, .inl (fun j9 => kb (mk j9)))) :: (hH, .inl (cI, 10, .inl fH)) :: (hA, .inl (cI, 36, .inl fA)) :: (hP, .inl (cI, 3, .inl fP)) :: (hPa, .inl (cI, 30, .inl fPa)) :: (hR, .inl (cI, 30, .inl fR)) :: (hW, .inl (cI, 30, .inl fW)) :: (hMe, .inl (cI, 30, .inl fMe)) :: (hV, .inl (cI, 30, .inl fV)) :: (hDo, .inl (cI, 30, .inl fDo)) :: (hS, .inl (cJ, 30, .inr (.inl fS))) :: rest) H locs := hG
    refine W.widen (k := 0) (n := 0) (Nat.le_of_ble_eq_true rfl) (Nat.le_of_ble_eq_true rfl) ?_
    refine W.eq (g2 := F0 m 29 ls [.int (kb (((kIn q 0 (nI ni - 1)) && (!(decide (fR q.toNatClampNeg = (-1))))) && (kIn q 0 (nI ni - 1))))]) rfl ?_
    refine k_joinH (D := D) (A := A) (fun v6 : Int32 => F0 m 41 ls (.int v6 :: [])) (fun v6 => v6 = bif ((kIn q 0 (nI ni - 1)) && (!(decide (fR q.toNatClampNeg = (-1))))) && (kIn q 0 (nI ni - 1)) then (kQt (fMe q.toNatClampNeg) (fW q.toNatClampNeg)) else 0) ((hm, .inr (5, [.ref hM, .int (kb dr), .int (kb cl), .int bx, .int by9, .int x, .int y, .int ot, .int tw, .ref hH, .int (nI no), .int lim, .ref hA, .int (nI nr), .ref hP, .ref hPa, .ref hR, .ref hW, .ref hMe, .ref hV, .ref hDo, .ref hS, .int (nI ni), .int ret, .long clm, .int (kGo (kIn q 0 (nI ni - 1)) ((kIn q 0 (nI ni - 1)) && (!(decide (fR q.toNatClampNeg = (-1))))) true)])) :: (hM, .inl (cZ, 1681, .inl (fun j9 => kb (mk j9)))) :: (hH, .inl (cI, 10, .inl fH)) :: (hA, .inl (cI, 36, .inl fA)) :: (hP, .inl (cI, 3, .inl fP)) :: (hPa, .inl (cI, 30, .inl fPa)) :: (hR, .inl (cI, 30, .inl fR)) :: (hW, .inl (cI, 30, .inl fW)) :: (hMe, .inl (cI, 30, .inl fMe)) :: (hV, .inl (cI, 30, .inl fV)) :: (hDo, .inl (cI, 30, .inl fDo)) :: (hS, .inl (cJ, 30, .inr (.inl fS))) :: rest) ?_ (fun J5 => ?_)
    · intro v6 ev6 H locs hG
      have ev6 : v6 = bif ((kIn q 0 (nI ni - 1)) && (!(decide (fR q.toNatClampNeg = (-1))))) && (kIn q 0 (nI ni - 1)) then (kQt (fMe q.toNatClampNeg) (fW q.toNatClampNeg)) else 0 := ev6
      subst ev6
      exact k_reti hC hr hG ⟨rfl, rfl⟩ (Nat.le_of_ble_eq_true rfl) (Nat.le_of_ble_eq_true rfl) dX4_quantity_41
    refine k_ifB_eq (tgt := 40) hx hb dX4_quantity_29 (by decide) (fun c_4 => ?_) (fun c_4 => ?_)
    · refine lv_iconst (v := 0) hx hb dX4_quantity_40 (by decide) ?_
      exact J5 0 (by rw [c_4]; first | done | rfl) _ _ hG
    · refine lv_aload_n hx hb dX4_quantity_32 rfl (lv_at hl 1 rfl) ?_
      refine lv_iload_n hx hb dX4_quantity_33 rfl (lv_at hl 2 rfl) ?_
      refine k_callV (nn := 1) (C := RX4) hC hG 0 rfl (ci := 5) rfl (K_X4_quantities l hfl D cI cJ cZ cO z mi hm hM hH hA hP hPa hR hW hMe hV hDo hS mk fH fA fP fPa fR fW fMe fV fDo fS dr cl bx by9 x y ot tw no lim nr ni ret clm (kGo (kIn q 0 (nI ni - 1)) ((kIn q 0 (nI ni - 1)) && (!(decide (fR q.toNatClampNeg = (-1))))) true) rest q (kIn_in (k_andl (k_andl c_4)) (by omega) (by decide))) gX4_quantity_X4_quantities rfl rfl (by decide +kernel) ⟨(Nat.le_of_ble_eq_true rfl), (Nat.le_of_ble_eq_true rfl)⟩ hl.1 rfl (Nat.le_of_ble_eq_true rfl) dX4_quantity_34 ⟨(Nat.le_of_ble_eq_true rfl), (Nat.le_of_ble_eq_true rfl)⟩ (fun _ _ _ _ _ _ hp => hp.elim) (fun v9 u9 H locs hp hG => ?_)
      obtain ⟨rfl, rfl⟩ := hp
      refine W.widen (k := 0) (n := 0) (Nat.le_of_ble_eq_true rfl) (Nat.le_of_ble_eq_true rfl) ?_
      refine W.eq (g2 := F0 m 37 ls [.int (kQt (fMe q.toNatClampNeg) (fW q.toNatClampNeg))]) rfl ?_
      refine lv_goto (tgt := 41) hx hb dX4_quantity_37 (by decide) ?_
      exact J5 (kQt (fMe q.toNatClampNeg) (fW q.toNatClampNeg)) (by rw [c_4]; first | done | rfl) _ _ hG
  refine k_ifB_eq (tgt := 24) hx hb dX4_quantity_9 (by decide) (fun c_1 => ?_) (fun c_1 => ?_)
  · refine lv_iconst (v := 0) hx hb dX4_quantity_24 (by decide) ?_
    exact J2 0 (by rw [c_1]; first | done | rfl) _ _ hG
  · refine lv_aload_n hx hb dX4_quantity_12 rfl (lv_at hl 1 rfl) ?_
    refine lv_iload_n hx hb dX4_quantity_13 rfl (lv_at hl 2 rfl) ?_
    refine k_callV (nn := 1) (C := RX4) hC hG 0 rfl (ci := 5) rfl (K_X4_isHeading l hfl D cI cJ cZ cO z mi hm hM hH hA hP hPa hR hW hMe hV hDo hS mk fH fA fP fPa fR fW fMe fV fDo fS dr cl bx by9 x y ot tw no lim nr ni ret clm la rest q (kIn_in c_1 (by omega) (by decide))) gX4_quantity_X4_isHeading rfl rfl (by decide +kernel) ⟨(Nat.le_of_ble_eq_true rfl), (Nat.le_of_ble_eq_true rfl)⟩ hl.1 rfl (Nat.le_of_ble_eq_true rfl) dX4_quantity_14 ⟨(Nat.le_of_ble_eq_true rfl), (Nat.le_of_ble_eq_true rfl)⟩ (fun _ _ _ _ _ _ hp => hp.elim) (fun v9 u9 H locs hp hG => ?_)
    obtain ⟨rfl, rfl⟩ := hp
    refine W.widen (k := 0) (n := 0) (Nat.le_of_ble_eq_true rfl) (Nat.le_of_ble_eq_true rfl) ?_
    refine W.eq (g2 := F0 m 17 ls [.int (kb (decide (fR q.toNatClampNeg = (-1)))), .int (kb (kIn q 0 (nI ni - 1))), .ref hm]) rfl ?_
    refine k_ifB_ne (tgt := 24) hx hb dX4_quantity_17 (by decide) (fun c_7 => ?_) (fun c_7 => ?_)
    · refine lv_iconst (v := 0) hx hb dX4_quantity_24 (by decide) ?_
      exact J2 0 (by rw [c_1, c_7]; first | done | rfl) _ _ hG
    · refine lv_iconst (v := 1) hx hb dX4_quantity_20 (by decide) ?_
      refine lv_goto (tgt := 25) hx hb dX4_quantity_21 (by decide) ?_
      exact J2 1 (by rw [c_1, c_7]; first | done | rfl) _ _ hG

set_option maxHeartbeats 4000000 in
set_option maxRecDepth 100000 in
/-- area -/
theorem K_X4_area (l : Launch) (hfl : l.stackTraces = false) (D : va_G) (cI cJ cZ cO : ClassId) (z mi : Nat) (hm : Nat) (hM : Nat) (hH : Nat) (hA : Nat) (hP : Nat) (hPa : Nat) (hR : Nat) (hW : Nat) (hMe : Nat) (hV : Nat) (hDo : Nat) (hS : Nat) (mk : Nat → Bool) (fH : Nat → Int32) (fA : Nat → Int32) (fP : Nat → Int32) (fPa : Nat → Int32) (fR : Nat → Int32) (fW : Nat → Int32) (fMe : Nat → Int32) (fV : Nat → Int32) (fDo : Nat → Int32) (fS : Nat → Int64) (dr : Bool) (cl : Bool) (bx : Int32) (by9 : Int32) (x : Int32) (y : Int32) (ot : Int32) (tw : Int32) (no : Nat) (lim : Int32) (nr : Nat) (ni : Nat) (ret : Int32) (clm : Int64) (la : Int32) (rest : va_W)  : kM l D (kTy cI cJ cZ cO) z mi yX4_area wsX4_area ({ frames := 1, cells := 0, slots := 0, locals := 23 } : Room) [.ref hm] ((hm, .inr (5, [.ref hM, .int (kb dr), .int (kb cl), .int bx, .int by9, .int x, .int y, .int ot, .int tw, .ref hH, .int (nI no), .int lim, .ref hA, .int (nI nr), .ref hP, .ref hPa, .ref hR, .ref hW, .ref hMe, .ref hV, .ref hDo, .ref hS, .int (nI ni), .int ret, .long clm, .int la])) :: (hM, .inl (cZ, 1681, .inl (fun j9 => kb (mk j9)))) :: (hH, .inl (cI, 10, .inl fH)) :: (hA, .inl (cI, 36, .inl fA)) :: (hP, .inl (cI, 3, .inl fP)) :: (hPa, .inl (cI, 30, .inl fPa)) :: (hR, .inl (cI, 30, .inl fR)) :: (hW, .inl (cI, 30, .inl fW)) :: (hMe, .inl (cI, 30, .inl fMe)) :: (hV, .inl (cI, 30, .inl fV)) :: (hDo, .inl (cI, 30, .inl fDo)) :: (hS, .inl (cJ, 30, .inr (.inl fS))) :: rest) (fun v u => v = some (.int (bif dr && cl then (bif decide ((0 : Int32) ≤ tw) then tw else -tw) / 2 else 0)) ∧ u = (hm, .inr (5, [.ref hM, .int (kb dr), .int (kb cl), .int bx, .int by9, .int x, .int y, .int ot, .int tw, .ref hH, .int (nI no), .int lim, .ref hA, .int (nI nr), .ref hP, .ref hPa, .ref hR, .ref hW, .ref hMe, .ref hV, .ref hDo, .ref hS, .int (nI ni), .int ret, .long clm, .int (kGo (dr && cl) true true)])) :: (hM, .inl (cZ, 1681, .inl (fun j9 => kb (mk j9)))) :: (hH, .inl (cI, 10, .inl fH)) :: (hA, .inl (cI, 36, .inl fA)) :: (hP, .inl (cI, 3, .inl fP)) :: (hPa, .inl (cI, 30, .inl fPa)) :: (hR, .inl (cI, 30, .inl fR)) :: (hW, .inl (cI, 30, .inl fW)) :: (hMe, .inl (cI, 30, .inl fMe)) :: (hV, .inl (cI, 30, .inl fV)) :: (hDo, .inl (cI, 30, .inl fDo)) :: (hS, .inl (cJ, 30, .inr (.inl fS))) :: rest) (fun _ _ => False) := by
  refine kM.of hfl (cc := cX4_area) (maxL := 1) (ret := (some .int)) (by decide) rfl (Nat.le_of_ble_eq_true rfl) ?_
  intro p e s m args below meth c A ls hC hr hmn hG hl
  have hx := hC.x
  have hb := hC.b
  have hl : lv_has ls 1 [(0, .ref hm)] := hl
  have hi_RX4 : ∀ w ∈ wsX40, w ∈ wsX4_area := fun w h => List.mem_cons_of_mem _ (List.mem_append_right _ h)
  refine lv_aload_n hx hb dX4_area_0 rfl (lv_at hl 0 rfl) ?_
  refine lv_aload_n hx hb dX4_area_1 rfl (lv_at hl 0 rfl) ?_
  refine k_get (C := RX4) (T := TX4) (N := 26) (ci := 5) (v := .int (kb dr)) (fs := [.ref hM, .int (kb dr), .int (kb cl), .int bx, .int by9, .int x, .int y, .int ot, .int tw, .ref hH, .int (nI no), .int lim, .ref hA, .int (nI nr), .ref hP, .ref hPa, .ref hR, .ref hW, .ref hMe, .ref hV, .ref hDo, .ref hS, .int (nI ni), .int ret, .long clm, .int la]) hC hG hi_RX4 0 rfl rfl 1 (by decide) (List.mem_of_getElem? (i := 1) rfl) rfl rfl dX4_area_2 ?_
  refine k_joinH (D := D) (A := A) (fun v3 : Int32 => F0 m 20 ls (.int v3 :: [.ref hm])) (fun v3 => v3 = kb (dr && cl)) ((hm, .inr (5, [.ref hM, .int (kb dr), .int (kb cl), .int bx, .int by9, .int x, .int y, .int ot, .int tw, .ref hH, .int (nI no), .int lim, .ref hA, .int (nI nr), .ref hP, .ref hPa, .ref hR, .ref hW, .ref hMe, .ref hV, .ref hDo, .ref hS, .int (nI ni), .int ret, .long clm, .int la])) :: (hM, .inl (cZ, 1681, .inl (fun j9 => kb (mk j9)))) :: (hH, .inl (cI, 10, .inl fH)) :: (hA, .inl (cI, 36, .inl fA)) :: (hP, .inl (cI, 3, .inl fP)) :: (hPa, .inl (cI, 30, .inl fPa)) :: (hR, .inl (cI, 30, .inl fR)) :: (hW, .inl (cI, 30, .inl fW)) :: (hMe, .inl (cI, 30, .inl fMe)) :: (hV, .inl (cI, 30, .inl fV)) :: (hDo, .inl (cI, 30, .inl fDo)) :: (hS, .inl (cJ, 30, .inr (.inl fS))) :: rest) ?_ (fun J2 => ?_)
  · intro v3 ev3 H locs hG
    have ev3 : v3 = kb (dr && cl) := ev3
    subst ev3
    refine lv_iconst (v := 1) hx hb dX4_area_20 (by decide) ?_
    refine lv_iconst (v := 1) hx hb dX4_area_21 (by decide) ?_
    refine k_callV (nn := 3) (C := RX4) hC hG 0 rfl (ci := 5) rfl (K_X4_goes l hfl D cI cJ cZ cO z mi hm hM hH hA hP hPa hR hW hMe hV hDo hS mk fH fA fP fPa fR fW fMe fV fDo fS dr cl bx by9 x y ot tw no lim nr ni ret clm la rest (dr && cl) true true) gX4_area_X4_goes rfl rfl (by decide +kernel) ⟨(Nat.le_of_ble_eq_true rfl), (Nat.le_of_ble_eq_true rfl)⟩ hl.1 rfl (Nat.le_of_ble_eq_true rfl) dX4_area_22 ⟨(Nat.le_of_ble_eq_true rfl), (Nat.le_of_ble_eq_true rfl)⟩ (fun _ _ _ _ _ _ hp => hp.elim) (fun v9 u9 H locs hp hG => ?_)
    obtain ⟨rfl, rfl⟩ := hp
    have hG : kG D A s ((hm, .inr (5, [.ref hM, .int (kb dr), .int (kb cl), .int bx, .int by9, .int x, .int y, .int ot, .int tw, .ref hH, .int (nI no), .int lim, .ref hA, .int (nI nr), .ref hP, .ref hPa, .ref hR, .ref hW, .ref hMe, .ref hV, .ref hDo, .ref hS, .int (nI ni), .int ret, .long clm, .int (kGo (dr && cl) true true)])) :: (hM, .inl (cZ, 1681, .inl (fun j9 => kb (mk j9)))) :: (hH, .inl (cI, 10, .inl fH)) :: (hA, .inl (cI, 36, .inl fA)) :: (hP, .inl (cI, 3, .inl fP)) :: (hPa, .inl (cI, 30, .inl fPa)) :: (hR, .inl (cI, 30, .inl fR)) :: (hW, .inl (cI, 30, .inl fW)) :: (hMe, .inl (cI, 30, .inl fMe)) :: (hV, .inl (cI, 30, .inl fV)) :: (hDo, .inl (cI, 30, .inl fDo)) :: (hS, .inl (cJ, 30, .inr (.inl fS))) :: rest) H locs := hG
    refine W.widen (k := 0) (n := 0) (Nat.le_of_ble_eq_true rfl) (Nat.le_of_ble_eq_true rfl) ?_
    refine W.eq (g2 := F0 m 25 ls [.int (kb (dr && cl))]) rfl ?_
    refine k_joinH (D := D) (A := A) (fun v6 : Int32 => F0 m 36 ls (.int v6 :: [])) (fun v6 => v6 = bif dr && cl then ((bif decide ((0 : Int32) ≤ tw) then tw else -tw) / 2) else 0) ((hm, .inr (5, [.ref hM, .int (kb dr), .int (kb cl), .int bx, .int by9, .int x, .int y, .int ot, .int tw, .ref hH, .int (nI no), .int lim, .ref hA, .int (nI nr), .ref hP, .ref hPa, .ref hR, .ref hW, .ref hMe, .ref hV, .ref hDo, .ref hS, .int (nI ni), .int ret, .long clm, .int (kGo (dr && cl) true true)])) :: (hM, .inl (cZ, 1681, .inl (fun j9 => kb (mk j9)))) :: (hH, .inl (cI, 10, .inl fH)) :: (hA, .inl (cI, 36, .inl fA)) :: (hP, .inl (cI, 3, .inl fP)) :: (hPa, .inl (cI, 30, .inl fPa)) :: (hR, .inl (cI, 30, .inl fR)) :: (hW, .inl (cI, 30, .inl fW)) :: (hMe, .inl (cI, 30, .inl fMe)) :: (hV, .inl (cI, 30, .inl fV)) :: (hDo, .inl (cI, 30, .inl fDo)) :: (hS, .inl (cJ, 30, .inr (.inl fS))) :: rest) ?_ (fun J5 => ?_)
    · intro v6 ev6 H locs hG
      have ev6 : v6 = bif dr && cl then ((bif decide ((0 : Int32) ≤ tw) then tw else -tw) / 2) else 0 := ev6
      subst ev6
      exact k_reti hC hr hG ⟨rfl, rfl⟩ (Nat.le_of_ble_eq_true rfl) (Nat.le_of_ble_eq_true rfl) dX4_area_36
    refine k_ifB_eq (tgt := 35) hx hb dX4_area_25 (by decide) (fun c_4 => ?_) (fun c_4 => ?_)
    · refine lv_iconst (v := 0) hx hb dX4_area_35 (by decide) ?_
      exact J5 0 (by rw [c_4]; first | done | rfl) _ _ hG
    · refine lv_aload_n hx hb dX4_area_28 rfl (lv_at hl 0 rfl) ?_
      refine k_callV (nn := 0) (C := RX4) hC hG 0 rfl (ci := 5) rfl (K_X4_whole l hfl D cI cJ cZ cO z mi hm hM hH hA hP hPa hR hW hMe hV hDo hS mk fH fA fP fPa fR fW fMe fV fDo fS dr cl bx by9 x y ot tw no lim nr ni ret clm (kGo (dr && cl) true true) rest ) gX4_area_X4_whole rfl rfl (by decide +kernel) ⟨(Nat.le_of_ble_eq_true rfl), (Nat.le_of_ble_eq_true rfl)⟩ hl.1 rfl (Nat.le_of_ble_eq_true rfl) dX4_area_29 ⟨(Nat.le_of_ble_eq_true rfl), (Nat.le_of_ble_eq_true rfl)⟩ (fun _ _ _ _ _ _ hp => hp.elim) (fun v9 u9 H locs hp hG => ?_)
      obtain ⟨rfl, rfl⟩ := hp
      refine W.widen (k := 0) (n := 0) (Nat.le_of_ble_eq_true rfl) (Nat.le_of_ble_eq_true rfl) ?_
      refine W.eq (g2 := F0 m 32 ls [.int ((bif decide ((0 : Int32) ≤ tw) then tw else -tw) / 2)]) rfl ?_
      refine lv_goto (tgt := 36) hx hb dX4_area_32 (by decide) ?_
      exact J5 ((bif decide ((0 : Int32) ≤ tw) then tw else -tw) / 2) (by rw [c_4]; first | done | rfl) _ _ hG
  refine k_ifB_eq (tgt := 19) hx hb dX4_area_5 (by decide) (fun c_1 => ?_) (fun c_1 => ?_)
  · refine lv_iconst (v := 0) hx hb dX4_area_19 (by decide) ?_
    exact J2 0 (by rw [c_1]; first | done | rfl) _ _ hG
  · refine lv_aload_n hx hb dX4_area_8 rfl (lv_at hl 0 rfl) ?_
    refine k_get (C := RX4) (T := TX4) (N := 26) (ci := 5) (v := .int (kb cl)) (fs := [.ref hM, .int (kb dr), .int (kb cl), .int bx, .int by9, .int x, .int y, .int ot, .int tw, .ref hH, .int (nI no), .int lim, .ref hA, .int (nI nr), .ref hP, .ref hPa, .ref hR, .ref hW, .ref hMe, .ref hV, .ref hDo, .ref hS, .int (nI ni), .int ret, .long clm, .int la]) hC hG hi_RX4 0 rfl rfl 2 (by decide) (List.mem_of_getElem? (i := 2) rfl) rfl rfl dX4_area_9 ?_
    refine k_ifB_eq (tgt := 19) hx hb dX4_area_12 (by decide) (fun c_7 => ?_) (fun c_7 => ?_)
    · refine lv_iconst (v := 0) hx hb dX4_area_19 (by decide) ?_
      exact J2 0 (by rw [c_1, c_7]; first | done | rfl) _ _ hG
    · refine lv_iconst (v := 1) hx hb dX4_area_15 (by decide) ?_
      refine lv_goto (tgt := 20) hx hb dX4_area_16 (by decide) ?_
      exact J2 1 (by rw [c_1, c_7]; first | done | rfl) _ _ hG

set_option maxHeartbeats 4000000 in
set_option maxRecDepth 100000 in
/-- areaByStrips: the same -/
theorem K_X4_areaByStrips (l : Launch) (hfl : l.stackTraces = false) (D : va_G) (cI cJ cZ cO : ClassId) (z mi : Nat) (hm : Nat) (hM : Nat) (hH : Nat) (hA : Nat) (hP : Nat) (hPa : Nat) (hR : Nat) (hW : Nat) (hMe : Nat) (hV : Nat) (hDo : Nat) (hS : Nat) (mk : Nat → Bool) (fH : Nat → Int32) (fA : Nat → Int32) (fP : Nat → Int32) (fPa : Nat → Int32) (fR : Nat → Int32) (fW : Nat → Int32) (fMe : Nat → Int32) (fV : Nat → Int32) (fDo : Nat → Int32) (fS : Nat → Int64) (dr : Bool) (cl : Bool) (bx : Int32) (by9 : Int32) (x : Int32) (y : Int32) (ot : Int32) (tw : Int32) (no : Nat) (lim : Int32) (nr : Nat) (ni : Nat) (ret : Int32) (clm : Int64) (la : Int32) (rest : va_W)  : kM l D (kTy cI cJ cZ cO) z mi yX4_areaByStrips wsX4_areaByStrips ({ frames := 2, cells := 0, slots := 0, locals := 43 } : Room) [.ref hm] ((hm, .inr (5, [.ref hM, .int (kb dr), .int (kb cl), .int bx, .int by9, .int x, .int y, .int ot, .int tw, .ref hH, .int (nI no), .int lim, .ref hA, .int (nI nr), .ref hP, .ref hPa, .ref hR, .ref hW, .ref hMe, .ref hV, .ref hDo, .ref hS, .int (nI ni), .int ret, .long clm, .int la])) :: (hM, .inl (cZ, 1681, .inl (fun j9 => kb (mk j9)))) :: (hH, .inl (cI, 10, .inl fH)) :: (hA, .inl (cI, 36, .inl fA)) :: (hP, .inl (cI, 3, .inl fP)) :: (hPa, .inl (cI, 30, .inl fPa)) :: (hR, .inl (cI, 30, .inl fR)) :: (hW, .inl (cI, 30, .inl fW)) :: (hMe, .inl (cI, 30, .inl fMe)) :: (hV, .inl (cI, 30, .inl fV)) :: (hDo, .inl (cI, 30, .inl fDo)) :: (hS, .inl (cJ, 30, .inr (.inl fS))) :: rest) (fun v u => v = some (.int (bif dr && cl then (bif decide ((0 : Int32) ≤ tw) then tw else -tw) / 2 else 0)) ∧ u = (hm, .inr (5, [.ref hM, .int (kb dr), .int (kb cl), .int bx, .int by9, .int x, .int y, .int ot, .int tw, .ref hH, .int (nI no), .int lim, .ref hA, .int (nI nr), .ref hP, .ref hPa, .ref hR, .ref hW, .ref hMe, .ref hV, .ref hDo, .ref hS, .int (nI ni), .int ret, .long clm, .int (kGo (dr && cl) true true)])) :: (hM, .inl (cZ, 1681, .inl (fun j9 => kb (mk j9)))) :: (hH, .inl (cI, 10, .inl fH)) :: (hA, .inl (cI, 36, .inl fA)) :: (hP, .inl (cI, 3, .inl fP)) :: (hPa, .inl (cI, 30, .inl fPa)) :: (hR, .inl (cI, 30, .inl fR)) :: (hW, .inl (cI, 30, .inl fW)) :: (hMe, .inl (cI, 30, .inl fMe)) :: (hV, .inl (cI, 30, .inl fV)) :: (hDo, .inl (cI, 30, .inl fDo)) :: (hS, .inl (cJ, 30, .inr (.inl fS))) :: rest) (fun _ _ => False) := by
  refine kM.of hfl (cc := cX4_areaByStrips) (maxL := 1) (ret := (some .int)) (by decide) rfl (Nat.le_of_ble_eq_true rfl) ?_
  intro p e s m args below meth c A ls hC hr hmn hG hl
  have hx := hC.x
  have hb := hC.b
  have hl : lv_has ls 1 [(0, .ref hm)] := hl
  refine lv_aload_n hx hb dX4_areaByStrips_0 rfl (lv_at hl 0 rfl) ?_
  refine k_callV (nn := 0) (C := RX4) hC hG 0 rfl (ci := 5) rfl (K_X4_area l hfl D cI cJ cZ cO z mi hm hM hH hA hP hPa hR hW hMe hV hDo hS mk fH fA fP fPa fR fW fMe fV fDo fS dr cl bx by9 x y ot tw no lim nr ni ret clm la rest ) gX4_areaByStrips_X4_area rfl rfl (by decide +kernel) ⟨(Nat.le_of_ble_eq_true rfl), (Nat.le_of_ble_eq_true rfl)⟩ hl.1 rfl (Nat.le_of_ble_eq_true rfl) dX4_areaByStrips_1 ⟨(Nat.le_of_ble_eq_true rfl), (Nat.le_of_ble_eq_true rfl)⟩ (fun _ _ _ _ _ _ hp => hp.elim) (fun v9 u9 H locs hp hG => ?_)
  obtain ⟨rfl, rfl⟩ := hp
  have hG : kG D A s ((hm, .inr (5, [.ref hM, .int (kb dr), .int (kb cl), .int bx, .int by9, .int x, .int y, .int ot, .int tw, .ref hH, .int (nI no), .int lim, .ref hA, .int (nI nr), .ref hP, .ref hPa, .ref hR, .ref hW, .ref hMe, .ref hV, .ref hDo, .ref hS, .int (nI ni), .int ret, .long clm, .int (kGo (dr && cl) true true)])) :: (hM, .inl (cZ, 1681, .inl (fun j9 => kb (mk j9)))) :: (hH, .inl (cI, 10, .inl fH)) :: (hA, .inl (cI, 36, .inl fA)) :: (hP, .inl (cI, 3, .inl fP)) :: (hPa, .inl (cI, 30, .inl fPa)) :: (hR, .inl (cI, 30, .inl fR)) :: (hW, .inl (cI, 30, .inl fW)) :: (hMe, .inl (cI, 30, .inl fMe)) :: (hV, .inl (cI, 30, .inl fV)) :: (hDo, .inl (cI, 30, .inl fDo)) :: (hS, .inl (cJ, 30, .inr (.inl fS))) :: rest) H locs := hG
  refine W.widen (k := 0) (n := 0) (Nat.le_of_ble_eq_true rfl) (Nat.le_of_ble_eq_true rfl) ?_
  refine W.eq (g2 := F0 m 4 ls [.int (bif dr && cl then (bif decide ((0 : Int32) ≤ tw) then tw else -tw) / 2 else 0)]) rfl ?_
  exact k_reti hC hr hG ⟨rfl, rfl⟩ (Nat.le_of_ble_eq_true rfl) (Nat.le_of_ble_eq_true rfl) dX4_areaByStrips_4

set_option maxHeartbeats 4000000 in
set_option maxRecDepth 100000 in
/-- opening -/
theorem K_X4_opening (l : Launch) (hfl : l.stackTraces = false) (D : va_G) (cI cJ cZ cO : ClassId) (z mi : Nat) (hm : Nat) (hM : Nat) (hH : Nat) (hA : Nat) (hP : Nat) (hPa : Nat) (hR : Nat) (hW : Nat) (hMe : Nat) (hV : Nat) (hDo : Nat) (hS : Nat) (mk : Nat → Bool) (fH : Nat → Int32) (fA : Nat → Int32) (fP : Nat → Int32) (fPa : Nat → Int32) (fR : Nat → Int32) (fW : Nat → Int32) (fMe : Nat → Int32) (fV : Nat → Int32) (fDo : Nat → Int32) (fS : Nat → Int64) (dr : Bool) (cl : Bool) (bx : Int32) (by9 : Int32) (x : Int32) (y : Int32) (ot : Int32) (tw : Int32) (no : Nat) (lim : Int32) (nr : Nat) (ni : Nat) (ret : Int32) (clm : Int64) (la : Int32) (rest : va_W) (w9 h9 : Int32) (hno : no ≤ 10) : kM l D (kTy cI cJ cZ cO) z mi yX4_opening wsX4_opening ({ frames := 1, cells := 0, slots := 0, locals := 23 } : Room) [.ref hm, .int w9, .int h9] ((hm, .inr (5, [.ref hM, .int (kb dr), .int (kb cl), .int bx, .int by9, .int x, .int y, .int ot, .int tw, .ref hH, .int (nI no), .int lim, .ref hA, .int (nI nr), .ref hP, .ref hPa, .ref hR, .ref hW, .ref hMe, .ref hV, .ref hDo, .ref hS, .int (nI ni), .int ret, .long clm, .int la])) :: (hM, .inl (cZ, 1681, .inl (fun j9 => kb (mk j9)))) :: (hH, .inl (cI, 10, .inl fH)) :: (hA, .inl (cI, 36, .inl fA)) :: (hP, .inl (cI, 3, .inl fP)) :: (hPa, .inl (cI, 30, .inl fPa)) :: (hR, .inl (cI, 30, .inl fR)) :: (hW, .inl (cI, 30, .inl fW)) :: (hMe, .inl (cI, 30, .inl fMe)) :: (hV, .inl (cI, 30, .inl fV)) :: (hDo, .inl (cI, 30, .inl fDo)) :: (hS, .inl (cJ, 30, .inr (.inl fS))) :: rest) (fun v u => v = some (.int (bif (dr && (cl && (!(decide (10 ≤ (nI no)))))) && ((kIn w9 1 40) && (kIn h9 1 40)) then nI (no + 1) else 0)) ∧ u = (hm, .inr (5, [.ref hM, .int (kb dr), .int (kb cl), .int bx, .int by9, .int x, .int y, .int ot, .int tw, .ref hH, .int (nI (bif (dr && (cl && (!(decide (10 ≤ (nI no)))))) && ((kIn w9 1 40) && (kIn h9 1 40)) then no + 1 else no)), .int lim, .ref hA, .int (nI nr), .ref hP, .ref hPa, .ref hR, .ref hW, .ref hMe, .ref hV, .ref hDo, .ref hS, .int (nI ni), .int ret, .long clm, .int (kGo ((kIn w9 1 40) && (kIn h9 1 40)) (dr && (cl && (!(decide (10 ≤ (nI no)))))) true)])) :: (hM, .inl (cZ, 1681, .inl (fun j9 => kb (mk j9)))) :: (hH, .inl (cI, 10, .inl (bif (dr && (cl && (!(decide (10 ≤ (nI no)))))) && ((kIn w9 1 40) && (kIn h9 1 40)) then upd fH no (w9 * h9) else fH))) :: (hA, .inl (cI, 36, .inl fA)) :: (hP, .inl (cI, 3, .inl fP)) :: (hPa, .inl (cI, 30, .inl fPa)) :: (hR, .inl (cI, 30, .inl fR)) :: (hW, .inl (cI, 30, .inl fW)) :: (hMe, .inl (cI, 30, .inl fMe)) :: (hV, .inl (cI, 30, .inl fV)) :: (hDo, .inl (cI, 30, .inl fDo)) :: (hS, .inl (cJ, 30, .inr (.inl fS))) :: rest) (fun _ _ => False) := by
  refine kM.of hfl (cc := cX4_opening) (maxL := 4) (ret := (some .int)) (by decide) rfl (Nat.le_of_ble_eq_true rfl) ?_
  intro p e s m args below meth c A ls hC hr hmn hG hl
  have hx := hC.x
  have hb := hC.b
  have hl : lv_has ls 4 [(0, .ref hm), (1, .int w9), (2, .int h9)] := hl
  have hi_RX4 : ∀ w ∈ wsX40, w ∈ wsX4_opening := fun w h => List.mem_cons_of_mem _ (List.mem_append_right _ h)
  refine lv_iload_n hx hb dX4_opening_0 rfl (lv_at hl 1 rfl) ?_
  refine lv_iconst (v := 1) hx hb dX4_opening_1 (by decide) ?_
  refine lv_bipush (v := 40) hx hb dX4_opening_2 (by decide) ?_
  refine k_callS (nn := 3) hC hG (K_X4_in l hfl D cI cJ cZ cO z mi ((hm, .inr (5, [.ref hM, .int (kb dr), .int (kb cl), .int bx, .int by9, .int x, .int y, .int ot, .int tw, .ref hH, .int (nI no), .int lim, .ref hA, .int (nI nr), .ref hP, .ref hPa, .ref hR, .ref hW, .ref hMe, .ref hV, .ref hDo, .ref hS, .int (nI ni), .int ret, .long clm, .int la])) :: (hM, .inl (cZ, 1681, .inl (fun j9 => kb (mk j9)))) :: (hH, .inl (cI, 10, .inl fH)) :: (hA, .inl (cI, 36, .inl fA)) :: (hP, .inl (cI, 3, .inl fP)) :: (hPa, .inl (cI, 30, .inl fPa)) :: (hR, .inl (cI, 30, .inl fR)) :: (hW, .inl (cI, 30, .inl fW)) :: (hMe, .inl (cI, 30, .inl fMe)) :: (hV, .inl (cI, 30, .inl fV)) :: (hDo, .inl (cI, 30, .inl fDo)) :: (hS, .inl (cJ, 30, .inr (.inl fS))) :: rest) w9 1 40) gX4_opening_X4_in rfl rfl (by decide +kernel) ⟨(Nat.le_of_ble_eq_true rfl), (Nat.le_of_ble_eq_true rfl)⟩ hl.1 rfl (Nat.le_of_ble_eq_true rfl) dX4_opening_4 ⟨(Nat.le_of_ble_eq_true rfl), (Nat.le_of_ble_eq_true rfl)⟩ (fun _ _ _ _ _ _ hp => hp.elim) (fun v9 u9 H locs hp hG => ?_)
  obtain ⟨rfl, rfl⟩ := hp
  refine W.widen (k := 0) (n := 0) (Nat.le_of_ble_eq_true rfl) (Nat.le_of_ble_eq_true rfl) ?_
  refine W.eq (g2 := F0 m 7 ls [.int (kb (kIn w9 1 40))]) rfl ?_
  refine k_joinH (D := D) (A := A) (fun v3 : Int32 => F0 m 25 ls (.int v3 :: [])) (fun v3 => v3 = kb ((kIn w9 1 40) && (kIn h9 1 40))) ((hm, .inr (5, [.ref hM, .int (kb dr), .int (kb cl), .int bx, .int by9, .int x, .int y, .int ot, .int tw, .ref hH, .int (nI no), .int lim, .ref hA, .int (nI nr), .ref hP, .ref hPa, .ref hR, .ref hW, .ref hMe, .ref hV, .ref hDo, .ref hS, .int (nI ni), .int ret, .long clm, .int la])) :: (hM, .inl (cZ, 1681, .inl (fun j9 => kb (mk j9)))) :: (hH, .inl (cI, 10, .inl fH)) :: (hA, .inl (cI, 36, .inl fA)) :: (hP, .inl (cI, 3, .inl fP)) :: (hPa, .inl (cI, 30, .inl fPa)) :: (hR, .inl (cI, 30, .inl fR)) :: (hW, .inl (cI, 30, .inl fW)) :: (hMe, .inl (cI, 30, .inl fMe)) :: (hV, .inl (cI, 30, .inl fV)) :: (hDo, .inl (cI, 30, .inl fDo)) :: (hS, .inl (cJ, 30, .inr (.inl fS))) :: rest) ?_ (fun J2 => ?_)
  · intro v3 ev3 H locs hG
    have ev3 : v3 = kb ((kIn w9 1 40) && (kIn h9 1 40)) := ev3
    subst ev3
    refine lv_istore_n (lv' := [(3, .int (kb ((kIn w9 1 40) && (kIn h9 1 40)))), (0, .ref hm), (1, .int w9), (2, .int h9)]) hx hb dX4_opening_25 rfl hl (by decide) rfl (fun ls hl => ?_)
    refine lv_aload_n hx hb dX4_opening_26 rfl (lv_at hl 1 rfl) ?_
    refine lv_iload_n hx hb dX4_opening_27 rfl (lv_at hl 0 rfl) ?_
    refine lv_aload_n hx hb dX4_opening_28 rfl (lv_at hl 1 rfl) ?_
    refine k_get (C := RX4) (T := TX4) (N := 26) (ci := 5) (v := .int (kb dr)) (fs := [.ref hM, .int (kb dr), .int (kb cl), .int bx, .int by9, .int x, .int y, .int ot, .int tw, .ref hH, .int (nI no), .int lim, .ref hA, .int (nI nr), .ref hP, .ref hPa, .ref hR, .ref hW, .ref hMe, .ref hV, .ref hDo, .ref hS, .int (nI ni), .int ret, .long clm, .int la]) hC hG hi_RX4 0 rfl rfl 1 (by decide) (List.mem_of_getElem? (i := 1) rfl) rfl rfl dX4_opening_29 ?_
    refine k_joinH (D := D) (A := A) (fun v6 : Int32 => F0 m 56 ls (.int v6 :: [.int (kb ((kIn w9 1 40) && (kIn h9 1 40))), .ref hm])) (fun v6 => v6 = kb (dr && (cl && (!(decide (10 ≤ (nI no))))))) ((hm, .inr (5, [.ref hM, .int (kb dr), .int (kb cl), .int bx, .int by9, .int x, .int y, .int ot, .int tw, .ref hH, .int (nI no), .int lim, .ref hA, .int (nI nr), .ref hP, .ref hPa, .ref hR, .ref hW, .ref hMe, .ref hV, .ref hDo, .ref hS, .int (nI ni), .int ret, .long clm, .int la])) :: (hM, .inl (cZ, 1681, .inl (fun j9 => kb (mk j9)))) :: (hH, .inl (cI, 10, .inl fH)) :: (hA, .inl (cI, 36, .inl fA)) :: (hP, .inl (cI, 3, .inl fP)) :: (hPa, .inl (cI, 30, .inl fPa)) :: (hR, .inl (cI, 30, .inl fR)) :: (hW, .inl (cI, 30, .inl fW)) :: (hMe, .inl (cI, 30, .inl fMe)) :: (hV, .inl (cI, 30, .inl fV)) :: (hDo, .inl (cI, 30, .inl fDo)) :: (hS, .inl (cJ, 30, .inr (.inl fS))) :: rest) ?_ (fun J5 => ?_)
    · intro v6 ev6 H locs hG
      have ev6 : v6 = kb (dr && (cl && (!(decide (10 ≤ (nI no)))))) := ev6
      subst ev6
      refine lv_iconst (v := 1) hx hb dX4_opening_56 (by decide) ?_
      refine k_callV (nn := 3) (C := RX4) hC hG 0 rfl (ci := 5) rfl (K_X4_goes l hfl D cI cJ cZ cO z mi hm hM hH hA hP hPa hR hW hMe hV hDo hS mk fH fA fP fPa fR fW fMe fV fDo fS dr cl bx by9 x y ot tw no lim nr ni ret clm la rest ((kIn w9 1 40) && (kIn h9 1 40)) (dr && (cl && (!(decide (10 ≤ (nI no)))))) true) gX4_opening_X4_goes rfl rfl (by decide +kernel) ⟨(Nat.le_of_ble_eq_true rfl), (Nat.le_of_ble_eq_true rfl)⟩ hl.1 rfl (Nat.le_of_ble_eq_true rfl) dX4_opening_57 ⟨(Nat.le_of_ble_eq_true rfl), (Nat.le_of_ble_eq_true rfl)⟩ (fun _ _ _ _ _ _ hp => hp.elim) (fun v9 u9 H locs hp hG => ?_)
      obtain ⟨rfl, rfl⟩ := hp
      have hG : kG D A s ((hm, .inr (5, [.ref hM, .int (kb dr), .int (kb cl), .int bx, .int by9, .int x, .int y, .int ot, .int tw, .ref hH, .int (nI no), .int lim, .ref hA, .int (nI nr), .ref hP, .ref hPa, .ref hR, .ref hW, .ref hMe, .ref hV, .ref hDo, .ref hS, .int (nI ni), .int ret, .long clm, .int (kGo ((kIn w9 1 40) && (kIn h9 1 40)) (dr && (cl && (!(decide (10 ≤ (nI no)))))) true)])) :: (hM, .inl (cZ, 1681, .inl (fun j9 => kb (mk j9)))) :: (hH, .inl (cI, 10, .inl fH)) :: (hA, .inl (cI, 36, .inl fA)) :: (hP, .inl (cI, 3, .inl fP)) :: (hPa, .inl (cI, 30, .inl fPa)) :: (hR, .inl (cI, 30, .inl fR)) :: (hW, .inl (cI, 30, .inl fW)) :: (hMe, .inl (cI, 30, .inl fMe)) :: (hV, .inl (cI, 30, .inl fV)) :: (hDo, .inl (cI, 30, .inl fDo)) :: (hS, .inl (cJ, 30, .inr (.inl fS))) :: rest) H locs := hG
      refine W.widen (k := 0) (n := 0) (Nat.le_of_ble_eq_true rfl) (Nat.le_of_ble_eq_true rfl) ?_
      refine W.eq (g2 := F0 m 60 ls [.int (kb ((dr && (cl && (!(decide (10 ≤ (nI no)))))) && ((kIn w9 1 40) && (kIn h9 1 40))))]) rfl ?_
      refine k_ifB_ne (tgt := 65) hx hb dX4_opening_60 (by decide) (fun c_7 => ?_) (fun c_7 => ?_)
      · have hno1 : no < 10 := kLt 10 rfl (by decide) (by omega) (k_notf (k_andr (k_andr (k_andl c_7))))
        refine lv_aload_n hx hb dX4_opening_65 rfl (lv_at hl 1 rfl) ?_
        refine k_get (C := RX4) (T := TX4) (N := 26) (ci := 5) (v := .ref hH) (fs := [.ref hM, .int (kb dr), .int (kb cl), .int bx, .int by9, .int x, .int y, .int ot, .int tw, .ref hH, .int (nI no), .int lim, .ref hA, .int (nI nr), .ref hP, .ref hPa, .ref hR, .ref hW, .ref hMe, .ref hV, .ref hDo, .ref hS, .int (nI ni), .int ret, .long clm, .int (kGo ((kIn w9 1 40) && (kIn h9 1 40)) (dr && (cl && (!(decide (10 ≤ (nI no)))))) true)]) hC hG hi_RX4 0 rfl rfl 9 (by decide) (List.mem_of_getElem? (i := 4) rfl) rfl rfl dX4_opening_66 ?_
        refine lv_aload_n hx hb dX4_opening_69 rfl (lv_at hl 1 rfl) ?_
        refine k_get (C := RX4) (T := TX4) (N := 26) (ci := 5) (v := .int (nI no)) (fs := [.ref hM, .int (kb dr), .int (kb cl), .int bx, .int by9, .int x, .int y, .int ot, .int tw, .ref hH, .int (nI no), .int lim, .ref hA, .int (nI nr), .ref hP, .ref hPa, .ref hR, .ref hW, .ref hMe, .ref hV, .ref hDo, .ref hS, .int (nI ni), .int ret, .long clm, .int (kGo ((kIn w9 1 40) && (kIn h9 1 40)) (dr && (cl && (!(decide (10 ≤ (nI no)))))) true)]) hC hG hi_RX4 0 rfl rfl 10 (by decide) (List.mem_of_getElem? (i := 3) rfl) rfl rfl dX4_opening_70 ?_
        refine lv_iload_n hx hb dX4_opening_73 rfl (lv_at hl 2 rfl) ?_
        refine lv_iload_n hx hb dX4_opening_74 rfl (lv_at hl 3 rfl) ?_
        refine lv_imul hx hb dX4_opening_75 ?_
        refine va_iast (f := fH) (x := (w9 * h9)) hx hb hC.K hG.1 hG.2.1 hG.2.2 2 0 rfl rfl (vp_in_nI (by omega) (by decide)) dX4_opening_76 (fun H locs h1 h2 h3 => ?_)
        have hG : kG D A s ((hm, .inr (5, [.ref hM, .int (kb dr), .int (kb cl), .int bx, .int by9, .int x, .int y, .int ot, .int tw, .ref hH, .int (nI no), .int lim, .ref hA, .int (nI nr), .ref hP, .ref hPa, .ref hR, .ref hW, .ref hMe, .ref hV, .ref hDo, .ref hS, .int (nI ni), .int ret, .long clm, .int (kGo ((kIn w9 1 40) && (kIn h9 1 40)) (dr && (cl && (!(decide (10 ≤ (nI no)))))) true)])) :: (hM, .inl (cZ, 1681, .inl (fun j9 => kb (mk j9)))) :: (hH, .inl (cI, 10, .inl (upd fH (nI no).toNatClampNeg (w9 * h9)))) :: (hA, .inl (cI, 36, .inl fA)) :: (hP, .inl (cI, 3, .inl fP)) :: (hPa, .inl (cI, 30, .inl fPa)) :: (hR, .inl (cI, 30, .inl fR)) :: (hW, .inl (cI, 30, .inl fW)) :: (hMe, .inl (cI, 30, .inl fMe)) :: (hV, .inl (cI, 30, .inl fV)) :: (hDo, .inl (cI, 30, .inl fDo)) :: (hS, .inl (cJ, 30, .inr (.inl fS))) :: rest) H locs := ⟨h1, h2, h3⟩
        rw [nI_clamp (n := no) (by omega)] at hG
        refine lv_aload_n hx hb dX4_opening_77 rfl (lv_at hl 1 rfl) ?_
        refine lv_dup hx hb dX4_opening_78 rfl ?_
        refine k_get (C := RX4) (T := TX4) (N := 26) (ci := 5) (v := .int (nI no)) (fs := [.ref hM, .int (kb dr), .int (kb cl), .int bx, .int by9, .int x, .int y, .int ot, .int tw, .ref hH, .int (nI no), .int lim, .ref hA, .int (nI nr), .ref hP, .ref hPa, .ref hR, .ref hW, .ref hMe, .ref hV, .ref hDo, .ref hS, .int (nI ni), .int ret, .long clm, .int (kGo ((kIn w9 1 40) && (kIn h9 1 40)) (dr && (cl && (!(decide (10 ≤ (nI no)))))) true)]) hC hG hi_RX4 0 rfl rfl 10 (by decide) (List.mem_of_getElem? (i := 3) rfl) rfl rfl dX4_opening_79 ?_
        refine lv_iconst (v := 1) hx hb dX4_opening_82 (by decide) ?_
        refine lv_iadd hx hb dX4_opening_83 ?_
        refine k_topi (y := nI (no + 1)) (nI_1 no) ?_
        refine k_put (C := RX4) (T := TX4) (N := 26) (ci := 5) (v := .int (nI (no + 1))) (fs := [.ref hM, .int (kb dr), .int (kb cl), .int bx, .int by9, .int x, .int y, .int ot, .int tw, .ref hH, .int (nI no), .int lim, .ref hA, .int (nI nr), .ref hP, .ref hPa, .ref hR, .ref hW, .ref hMe, .ref hV, .ref hDo, .ref hS, .int (nI ni), .int ret, .long clm, .int (kGo ((kIn w9 1 40) && (kIn h9 1 40)) (dr && (cl && (!(decide (10 ≤ (nI no)))))) true)]) hC hG hi_RX4 tyX4_ok nmX4 0 rfl rfl 10 (by decide) (List.mem_of_getElem? (i := 3) rfl) rfl rfl rfl rfl (Nat.le_of_ble_eq_true rfl) dX4_opening_84 (fun H locs hG => ?_)
        have hG : kG D A s ((hm, .inr (5, [.ref hM, .int (kb dr), .int (kb cl), .int bx, .int by9, .int x, .int y, .int ot, .int tw, .ref hH, .int (nI (no + 1)), .int lim, .ref hA, .int (nI nr), .ref hP, .ref hPa, .ref hR, .ref hW, .ref hMe, .ref hV, .ref hDo, .ref hS, .int (nI ni), .int ret, .long clm, .int (kGo ((kIn w9 1 40) && (kIn h9 1 40)) (dr && (cl && (!(decide (10 ≤ (nI no)))))) true)])) :: (hM, .inl (cZ, 1681, .inl (fun j9 => kb (mk j9)))) :: (hH, .inl (cI, 10, .inl (upd fH no (w9 * h9)))) :: (hA, .inl (cI, 36, .inl fA)) :: (hP, .inl (cI, 3, .inl fP)) :: (hPa, .inl (cI, 30, .inl fPa)) :: (hR, .inl (cI, 30, .inl fR)) :: (hW, .inl (cI, 30, .inl fW)) :: (hMe, .inl (cI, 30, .inl fMe)) :: (hV, .inl (cI, 30, .inl fV)) :: (hDo, .inl (cI, 30, .inl fDo)) :: (hS, .inl (cJ, 30, .inr (.inl fS))) :: rest) H locs := hG
        refine lv_aload_n hx hb dX4_opening_87 rfl (lv_at hl 1 rfl) ?_
        refine k_get (C := RX4) (T := TX4) (N := 26) (ci := 5) (v := .int (nI (no + 1))) (fs := [.ref hM, .int (kb dr), .int (kb cl), .int bx, .int by9, .int x, .int y, .int ot, .int tw, .ref hH, .int (nI (no + 1)), .int lim, .ref hA, .int (nI nr), .ref hP, .ref hPa, .ref hR, .ref hW, .ref hMe, .ref hV, .ref hDo, .ref hS, .int (nI ni), .int ret, .long clm, .int (kGo ((kIn w9 1 40) && (kIn h9 1 40)) (dr && (cl && (!(decide (10 ≤ (nI no)))))) true)]) hC hG hi_RX4 0 rfl rfl 10 (by decide) (List.mem_of_getElem? (i := 3) rfl) rfl rfl dX4_opening_88 ?_
        exact k_reti hC hr hG ⟨by rw [c_7]; first | done | rfl, by rw [c_7]; first | done | rfl⟩ (Nat.le_of_ble_eq_true rfl) (Nat.le_of_ble_eq_true rfl) dX4_opening_91
      · refine lv_iconst (v := 0) hx hb dX4_opening_63 (by decide) ?_
        exact k_reti hC hr hG ⟨by rw [c_7]; first | done | rfl, by rw [c_7]; first | done | rfl⟩ (Nat.le_of_ble_eq_true rfl) (Nat.le_of_ble_eq_true rfl) dX4_opening_64
    refine k_ifB_eq (tgt := 55) hx hb dX4_opening_32 (by decide) (fun c_4 => ?_) (fun c_4 => ?_)
    · refine lv_iconst (v := 0) hx hb dX4_opening_55 (by decide) ?_
      exact J5 0 (by rw [c_4]; first | done | rfl) _ _ hG
    · refine lv_aload_n hx hb dX4_opening_35 rfl (lv_at hl 1 rfl) ?_
      refine k_get (C := RX4) (T := TX4) (N := 26) (ci := 5) (v := .int (kb cl)) (fs := [.ref hM, .int (kb dr), .int (kb cl), .int bx, .int by9, .int x, .int y, .int ot, .int tw, .ref hH, .int (nI no), .int lim, .ref hA, .int (nI nr), .ref hP, .ref hPa, .ref hR, .ref hW, .ref hMe, .ref hV, .ref hDo, .ref hS, .int (nI ni), .int ret, .long clm, .int la]) hC hG hi_RX4 0 rfl rfl 2 (by decide) (List.mem_of_getElem? (i := 2) rfl) rfl rfl dX4_opening_36 ?_
      refine k_ifB_eq (tgt := 55) hx hb dX4_opening_39 (by decide) (fun c_8 => ?_) (fun c_8 => ?_)
      · refine lv_iconst (v := 0) hx hb dX4_opening_55 (by decide) ?_
        exact J5 0 (by rw [c_4, c_8]; first | done | rfl) _ _ hG
      · refine lv_aload_n hx hb dX4_opening_42 rfl (lv_at hl 1 rfl) ?_
        refine k_get (C := RX4) (T := TX4) (N := 26) (ci := 5) (v := .int (nI no)) (fs := [.ref hM, .int (kb dr), .int (kb cl), .int bx, .int by9, .int x, .int y, .int ot, .int tw, .ref hH, .int (nI no), .int lim, .ref hA, .int (nI nr), .ref hP, .ref hPa, .ref hR, .ref hW, .ref hMe, .ref hV, .ref hDo, .ref hS, .int (nI ni), .int ret, .long clm, .int la]) hC hG hi_RX4 0 rfl rfl 10 (by decide) (List.mem_of_getElem? (i := 3) rfl) rfl rfl dX4_opening_43 ?_
        refine lv_bipush (v := 10) hx hb dX4_opening_46 (by decide) ?_
        refine k_icmp_ge (tgt := 55) hx hb dX4_opening_48 (by decide) (fun c_9 => ?_) (fun c_9 => ?_)
        · refine lv_iconst (v := 0) hx hb dX4_opening_55 (by decide) ?_
          exact J5 0 (by rw [c_4, c_8, c_9]; first | done | rfl) _ _ hG
        · refine lv_iconst (v := 1) hx hb dX4_opening_51 (by decide) ?_
          refine lv_goto (tgt := 56) hx hb dX4_opening_52 (by decide) ?_
          exact J5 1 (by rw [c_4, c_8, c_9]; first | done | rfl) _ _ hG
  refine k_ifB_eq (tgt := 24) hx hb dX4_opening_7 (by decide) (fun c_1 => ?_) (fun c_1 => ?_)
  · refine lv_iconst (v := 0) hx hb dX4_opening_24 (by decide) ?_
    exact J2 0 (by rw [c_1]; first | done | rfl) _ _ hG
  · refine lv_iload_n hx hb dX4_opening_10 rfl (lv_at hl 2 rfl) ?_
    refine lv_iconst (v := 1) hx hb dX4_opening_11 (by decide) ?_
    refine lv_bipush (v := 40) hx hb dX4_opening_12 (by decide) ?_
    refine k_callS (nn := 3) hC hG (K_X4_in l hfl D cI cJ cZ cO z mi ((hm, .inr (5, [.ref hM, .int (kb dr), .int (kb cl), .int bx, .int by9, .int x, .int y, .int ot, .int tw, .ref hH, .int (nI no), .int lim, .ref hA, .int (nI nr), .ref hP, .ref hPa, .ref hR, .ref hW, .ref hMe, .ref hV, .ref hDo, .ref hS, .int (nI ni), .int ret, .long clm, .int la])) :: (hM, .inl (cZ, 1681, .inl (fun j9 => kb (mk j9)))) :: (hH, .inl (cI, 10, .inl fH)) :: (hA, .inl (cI, 36, .inl fA)) :: (hP, .inl (cI, 3, .inl fP)) :: (hPa, .inl (cI, 30, .inl fPa)) :: (hR, .inl (cI, 30, .inl fR)) :: (hW, .inl (cI, 30, .inl fW)) :: (hMe, .inl (cI, 30, .inl fMe)) :: (hV, .inl (cI, 30, .inl fV)) :: (hDo, .inl (cI, 30, .inl fDo)) :: (hS, .inl (cJ, 30, .inr (.inl fS))) :: rest) h9 1 40) gX4_opening_X4_in rfl rfl (by decide +kernel) ⟨(Nat.le_of_ble_eq_true rfl), (Nat.le_of_ble_eq_true rfl)⟩ hl.1 rfl (Nat.le_of_ble_eq_true rfl) dX4_opening_14 ⟨(Nat.le_of_ble_eq_true rfl), (Nat.le_of_ble_eq_true rfl)⟩ (fun _ _ _ _ _ _ hp => hp.elim) (fun v9 u9 H locs hp hG => ?_)
    obtain ⟨rfl, rfl⟩ := hp
    refine W.widen (k := 0) (n := 0) (Nat.le_of_ble_eq_true rfl) (Nat.le_of_ble_eq_true rfl) ?_
    refine W.eq (g2 := F0 m 17 ls [.int (kb (kIn h9 1 40))]) rfl ?_
    refine k_ifB_eq (tgt := 24) hx hb dX4_opening_17 (by decide) (fun c_10 => ?_) (fun c_10 => ?_)
    · refine lv_iconst (v := 0) hx hb dX4_opening_24 (by decide) ?_
      exact J2 0 (by rw [c_1, c_10]; first | done | rfl) _ _ hG
    · refine lv_iconst (v := 1) hx hb dX4_opening_20 (by decide) ?_
      refine lv_goto (tgt := 25) hx hb dX4_opening_21 (by decide) ?_
      exact J2 1 (by rw [c_1, c_10]; first | done | rfl) _ _ hG

