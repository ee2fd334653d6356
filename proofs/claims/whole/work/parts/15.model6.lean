set_option maxHeartbeats 4000000 in
set_option maxRecDepth 100000 in
/-- sum -/
theorem K_X4_sum (l : Launch) (hfl : l.stackTraces = false) (D : va_G) (cI cJ cZ cO : ClassId) (z mi : Nat) (hm : Nat) (hM : Nat) (hH : Nat) (hA : Nat) (hP : Nat) (hPa : Nat) (hR : Nat) (hW : Nat) (hMe : Nat) (hV : Nat) (hDo : Nat) (hS : Nat) (mk : Nat → Bool) (fH : Nat → Int32) (fA : Nat → Int32) (fP : Nat → Int32) (fPa : Nat → Int32) (fR : Nat → Int32) (fW : Nat → Int32) (fMe : Nat → Int32) (fV : Nat → Int32) (fDo : Nat → Int32) (fS : Nat → Int64) (dr : Bool) (cl : Bool) (bx : Int32) (by9 : Int32) (x : Int32) (y : Int32) (ot : Int32) (tw : Int32) (no : Nat) (lim : Int32) (nr : Nat) (ni : Nat) (ret : Int32) (clm : Int64) (la : Int32) (rest : va_W) (q : Int32) (hni : ni ≤ 30) (hit : kIt fPa fR ni) : kM l D (kTy cI cJ cZ cO) z mi yX4_sum wsX4_sum ({ frames := 2, cells := 0, slots := 0, locals := 44 } : Room) [.ref hm, .int q] ((hm, .inr (5, [.ref hM, .int (kb dr), .int (kb cl), .int bx, .int by9, .int x, .int y, .int ot, .int tw, .ref hH, .int (nI no), .int lim, .ref hA, .int (nI nr), .ref hP, .ref hPa, .ref hR, .ref hW, .ref hMe, .ref hV, .ref hDo, .ref hS, .int (nI ni), .int ret, .long clm, .int la])) :: (hM, .inl (cZ, 1681, .inl (fun j9 => kb (mk j9)))) :: (hH, .inl (cI, 10, .inl fH)) :: (hA, .inl (cI, 36, .inl fA)) :: (hP, .inl (cI, 3, .inl fP)) :: (hPa, .inl (cI, 30, .inl fPa)) :: (hR, .inl (cI, 30, .inl fR)) :: (hW, .inl (cI, 30, .inl fW)) :: (hMe, .inl (cI, 30, .inl fMe)) :: (hV, .inl (cI, 30, .inl fV)) :: (hDo, .inl (cI, 30, .inl fDo)) :: (hS, .inl (cJ, 30, .inr (.inl fS))) :: rest) (fun v u => v = some (.long (bif kIn q 0 (nI ni - 1) then (kFl fPa fR fW fMe fV fA fP ni fS) q.toNatClampNeg else 0)) ∧ u = (hm, .inr (5, [.ref hM, .int (kb dr), .int (kb cl), .int bx, .int by9, .int x, .int y, .int ot, .int tw, .ref hH, .int (nI no), .int lim, .ref hA, .int (nI nr), .ref hP, .ref hPa, .ref hR, .ref hW, .ref hMe, .ref hV, .ref hDo, .ref hS, .int (nI ni), .int ret, .long clm, .int (kGo (kIn q 0 (nI ni - 1)) true true)])) :: (hM, .inl (cZ, 1681, .inl (fun j9 => kb (mk j9)))) :: (hH, .inl (cI, 10, .inl fH)) :: (hA, .inl (cI, 36, .inl fA)) :: (hP, .inl (cI, 3, .inl fP)) :: (hPa, .inl (cI, 30, .inl fPa)) :: (hR, .inl (cI, 30, .inl fR)) :: (hW, .inl (cI, 30, .inl fW)) :: (hMe, .inl (cI, 30, .inl fMe)) :: (hV, .inl (cI, 30, .inl fV)) :: (hDo, .inl (cI, 30, .inl fDo)) :: (hS, .inl (cJ, 30, .inr (.inl (bif kIn q 0 (nI ni - 1) then kFl fPa fR fW fMe fV fA fP ni fS else fS)))) :: rest) (fun _ _ => False) := by
  refine kM.of hfl (cc := cX4_sum) (maxL := 2) (ret := (some .long)) (by decide) rfl (Nat.le_of_ble_eq_true rfl) ?_
  intro p e s m args below meth c A ls hC hr hmn hG hl
  have hx := hC.x
  have hb := hC.b
  have hl : lv_has ls 2 [(0, .ref hm), (1, .int q)] := hl
  have hi_RX4 : ∀ w ∈ wsX40, w ∈ wsX4_sum := fun w h => List.mem_cons_of_mem _ (List.mem_append_right _ h)
  refine lv_aload_n hx hb dX4_sum_0 rfl (lv_at hl 0 rfl) ?_
  refine lv_aload_n hx hb dX4_sum_1 rfl (lv_at hl 0 rfl) ?_
  refine lv_iload_n hx hb dX4_sum_2 rfl (lv_at hl 1 rfl) ?_
  refine k_callV (nn := 1) (C := RX4) hC hG 0 rfl (ci := 5) rfl (K_X4_isItem l hfl D cI cJ cZ cO z mi hm hM hH hA hP hPa hR hW hMe hV hDo hS mk fH fA fP fPa fR fW fMe fV fDo fS dr cl bx by9 x y ot tw no lim nr ni ret clm la rest q) gX4_sum_X4_isItem rfl rfl (by decide +kernel) ⟨(Nat.le_of_ble_eq_true rfl), (Nat.le_of_ble_eq_true rfl)⟩ hl.1 rfl (Nat.le_of_ble_eq_true rfl) dX4_sum_3 ⟨(Nat.le_of_ble_eq_true rfl), (Nat.le_of_ble_eq_true rfl)⟩ (fun _ _ _ _ _ _ hp => hp.elim) (fun v9 u9 H locs hp hG => ?_)
  obtain ⟨rfl, rfl⟩ := hp
  refine W.widen (k := 0) (n := 0) (Nat.le_of_ble_eq_true rfl) (Nat.le_of_ble_eq_true rfl) ?_
  refine W.eq (g2 := F0 m 6 ls [.int (kb (kIn q 0 (nI ni - 1))), .ref hm]) rfl ?_
  refine lv_iconst (v := 1) hx hb dX4_sum_6 (by decide) ?_
  refine lv_iconst (v := 1) hx hb dX4_sum_7 (by decide) ?_
  refine k_callV (nn := 3) (C := RX4) hC hG 0 rfl (ci := 5) rfl (K_X4_goes l hfl D cI cJ cZ cO z mi hm hM hH hA hP hPa hR hW hMe hV hDo hS mk fH fA fP fPa fR fW fMe fV fDo fS dr cl bx by9 x y ot tw no lim nr ni ret clm la rest (kIn q 0 (nI ni - 1)) true true) gX4_sum_X4_goes rfl rfl (by decide +kernel) ⟨(Nat.le_of_ble_eq_true rfl), (Nat.le_of_ble_eq_true rfl)⟩ hl.1 rfl (Nat.le_of_ble_eq_true rfl) dX4_sum_8 ⟨(Nat.le_of_ble_eq_true rfl), (Nat.le_of_ble_eq_true rfl)⟩ (fun _ _ _ _ _ _ hp => hp.elim) (fun v9 u9 H locs hp hG => ?_)
  obtain ⟨rfl, rfl⟩ := hp
  have hG : kG D A s ((hm, .inr (5, [.ref hM, .int (kb dr), .int (kb cl), .int bx, .int by9, .int x, .int y, .int ot, .int tw, .ref hH, .int (nI no), .int lim, .ref hA, .int (nI nr), .ref hP, .ref hPa, .ref hR, .ref hW, .ref hMe, .ref hV, .ref hDo, .ref hS, .int (nI ni), .int ret, .long clm, .int (kGo (kIn q 0 (nI ni - 1)) true true)])) :: (hM, .inl (cZ, 1681, .inl (fun j9 => kb (mk j9)))) :: (hH, .inl (cI, 10, .inl fH)) :: (hA, .inl (cI, 36, .inl fA)) :: (hP, .inl (cI, 3, .inl fP)) :: (hPa, .inl (cI, 30, .inl fPa)) :: (hR, .inl (cI, 30, .inl fR)) :: (hW, .inl (cI, 30, .inl fW)) :: (hMe, .inl (cI, 30, .inl fMe)) :: (hV, .inl (cI, 30, .inl fV)) :: (hDo, .inl (cI, 30, .inl fDo)) :: (hS, .inl (cJ, 30, .inr (.inl fS))) :: rest) H locs := hG
  refine W.widen (k := 0) (n := 0) (Nat.le_of_ble_eq_true rfl) (Nat.le_of_ble_eq_true rfl) ?_
  refine W.eq (g2 := F0 m 11 ls [.int (kb (kIn q 0 (nI ni - 1)))]) rfl ?_
  refine k_ifB_ne (tgt := 16) hx hb dX4_sum_11 (by decide) (fun c_1 => ?_) (fun c_1 => ?_)
  · refine lv_aload_n hx hb dX4_sum_16 rfl (lv_at hl 0 rfl) ?_
    refine k_callV (nn := 0) (C := RX4) hC hG 0 rfl (ci := 5) rfl (K_X4_fills l hfl D cI cJ cZ cO z mi hm hM hH hA hP hPa hR hW hMe hV hDo hS mk fH fA fP fPa fR fW fMe fV fDo fS dr cl bx by9 x y ot tw no lim nr ni ret clm (kGo (kIn q 0 (nI ni - 1)) true true) rest (by omega) hit) gX4_sum_X4_fills rfl rfl (by decide +kernel) ⟨(Nat.le_of_ble_eq_true rfl), (Nat.le_of_ble_eq_true rfl)⟩ hl.1 rfl (Nat.le_of_ble_eq_true rfl) dX4_sum_17 ⟨(Nat.le_of_ble_eq_true rfl), (Nat.le_of_ble_eq_true rfl)⟩ (fun _ _ _ _ _ _ hp => hp.elim) (fun v9 u9 H locs hp hG => ?_)
    obtain ⟨rfl, rfl⟩ := hp
    have hG : kG D A s ((hm, .inr (5, [.ref hM, .int (kb dr), .int (kb cl), .int bx, .int by9, .int x, .int y, .int ot, .int tw, .ref hH, .int (nI no), .int lim, .ref hA, .int (nI nr), .ref hP, .ref hPa, .ref hR, .ref hW, .ref hMe, .ref hV, .ref hDo, .ref hS, .int (nI ni), .int ret, .long clm, .int (kGo (kIn q 0 (nI ni - 1)) true true)])) :: (hM, .inl (cZ, 1681, .inl (fun j9 => kb (mk j9)))) :: (hH, .inl (cI, 10, .inl fH)) :: (hA, .inl (cI, 36, .inl fA)) :: (hP, .inl (cI, 3, .inl fP)) :: (hPa, .inl (cI, 30, .inl fPa)) :: (hR, .inl (cI, 30, .inl fR)) :: (hW, .inl (cI, 30, .inl fW)) :: (hMe, .inl (cI, 30, .inl fMe)) :: (hV, .inl (cI, 30, .inl fV)) :: (hDo, .inl (cI, 30, .inl fDo)) :: (hS, .inl (cJ, 30, .inr (.inl (kFl fPa fR fW fMe fV fA fP ni fS)))) :: rest) H locs := hG
    refine W.widen (k := 0) (n := 0) (Nat.le_of_ble_eq_true rfl) (Nat.le_of_ble_eq_true rfl) ?_
    refine W.eq (g2 := F0 m 20 ls []) rfl ?_
    refine lv_aload_n hx hb dX4_sum_20 rfl (lv_at hl 0 rfl) ?_
    refine k_get (C := RX4) (T := TX4) (N := 26) (ci := 5) (v := .ref hS) (fs := [.ref hM, .int (kb dr), .int (kb cl), .int bx, .int by9, .int x, .int y, .int ot, .int tw, .ref hH, .int (nI no), .int lim, .ref hA, .int (nI nr), .ref hP, .ref hPa, .ref hR, .ref hW, .ref hMe, .ref hV, .ref hDo, .ref hS, .int (nI ni), .int ret, .long clm, .int (kGo (kIn q 0 (nI ni - 1)) true true)]) hC hG hi_RX4 0 rfl rfl 21 (by decide) (List.mem_of_getElem? (i := 1) rfl) rfl rfl dX4_sum_21 ?_
    refine lv_iload_n hx hb dX4_sum_24 rfl (lv_at hl 1 rfl) ?_
    refine va_lald (f := (kFl fPa fR fW fMe fV fA fP ni fS)) hx hb hC.K hG.1 11 1 rfl rfl (kIn_in c_1 (by omega) (by decide)) dX4_sum_25 ?_
    exact k_retl hC hr hG ⟨by rw [c_1]; first | done | rfl, by rw [c_1]; first | done | rfl⟩ (Nat.le_of_ble_eq_true rfl) (Nat.le_of_ble_eq_true rfl) dX4_sum_26
  · refine lv_lconst (v := 0) hx hb dX4_sum_14 (by decide) ?_
    exact k_retl hC hr hG ⟨by rw [c_1]; first | done | rfl, by rw [c_1]; first | done | rfl⟩ (Nat.le_of_ble_eq_true rfl) (Nat.le_of_ble_eq_true rfl) dX4_sum_15

set_option maxHeartbeats 4000000 in
set_option maxRecDepth 100000 in
/-- total -/
theorem K_X4_total (l : Launch) (hfl : l.stackTraces = false) (D : va_G) (cI cJ cZ cO : ClassId) (z mi : Nat) (hm : Nat) (hM : Nat) (hH : Nat) (hA : Nat) (hP : Nat) (hPa : Nat) (hR : Nat) (hW : Nat) (hMe : Nat) (hV : Nat) (hDo : Nat) (hS : Nat) (mk : Nat → Bool) (fH : Nat → Int32) (fA : Nat → Int32) (fP : Nat → Int32) (fPa : Nat → Int32) (fR : Nat → Int32) (fW : Nat → Int32) (fMe : Nat → Int32) (fV : Nat → Int32) (fDo : Nat → Int32) (fS : Nat → Int64) (dr : Bool) (cl : Bool) (bx : Int32) (by9 : Int32) (x : Int32) (y : Int32) (ot : Int32) (tw : Int32) (no : Nat) (lim : Int32) (nr : Nat) (ni : Nat) (ret : Int32) (clm : Int64) (la : Int32) (rest : va_W) (hni : ni ≤ 30) (hit : kIt fPa fR ni) : kM l D (kTy cI cJ cZ cO) z mi yX4_total wsX4_total ({ frames := 2, cells := 0, slots := 0, locals := 44 } : Room) [.ref hm] ((hm, .inr (5, [.ref hM, .int (kb dr), .int (kb cl), .int bx, .int by9, .int x, .int y, .int ot, .int tw, .ref hH, .int (nI no), .int lim, .ref hA, .int (nI nr), .ref hP, .ref hPa, .ref hR, .ref hW, .ref hMe, .ref hV, .ref hDo, .ref hS, .int (nI ni), .int ret, .long clm, .int la])) :: (hM, .inl (cZ, 1681, .inl (fun j9 => kb (mk j9)))) :: (hH, .inl (cI, 10, .inl fH)) :: (hA, .inl (cI, 36, .inl fA)) :: (hP, .inl (cI, 3, .inl fP)) :: (hPa, .inl (cI, 30, .inl fPa)) :: (hR, .inl (cI, 30, .inl fR)) :: (hW, .inl (cI, 30, .inl fW)) :: (hMe, .inl (cI, 30, .inl fMe)) :: (hV, .inl (cI, 30, .inl fV)) :: (hDo, .inl (cI, 30, .inl fDo)) :: (hS, .inl (cJ, 30, .inr (.inl fS))) :: rest) (fun v u => v = some (.long (kTo fR (kFl fPa fR fW fMe fV fA fP ni fS) ni)) ∧ u = (hm, .inr (5, [.ref hM, .int (kb dr), .int (kb cl), .int bx, .int by9, .int x, .int y, .int ot, .int tw, .ref hH, .int (nI no), .int lim, .ref hA, .int (nI nr), .ref hP, .ref hPa, .ref hR, .ref hW, .ref hMe, .ref hV, .ref hDo, .ref hS, .int (nI ni), .int ret, .long clm, .int 0])) :: (hM, .inl (cZ, 1681, .inl (fun j9 => kb (mk j9)))) :: (hH, .inl (cI, 10, .inl fH)) :: (hA, .inl (cI, 36, .inl fA)) :: (hP, .inl (cI, 3, .inl fP)) :: (hPa, .inl (cI, 30, .inl fPa)) :: (hR, .inl (cI, 30, .inl fR)) :: (hW, .inl (cI, 30, .inl fW)) :: (hMe, .inl (cI, 30, .inl fMe)) :: (hV, .inl (cI, 30, .inl fV)) :: (hDo, .inl (cI, 30, .inl fDo)) :: (hS, .inl (cJ, 30, .inr (.inl (kFl fPa fR fW fMe fV fA fP ni fS)))) :: rest) (fun _ _ => False) := by
  refine kM.of hfl (cc := cX4_total) (maxL := 4) (ret := (some .long)) (by decide) rfl (Nat.le_of_ble_eq_true rfl) ?_
  intro p e s m args below meth c A ls hC hr hmn hG hl
  have hx := hC.x
  have hb := hC.b
  have hl : lv_has ls 4 [(0, .ref hm)] := hl
  have hi_RX4 : ∀ w ∈ wsX40, w ∈ wsX4_total := fun w h => List.mem_cons_of_mem _ (List.mem_append_right _ h)
  refine lv_aload_n hx hb dX4_total_0 rfl (lv_at hl 0 rfl) ?_
  refine lv_iconst (v := 0) hx hb dX4_total_1 (by decide) ?_
  refine k_put (C := RX4) (T := TX4) (N := 26) (ci := 5) (v := .int 0) (fs := [.ref hM, .int (kb dr), .int (kb cl), .int bx, .int by9, .int x, .int y, .int ot, .int tw, .ref hH, .int (nI no), .int lim, .ref hA, .int (nI nr), .ref hP, .ref hPa, .ref hR, .ref hW, .ref hMe, .ref hV, .ref hDo, .ref hS, .int (nI ni), .int ret, .long clm, .int la]) hC hG hi_RX4 tyX4_ok nmX4 0 rfl rfl 25 (by decide) (List.mem_of_getElem? (i := 1) rfl) rfl rfl rfl rfl (Nat.le_of_ble_eq_true rfl) dX4_total_2 (fun H locs hG => ?_)
  have hG : kG D A s ((hm, .inr (5, [.ref hM, .int (kb dr), .int (kb cl), .int bx, .int by9, .int x, .int y, .int ot, .int tw, .ref hH, .int (nI no), .int lim, .ref hA, .int (nI nr), .ref hP, .ref hPa, .ref hR, .ref hW, .ref hMe, .ref hV, .ref hDo, .ref hS, .int (nI ni), .int ret, .long clm, .int 0])) :: (hM, .inl (cZ, 1681, .inl (fun j9 => kb (mk j9)))) :: (hH, .inl (cI, 10, .inl fH)) :: (hA, .inl (cI, 36, .inl fA)) :: (hP, .inl (cI, 3, .inl fP)) :: (hPa, .inl (cI, 30, .inl fPa)) :: (hR, .inl (cI, 30, .inl fR)) :: (hW, .inl (cI, 30, .inl fW)) :: (hMe, .inl (cI, 30, .inl fMe)) :: (hV, .inl (cI, 30, .inl fV)) :: (hDo, .inl (cI, 30, .inl fDo)) :: (hS, .inl (cJ, 30, .inr (.inl fS))) :: rest) H locs := hG
  refine lv_aload_n hx hb dX4_total_5 rfl (lv_at hl 0 rfl) ?_
  refine k_callV (nn := 0) (C := RX4) hC hG 0 rfl (ci := 5) rfl (K_X4_fills l hfl D cI cJ cZ cO z mi hm hM hH hA hP hPa hR hW hMe hV hDo hS mk fH fA fP fPa fR fW fMe fV fDo fS dr cl bx by9 x y ot tw no lim nr ni ret clm 0 rest (by omega) hit) gX4_total_X4_fills rfl rfl (by decide +kernel) ⟨(Nat.le_of_ble_eq_true rfl), (Nat.le_of_ble_eq_true rfl)⟩ hl.1 rfl (Nat.le_of_ble_eq_true rfl) dX4_total_6 ⟨(Nat.le_of_ble_eq_true rfl), (Nat.le_of_ble_eq_true rfl)⟩ (fun _ _ _ _ _ _ hp => hp.elim) (fun v9 u9 H locs hp hG => ?_)
  obtain ⟨rfl, rfl⟩ := hp
  have hG : kG D A s ((hm, .inr (5, [.ref hM, .int (kb dr), .int (kb cl), .int bx, .int by9, .int x, .int y, .int ot, .int tw, .ref hH, .int (nI no), .int lim, .ref hA, .int (nI nr), .ref hP, .ref hPa, .ref hR, .ref hW, .ref hMe, .ref hV, .ref hDo, .ref hS, .int (nI ni), .int ret, .long clm, .int 0])) :: (hM, .inl (cZ, 1681, .inl (fun j9 => kb (mk j9)))) :: (hH, .inl (cI, 10, .inl fH)) :: (hA, .inl (cI, 36, .inl fA)) :: (hP, .inl (cI, 3, .inl fP)) :: (hPa, .inl (cI, 30, .inl fPa)) :: (hR, .inl (cI, 30, .inl fR)) :: (hW, .inl (cI, 30, .inl fW)) :: (hMe, .inl (cI, 30, .inl fMe)) :: (hV, .inl (cI, 30, .inl fV)) :: (hDo, .inl (cI, 30, .inl fDo)) :: (hS, .inl (cJ, 30, .inr (.inl (kFl fPa fR fW fMe fV fA fP ni fS)))) :: rest) H locs := hG
  refine W.widen (k := 0) (n := 0) (Nat.le_of_ble_eq_true rfl) (Nat.le_of_ble_eq_true rfl) ?_
  refine W.eq (g2 := F0 m 9 ls []) rfl ?_
  refine lv_lconst (v := 0) hx hb dX4_total_9 (by decide) ?_
  refine lv_lstore_n (lv' := [(1, .long 0), (0, .ref hm)]) hx hb dX4_total_10 rfl hl (by decide) rfl (fun ls hl => ?_)
  refine lv_iconst (v := 0) hx hb dX4_total_11 (by decide) ?_
  refine lv_istore_n (lv' := [(3, .int 0), (1, .long 0), (0, .ref hm)]) hx hb dX4_total_12 rfl hl (by decide) rfl (fun ls hl => ?_)
  refine k_loop (σ := Nat) (fun q9 => q9 ≤ ni) (fun q9 => ni - q9) (fun q9 => (hm, .inr (5, [.ref hM, .int (kb dr), .int (kb cl), .int bx, .int by9, .int x, .int y, .int ot, .int tw, .ref hH, .int (nI no), .int lim, .ref hA, .int (nI nr), .ref hP, .ref hPa, .ref hR, .ref hW, .ref hMe, .ref hV, .ref hDo, .ref hS, .int (nI ni), .int ret, .long clm, .int 0])) :: (hM, .inl (cZ, 1681, .inl (fun j9 => kb (mk j9)))) :: (hH, .inl (cI, 10, .inl fH)) :: (hA, .inl (cI, 36, .inl fA)) :: (hP, .inl (cI, 3, .inl fP)) :: (hPa, .inl (cI, 30, .inl fPa)) :: (hR, .inl (cI, 30, .inl fR)) :: (hW, .inl (cI, 30, .inl fW)) :: (hMe, .inl (cI, 30, .inl fMe)) :: (hV, .inl (cI, 30, .inl fV)) :: (hDo, .inl (cI, 30, .inl fDo)) :: (hS, .inl (cJ, 30, .inr (.inl (kFl fPa fR fW fMe fV fA fP ni fS)))) :: rest) (fun q9 => [(0, .ref hm), (1, .long (kTo fR (kFl fPa fR fW fMe fV fA fP ni fS) q9)), (3, .int (nI q9))]) 13 [] ?_ 0 (Nat.zero_le _) hG (lv_sub hl [2, 1, 0] rfl)
  intro q9
  obtain ⟨k, rfl⟩ : ∃ z9, z9 = q9 := ⟨_, rfl⟩
  intro hI ih H locs ls hG hl
  have hI : k ≤ ni := hI
  have hG : kG D A s ((hm, .inr (5, [.ref hM, .int (kb dr), .int (kb cl), .int bx, .int by9, .int x, .int y, .int ot, .int tw, .ref hH, .int (nI no), .int lim, .ref hA, .int (nI nr), .ref hP, .ref hPa, .ref hR, .ref hW, .ref hMe, .ref hV, .ref hDo, .ref hS, .int (nI ni), .int ret, .long clm, .int 0])) :: (hM, .inl (cZ, 1681, .inl (fun j9 => kb (mk j9)))) :: (hH, .inl (cI, 10, .inl fH)) :: (hA, .inl (cI, 36, .inl fA)) :: (hP, .inl (cI, 3, .inl fP)) :: (hPa, .inl (cI, 30, .inl fPa)) :: (hR, .inl (cI, 30, .inl fR)) :: (hW, .inl (cI, 30, .inl fW)) :: (hMe, .inl (cI, 30, .inl fMe)) :: (hV, .inl (cI, 30, .inl fV)) :: (hDo, .inl (cI, 30, .inl fDo)) :: (hS, .inl (cJ, 30, .inr (.inl (kFl fPa fR fW fMe fV fA fP ni fS)))) :: rest) H locs := hG
  have hl : lv_has ls 4 [(0, .ref hm), (1, .long (kTo fR (kFl fPa fR fW fMe fV fA fP ni fS) k)), (3, .int (nI k))] := hl
  refine lv_iload_n hx hb dX4_total_13 rfl (lv_at hl 2 rfl) ?_
  refine lv_aload_n hx hb dX4_total_14 rfl (lv_at hl 0 rfl) ?_
  refine k_get (C := RX4) (T := TX4) (N := 26) (ci := 5) (v := .int (nI ni)) (fs := [.ref hM, .int (kb dr), .int (kb cl), .int bx, .int by9, .int x, .int y, .int ot, .int tw, .ref hH, .int (nI no), .int lim, .ref hA, .int (nI nr), .ref hP, .ref hPa, .ref hR, .ref hW, .ref hMe, .ref hV, .ref hDo, .ref hS, .int (nI ni), .int ret, .long clm, .int 0]) hC hG hi_RX4 0 rfl rfl 22 (by decide) (List.mem_of_getElem? (i := 2) rfl) rfl rfl dX4_total_15 ?_
  refine k_icmp_ge (tgt := 48) hx hb dX4_total_18 (by decide) (fun c_1 => ?_) (fun c_1 => ?_)
  · have hk : k = ni := by
      rcases Nat.lt_or_ge (k) (ni) with h9 | h9
      · exact absurd (of_decide_eq_true c_1) (nI_ge h9 (by omega))
      · omega
    refine lv_lload_n hx hb dX4_total_48 rfl (lv_at hl 1 rfl) ?_
    exact k_retl hC hr hG ⟨by rw [hk], rfl⟩ (Nat.le_of_ble_eq_true rfl) (Nat.le_of_ble_eq_true rfl) dX4_total_49
  · have hk : k < ni := by
      rcases Nat.lt_or_ge (k) (ni) with h9 | h9
      · exact h9
      · exact absurd ((of_decide_eq_false c_1)) (fun z => z (nI_le h9 (by omega)))
    refine lv_lload_n hx hb dX4_total_21 rfl (lv_at hl 1 rfl) ?_
    refine lv_aload_n hx hb dX4_total_22 rfl (lv_at hl 0 rfl) ?_
    refine lv_iload_n hx hb dX4_total_23 rfl (lv_at hl 2 rfl) ?_
    refine k_callV (nn := 1) (C := RX4) hC hG 0 rfl (ci := 5) rfl (K_X4_isHeading l hfl D cI cJ cZ cO z mi hm hM hH hA hP hPa hR hW hMe hV hDo hS mk fH fA fP fPa fR fW fMe fV fDo (kFl fPa fR fW fMe fV fA fP ni fS) dr cl bx by9 x y ot tw no lim nr ni ret clm 0 rest (nI k) (vp_in_nI (by omega) (by decide))) gX4_total_X4_isHeading rfl rfl (by decide +kernel) ⟨(Nat.le_of_ble_eq_true rfl), (Nat.le_of_ble_eq_true rfl)⟩ hl.1 rfl (Nat.le_of_ble_eq_true rfl) dX4_total_24 ⟨(Nat.le_of_ble_eq_true rfl), (Nat.le_of_ble_eq_true rfl)⟩ (fun _ _ _ _ _ _ hp => hp.elim) (fun v9 u9 H locs hp hG => ?_)
    obtain ⟨rfl, rfl⟩ := hp
    refine W.widen (k := 0) (n := 0) (Nat.le_of_ble_eq_true rfl) (Nat.le_of_ble_eq_true rfl) ?_
    refine W.eq (g2 := F0 m 27 ls [.int (kb (decide (fR (nI k).toNatClampNeg = (-1)))), .long (kTo fR (kFl fPa fR fW fMe fV fA fP ni fS) k)]) rfl ?_
    refine k_topi (y := kb (decide ((fR k) = (-1)))) (by rw [nI_clamp (by omega)]) ?_
    refine k_joinH (D := D) (A := A) (fun v4 : Int64 => F0 m 40 ls (.long v4 :: [.long (kTo fR (kFl fPa fR fW fMe fV fA fP ni fS) k)])) (fun v4 => v4 = bif decide ((fR k) = (-1)) then 0 else ((kFl fPa fR fW fMe fV fA fP ni fS) k)) ((hm, .inr (5, [.ref hM, .int (kb dr), .int (kb cl), .int bx, .int by9, .int x, .int y, .int ot, .int tw, .ref hH, .int (nI no), .int lim, .ref hA, .int (nI nr), .ref hP, .ref hPa, .ref hR, .ref hW, .ref hMe, .ref hV, .ref hDo, .ref hS, .int (nI ni), .int ret, .long clm, .int 0])) :: (hM, .inl (cZ, 1681, .inl (fun j9 => kb (mk j9)))) :: (hH, .inl (cI, 10, .inl fH)) :: (hA, .inl (cI, 36, .inl fA)) :: (hP, .inl (cI, 3, .inl fP)) :: (hPa, .inl (cI, 30, .inl fPa)) :: (hR, .inl (cI, 30, .inl fR)) :: (hW, .inl (cI, 30, .inl fW)) :: (hMe, .inl (cI, 30, .inl fMe)) :: (hV, .inl (cI, 30, .inl fV)) :: (hDo, .inl (cI, 30, .inl fDo)) :: (hS, .inl (cJ, 30, .inr (.inl (kFl fPa fR fW fMe fV fA fP ni fS)))) :: rest) ?_ (fun J3 => ?_)
    · intro v4 ev4 H locs hG
      have ev4 : v4 = bif decide ((fR k) = (-1)) then 0 else ((kFl fPa fR fW fMe fV fA fP ni fS) k) := ev4
      subst ev4
      refine lv_ladd hx hb dX4_total_40 ?_
      refine lv_lstore_n (lv' := [(1, .long ((kTo fR (kFl fPa fR fW fMe fV fA fP ni fS) k) + (bif decide ((fR k) = (-1)) then 0 else ((kFl fPa fR fW fMe fV fA fP ni fS) k)))), (0, .ref hm), (3, .int (nI k))]) hx hb dX4_total_41 rfl hl (by decide) rfl (fun ls hl => ?_)
      refine lv_iinc (v := (nI k) + 1) (lv' := [(3, .int ((nI k) + 1)), (1, .long ((kTo fR (kFl fPa fR fW fMe fV fA fP ni fS) k) + (bif decide ((fR k) = (-1)) then 0 else ((kFl fPa fR fW fMe fV fA fP ni fS) k)))), (0, .ref hm)]) hx hb dX4_total_42 hl (k := 2) rfl rfl (by decide) rfl (fun ls hl => ?_)
      refine lv_goto (tgt := 13) hx hb dX4_total_45 (by decide) ?_
      rw [nI_1] at hl
      exact ih (k + 1) (show k + 1 ≤ ni from hk) (by show ni - (k + 1) < ni - k; omega) _ _ _ hG (lv_sub hl [2, 1, 0] rfl)
    refine k_ifB_eq (tgt := 34) hx hb dX4_total_27 (by decide) (fun c_2 => ?_) (fun c_2 => ?_)
    · refine lv_aload_n hx hb dX4_total_34 rfl (lv_at hl 0 rfl) ?_
      refine k_get (C := RX4) (T := TX4) (N := 26) (ci := 5) (v := .ref hS) (fs := [.ref hM, .int (kb dr), .int (kb cl), .int bx, .int by9, .int x, .int y, .int ot, .int tw, .ref hH, .int (nI no), .int lim, .ref hA, .int (nI nr), .ref hP, .ref hPa, .ref hR, .ref hW, .ref hMe, .ref hV, .ref hDo, .ref hS, .int (nI ni), .int ret, .long clm, .int 0]) hC hG hi_RX4 0 rfl rfl 21 (by decide) (List.mem_of_getElem? (i := 3) rfl) rfl rfl dX4_total_35 ?_
      refine lv_iload_n hx hb dX4_total_38 rfl (lv_at hl 2 rfl) ?_
      refine va_lald (f := (kFl fPa fR fW fMe fV fA fP ni fS)) hx hb hC.K hG.1 11 1 rfl rfl (vp_in_nI (by omega) (by decide)) dX4_total_39 ?_
      refine k_topl (y := (kFl fPa fR fW fMe fV fA fP ni fS) k) (congrArg (kFl fPa fR fW fMe fV fA fP ni fS) (nI_clamp (by omega))) ?_
      exact J3 ((kFl fPa fR fW fMe fV fA fP ni fS) k) (by rw [c_2]; first | done | rfl) _ _ hG
    · refine lv_lconst (v := 0) hx hb dX4_total_30 (by decide) ?_
      refine lv_goto (tgt := 40) hx hb dX4_total_31 (by decide) ?_
      exact J3 0 (by rw [c_2]; first | done | rfl) _ _ hG

set_option maxHeartbeats 4000000 in
set_option maxRecDepth 100000 in
/-- worthNow -/
theorem K_X4_worthNow (l : Launch) (hfl : l.stackTraces = false) (D : va_G) (cI cJ cZ cO : ClassId) (z mi : Nat) (hm : Nat) (hM : Nat) (hH : Nat) (hA : Nat) (hP : Nat) (hPa : Nat) (hR : Nat) (hW : Nat) (hMe : Nat) (hV : Nat) (hDo : Nat) (hS : Nat) (mk : Nat → Bool) (fH : Nat → Int32) (fA : Nat → Int32) (fP : Nat → Int32) (fPa : Nat → Int32) (fR : Nat → Int32) (fW : Nat → Int32) (fMe : Nat → Int32) (fV : Nat → Int32) (fDo : Nat → Int32) (fS : Nat → Int64) (dr : Bool) (cl : Bool) (bx : Int32) (by9 : Int32) (x : Int32) (y : Int32) (ot : Int32) (tw : Int32) (no : Nat) (lim : Int32) (nr : Nat) (ni : Nat) (ret : Int32) (clm : Int64) (la : Int32) (rest : va_W) (hni : ni ≤ 30) (hit : kIt fPa fR ni) : kM l D (kTy cI cJ cZ cO) z mi yX4_worthNow wsX4_worthNow ({ frames := 2, cells := 0, slots := 0, locals := 44 } : Room) [.ref hm] ((hm, .inr (5, [.ref hM, .int (kb dr), .int (kb cl), .int bx, .int by9, .int x, .int y, .int ot, .int tw, .ref hH, .int (nI no), .int lim, .ref hA, .int (nI nr), .ref hP, .ref hPa, .ref hR, .ref hW, .ref hMe, .ref hV, .ref hDo, .ref hS, .int (nI ni), .int ret, .long clm, .int la])) :: (hM, .inl (cZ, 1681, .inl (fun j9 => kb (mk j9)))) :: (hH, .inl (cI, 10, .inl fH)) :: (hA, .inl (cI, 36, .inl fA)) :: (hP, .inl (cI, 3, .inl fP)) :: (hPa, .inl (cI, 30, .inl fPa)) :: (hR, .inl (cI, 30, .inl fR)) :: (hW, .inl (cI, 30, .inl fW)) :: (hMe, .inl (cI, 30, .inl fMe)) :: (hV, .inl (cI, 30, .inl fV)) :: (hDo, .inl (cI, 30, .inl fDo)) :: (hS, .inl (cJ, 30, .inr (.inl fS))) :: rest) (fun v u => v = some (.long (kWo fR fDo (kFl fPa fR fW fMe fV fA fP ni fS) ni)) ∧ u = (hm, .inr (5, [.ref hM, .int (kb dr), .int (kb cl), .int bx, .int by9, .int x, .int y, .int ot, .int tw, .ref hH, .int (nI no), .int lim, .ref hA, .int (nI nr), .ref hP, .ref hPa, .ref hR, .ref hW, .ref hMe, .ref hV, .ref hDo, .ref hS, .int (nI ni), .int ret, .long clm, .int la])) :: (hM, .inl (cZ, 1681, .inl (fun j9 => kb (mk j9)))) :: (hH, .inl (cI, 10, .inl fH)) :: (hA, .inl (cI, 36, .inl fA)) :: (hP, .inl (cI, 3, .inl fP)) :: (hPa, .inl (cI, 30, .inl fPa)) :: (hR, .inl (cI, 30, .inl fR)) :: (hW, .inl (cI, 30, .inl fW)) :: (hMe, .inl (cI, 30, .inl fMe)) :: (hV, .inl (cI, 30, .inl fV)) :: (hDo, .inl (cI, 30, .inl fDo)) :: (hS, .inl (cJ, 30, .inr (.inl (kFl fPa fR fW fMe fV fA fP ni fS)))) :: rest) (fun _ _ => False) := by
  refine kM.of hfl (cc := cX4_worthNow) (maxL := 4) (ret := (some .long)) (by decide) rfl (Nat.le_of_ble_eq_true rfl) ?_
  intro p e s m args below meth c A ls hC hr hmn hG hl
  have hx := hC.x
  have hb := hC.b
  have hl : lv_has ls 4 [(0, .ref hm)] := hl
  have hi_RX4 : ∀ w ∈ wsX40, w ∈ wsX4_worthNow := fun w h => List.mem_cons_of_mem _ (List.mem_append_right _ h)
  refine lv_aload_n hx hb dX4_worthNow_0 rfl (lv_at hl 0 rfl) ?_
  refine k_callV (nn := 0) (C := RX4) hC hG 0 rfl (ci := 5) rfl (K_X4_fills l hfl D cI cJ cZ cO z mi hm hM hH hA hP hPa hR hW hMe hV hDo hS mk fH fA fP fPa fR fW fMe fV fDo fS dr cl bx by9 x y ot tw no lim nr ni ret clm la rest (by omega) hit) gX4_worthNow_X4_fills rfl rfl (by decide +kernel) ⟨(Nat.le_of_ble_eq_true rfl), (Nat.le_of_ble_eq_true rfl)⟩ hl.1 rfl (Nat.le_of_ble_eq_true rfl) dX4_worthNow_1 ⟨(Nat.le_of_ble_eq_true rfl), (Nat.le_of_ble_eq_true rfl)⟩ (fun _ _ _ _ _ _ hp => hp.elim) (fun v9 u9 H locs hp hG => ?_)
  obtain ⟨rfl, rfl⟩ := hp
  have hG : kG D A s ((hm, .inr (5, [.ref hM, .int (kb dr), .int (kb cl), .int bx, .int by9, .int x, .int y, .int ot, .int tw, .ref hH, .int (nI no), .int lim, .ref hA, .int (nI nr), .ref hP, .ref hPa, .ref hR, .ref hW, .ref hMe, .ref hV, .ref hDo, .ref hS, .int (nI ni), .int ret, .long clm, .int la])) :: (hM, .inl (cZ, 1681, .inl (fun j9 => kb (mk j9)))) :: (hH, .inl (cI, 10, .inl fH)) :: (hA, .inl (cI, 36, .inl fA)) :: (hP, .inl (cI, 3, .inl fP)) :: (hPa, .inl (cI, 30, .inl fPa)) :: (hR, .inl (cI, 30, .inl fR)) :: (hW, .inl (cI, 30, .inl fW)) :: (hMe, .inl (cI, 30, .inl fMe)) :: (hV, .inl (cI, 30, .inl fV)) :: (hDo, .inl (cI, 30, .inl fDo)) :: (hS, .inl (cJ, 30, .inr (.inl (kFl fPa fR fW fMe fV fA fP ni fS)))) :: rest) H locs := hG
  refine W.widen (k := 0) (n := 0) (Nat.le_of_ble_eq_true rfl) (Nat.le_of_ble_eq_true rfl) ?_
  refine W.eq (g2 := F0 m 4 ls []) rfl ?_
  refine lv_lconst (v := 0) hx hb dX4_worthNow_4 (by decide) ?_
  refine lv_lstore_n (lv' := [(1, .long 0), (0, .ref hm)]) hx hb dX4_worthNow_5 rfl hl (by decide) rfl (fun ls hl => ?_)
  refine lv_iconst (v := 0) hx hb dX4_worthNow_6 (by decide) ?_
  refine lv_istore_n (lv' := [(3, .int 0), (1, .long 0), (0, .ref hm)]) hx hb dX4_worthNow_7 rfl hl (by decide) rfl (fun ls hl => ?_)
  refine k_loop (σ := Nat) (fun q9 => q9 ≤ ni) (fun q9 => ni - q9) (fun q9 => (hm, .inr (5, [.ref hM, .int (kb dr), .int (kb cl), .int bx, .int by9, .int x, .int y, .int ot, .int tw, .ref hH, .int (nI no), .int lim, .ref hA, .int (nI nr), .ref hP, .ref hPa, .ref hR, .ref hW, .ref hMe, .ref hV, .ref hDo, .ref hS, .int (nI ni), .int ret, .long clm, .int la])) :: (hM, .inl (cZ, 1681, .inl (fun j9 => kb (mk j9)))) :: (hH, .inl (cI, 10, .inl fH)) :: (hA, .inl (cI, 36, .inl fA)) :: (hP, .inl (cI, 3, .inl fP)) :: (hPa, .inl (cI, 30, .inl fPa)) :: (hR, .inl (cI, 30, .inl fR)) :: (hW, .inl (cI, 30, .inl fW)) :: (hMe, .inl (cI, 30, .inl fMe)) :: (hV, .inl (cI, 30, .inl fV)) :: (hDo, .inl (cI, 30, .inl fDo)) :: (hS, .inl (cJ, 30, .inr (.inl (kFl fPa fR fW fMe fV fA fP ni fS)))) :: rest) (fun q9 => [(0, .ref hm), (1, .long (kWo fR fDo (kFl fPa fR fW fMe fV fA fP ni fS) q9)), (3, .int (nI q9))]) 8 [] ?_ 0 (Nat.zero_le _) hG (lv_sub hl [2, 1, 0] rfl)
  intro q9
  obtain ⟨k, rfl⟩ : ∃ z9, z9 = q9 := ⟨_, rfl⟩
  intro hI ih H locs ls hG hl
  have hI : k ≤ ni := hI
  have hG : kG D A s ((hm, .inr (5, [.ref hM, .int (kb dr), .int (kb cl), .int bx, .int by9, .int x, .int y, .int ot, .int tw, .ref hH, .int (nI no), .int lim, .ref hA, .int (nI nr), .ref hP, .ref hPa, .ref hR, .ref hW, .ref hMe, .ref hV, .ref hDo, .ref hS, .int (nI ni), .int ret, .long clm, .int la])) :: (hM, .inl (cZ, 1681, .inl (fun j9 => kb (mk j9)))) :: (hH, .inl (cI, 10, .inl fH)) :: (hA, .inl (cI, 36, .inl fA)) :: (hP, .inl (cI, 3, .inl fP)) :: (hPa, .inl (cI, 30, .inl fPa)) :: (hR, .inl (cI, 30, .inl fR)) :: (hW, .inl (cI, 30, .inl fW)) :: (hMe, .inl (cI, 30, .inl fMe)) :: (hV, .inl (cI, 30, .inl fV)) :: (hDo, .inl (cI, 30, .inl fDo)) :: (hS, .inl (cJ, 30, .inr (.inl (kFl fPa fR fW fMe fV fA fP ni fS)))) :: rest) H locs := hG
  have hl : lv_has ls 4 [(0, .ref hm), (1, .long (kWo fR fDo (kFl fPa fR fW fMe fV fA fP ni fS) k)), (3, .int (nI k))] := hl
  refine lv_iload_n hx hb dX4_worthNow_8 rfl (lv_at hl 2 rfl) ?_
  refine lv_aload_n hx hb dX4_worthNow_9 rfl (lv_at hl 0 rfl) ?_
  refine k_get (C := RX4) (T := TX4) (N := 26) (ci := 5) (v := .int (nI ni)) (fs := [.ref hM, .int (kb dr), .int (kb cl), .int bx, .int by9, .int x, .int y, .int ot, .int tw, .ref hH, .int (nI no), .int lim, .ref hA, .int (nI nr), .ref hP, .ref hPa, .ref hR, .ref hW, .ref hMe, .ref hV, .ref hDo, .ref hS, .int (nI ni), .int ret, .long clm, .int la]) hC hG hi_RX4 0 rfl rfl 22 (by decide) (List.mem_of_getElem? (i := 1) rfl) rfl rfl dX4_worthNow_10 ?_
  refine k_icmp_ge (tgt := 55) hx hb dX4_worthNow_13 (by decide) (fun c_1 => ?_) (fun c_1 => ?_)
  · have hk : k = ni := by
      rcases Nat.lt_or_ge (k) (ni) with h9 | h9
      · exact absurd (of_decide_eq_true c_1) (nI_ge h9 (by omega))
      · omega
    refine lv_lload_n hx hb dX4_worthNow_55 rfl (lv_at hl 1 rfl) ?_
    exact k_retl hC hr hG ⟨by rw [hk], rfl⟩ (Nat.le_of_ble_eq_true rfl) (Nat.le_of_ble_eq_true rfl) dX4_worthNow_56
  · have hk : k < ni := by
      rcases Nat.lt_or_ge (k) (ni) with h9 | h9
      · exact h9
      · exact absurd ((of_decide_eq_false c_1)) (fun z => z (nI_le h9 (by omega)))
    refine lv_lload_n hx hb dX4_worthNow_16 rfl (lv_at hl 1 rfl) ?_
    refine lv_aload_n hx hb dX4_worthNow_17 rfl (lv_at hl 0 rfl) ?_
    refine lv_iload_n hx hb dX4_worthNow_18 rfl (lv_at hl 2 rfl) ?_
    refine k_callV (nn := 1) (C := RX4) hC hG 0 rfl (ci := 5) rfl (K_X4_isHeading l hfl D cI cJ cZ cO z mi hm hM hH hA hP hPa hR hW hMe hV hDo hS mk fH fA fP fPa fR fW fMe fV fDo (kFl fPa fR fW fMe fV fA fP ni fS) dr cl bx by9 x y ot tw no lim nr ni ret clm la rest (nI k) (vp_in_nI (by omega) (by decide))) gX4_worthNow_X4_isHeading rfl rfl (by decide +kernel) ⟨(Nat.le_of_ble_eq_true rfl), (Nat.le_of_ble_eq_true rfl)⟩ hl.1 rfl (Nat.le_of_ble_eq_true rfl) dX4_worthNow_19 ⟨(Nat.le_of_ble_eq_true rfl), (Nat.le_of_ble_eq_true rfl)⟩ (fun _ _ _ _ _ _ hp => hp.elim) (fun v9 u9 H locs hp hG => ?_)
    obtain ⟨rfl, rfl⟩ := hp
    refine W.widen (k := 0) (n := 0) (Nat.le_of_ble_eq_true rfl) (Nat.le_of_ble_eq_true rfl) ?_
    refine W.eq (g2 := F0 m 22 ls [.int (kb (decide (fR (nI k).toNatClampNeg = (-1)))), .long (kWo fR fDo (kFl fPa fR fW fMe fV fA fP ni fS) k)]) rfl ?_
    refine k_topi (y := kb (decide ((fR k) = (-1)))) (by rw [nI_clamp (by omega)]) ?_
    refine k_joinH (D := D) (A := A) (fun v4 : Int64 => F0 m 47 ls (.long v4 :: [.long (kWo fR fDo (kFl fPa fR fW fMe fV fA fP ni fS) k)])) (fun v4 => v4 = bif decide ((fR k) = (-1)) then 0 else ((((kFl fPa fR fW fMe fV fA fP ni fS) k) * ((fDo k).toInt64)) / 100)) ((hm, .inr (5, [.ref hM, .int (kb dr), .int (kb cl), .int bx, .int by9, .int x, .int y, .int ot, .int tw, .ref hH, .int (nI no), .int lim, .ref hA, .int (nI nr), .ref hP, .ref hPa, .ref hR, .ref hW, .ref hMe, .ref hV, .ref hDo, .ref hS, .int (nI ni), .int ret, .long clm, .int la])) :: (hM, .inl (cZ, 1681, .inl (fun j9 => kb (mk j9)))) :: (hH, .inl (cI, 10, .inl fH)) :: (hA, .inl (cI, 36, .inl fA)) :: (hP, .inl (cI, 3, .inl fP)) :: (hPa, .inl (cI, 30, .inl fPa)) :: (hR, .inl (cI, 30, .inl fR)) :: (hW, .inl (cI, 30, .inl fW)) :: (hMe, .inl (cI, 30, .inl fMe)) :: (hV, .inl (cI, 30, .inl fV)) :: (hDo, .inl (cI, 30, .inl fDo)) :: (hS, .inl (cJ, 30, .inr (.inl (kFl fPa fR fW fMe fV fA fP ni fS)))) :: rest) ?_ (fun J3 => ?_)
    · intro v4 ev4 H locs hG
      have ev4 : v4 = bif decide ((fR k) = (-1)) then 0 else ((((kFl fPa fR fW fMe fV fA fP ni fS) k) * ((fDo k).toInt64)) / 100) := ev4
      subst ev4
      refine lv_ladd hx hb dX4_worthNow_47 ?_
      refine lv_lstore_n (lv' := [(1, .long ((kWo fR fDo (kFl fPa fR fW fMe fV fA fP ni fS) k) + (bif decide ((fR k) = (-1)) then 0 else ((((kFl fPa fR fW fMe fV fA fP ni fS) k) * ((fDo k).toInt64)) / 100)))), (0, .ref hm), (3, .int (nI k))]) hx hb dX4_worthNow_48 rfl hl (by decide) rfl (fun ls hl => ?_)
      refine lv_iinc (v := (nI k) + 1) (lv' := [(3, .int ((nI k) + 1)), (1, .long ((kWo fR fDo (kFl fPa fR fW fMe fV fA fP ni fS) k) + (bif decide ((fR k) = (-1)) then 0 else ((((kFl fPa fR fW fMe fV fA fP ni fS) k) * ((fDo k).toInt64)) / 100)))), (0, .ref hm)]) hx hb dX4_worthNow_49 hl (k := 2) rfl rfl (by decide) rfl (fun ls hl => ?_)
      refine lv_goto (tgt := 8) hx hb dX4_worthNow_52 (by decide) ?_
      rw [nI_1] at hl
      exact ih (k + 1) (show k + 1 ≤ ni from hk) (by show ni - (k + 1) < ni - k; omega) _ _ _ hG (lv_sub hl [2, 1, 0] rfl)
    refine k_ifB_eq (tgt := 29) hx hb dX4_worthNow_22 (by decide) (fun c_2 => ?_) (fun c_2 => ?_)
    · refine lv_aload_n hx hb dX4_worthNow_29 rfl (lv_at hl 0 rfl) ?_
      refine k_get (C := RX4) (T := TX4) (N := 26) (ci := 5) (v := .ref hS) (fs := [.ref hM, .int (kb dr), .int (kb cl), .int bx, .int by9, .int x, .int y, .int ot, .int tw, .ref hH, .int (nI no), .int lim, .ref hA, .int (nI nr), .ref hP, .ref hPa, .ref hR, .ref hW, .ref hMe, .ref hV, .ref hDo, .ref hS, .int (nI ni), .int ret, .long clm, .int la]) hC hG hi_RX4 0 rfl rfl 21 (by decide) (List.mem_of_getElem? (i := 2) rfl) rfl rfl dX4_worthNow_30 ?_
      refine lv_iload_n hx hb dX4_worthNow_33 rfl (lv_at hl 2 rfl) ?_
      refine va_lald (f := (kFl fPa fR fW fMe fV fA fP ni fS)) hx hb hC.K hG.1 11 1 rfl rfl (vp_in_nI (by omega) (by decide)) dX4_worthNow_34 ?_
      refine k_topl (y := (kFl fPa fR fW fMe fV fA fP ni fS) k) (congrArg (kFl fPa fR fW fMe fV fA fP ni fS) (nI_clamp (by omega))) ?_
      refine lv_aload_n hx hb dX4_worthNow_35 rfl (lv_at hl 0 rfl) ?_
      refine k_get (C := RX4) (T := TX4) (N := 26) (ci := 5) (v := .ref hDo) (fs := [.ref hM, .int (kb dr), .int (kb cl), .int bx, .int by9, .int x, .int y, .int ot, .int tw, .ref hH, .int (nI no), .int lim, .ref hA, .int (nI nr), .ref hP, .ref hPa, .ref hR, .ref hW, .ref hMe, .ref hV, .ref hDo, .ref hS, .int (nI ni), .int ret, .long clm, .int la]) hC hG hi_RX4 0 rfl rfl 20 (by decide) (List.mem_of_getElem? (i := 3) rfl) rfl rfl dX4_worthNow_36 ?_
      refine lv_iload_n hx hb dX4_worthNow_39 rfl (lv_at hl 2 rfl) ?_
      refine va_iald (f := fDo) hx hb hC.K hG.1 10 0 rfl rfl (vp_in_nI (by omega) (by decide)) dX4_worthNow_40 ?_
      refine k_topi (y := fDo k) (congrArg fDo (nI_clamp (by omega))) ?_
      refine lv_i2l hx hb dX4_worthNow_41 rfl ?_
      refine lv_lmul hx hb dX4_worthNow_42 ?_
      refine lv_ldc2 (v := 100) hx hb hC.o (hC.t _ (List.mem_of_getElem? (i := 4) rfl)) dX4_worthNow_43 ?_
      refine lv_ldiv hx hb dX4_worthNow_46 (by decide) ?_
      exact J3 ((((kFl fPa fR fW fMe fV fA fP ni fS) k) * ((fDo k).toInt64)) / 100) (by rw [c_2]; first | done | rfl) _ _ hG
    · refine lv_lconst (v := 0) hx hb dX4_worthNow_25 (by decide) ?_
      refine lv_goto (tgt := 47) hx hb dX4_worthNow_26 (by decide) ?_
      exact J3 0 (by rw [c_2]; first | done | rfl) _ _ hG

set_option maxHeartbeats 4000000 in
set_option maxRecDepth 100000 in
/-- dueNow -/
theorem K_X4_dueNow (l : Launch) (hfl : l.stackTraces = false) (D : va_G) (cI cJ cZ cO : ClassId) (z mi : Nat) (hm : Nat) (hM : Nat) (hH : Nat) (hA : Nat) (hP : Nat) (hPa : Nat) (hR : Nat) (hW : Nat) (hMe : Nat) (hV : Nat) (hDo : Nat) (hS : Nat) (mk : Nat → Bool) (fH : Nat → Int32) (fA : Nat → Int32) (fP : Nat → Int32) (fPa : Nat → Int32) (fR : Nat → Int32) (fW : Nat → Int32) (fMe : Nat → Int32) (fV : Nat → Int32) (fDo : Nat → Int32) (fS : Nat → Int64) (dr : Bool) (cl : Bool) (bx : Int32) (by9 : Int32) (x : Int32) (y : Int32) (ot : Int32) (tw : Int32) (no : Nat) (lim : Int32) (nr : Nat) (ni : Nat) (ret : Int32) (clm : Int64) (la : Int32) (rest : va_W) (hni : ni ≤ 30) (hit : kIt fPa fR ni) : kM l D (kTy cI cJ cZ cO) z mi yX4_dueNow wsX4_dueNow ({ frames := 3, cells := 0, slots := 0, locals := 67 } : Room) [.ref hm] ((hm, .inr (5, [.ref hM, .int (kb dr), .int (kb cl), .int bx, .int by9, .int x, .int y, .int ot, .int tw, .ref hH, .int (nI no), .int lim, .ref hA, .int (nI nr), .ref hP, .ref hPa, .ref hR, .ref hW, .ref hMe, .ref hV, .ref hDo, .ref hS, .int (nI ni), .int ret, .long clm, .int la])) :: (hM, .inl (cZ, 1681, .inl (fun j9 => kb (mk j9)))) :: (hH, .inl (cI, 10, .inl fH)) :: (hA, .inl (cI, 36, .inl fA)) :: (hP, .inl (cI, 3, .inl fP)) :: (hPa, .inl (cI, 30, .inl fPa)) :: (hR, .inl (cI, 30, .inl fR)) :: (hW, .inl (cI, 30, .inl fW)) :: (hMe, .inl (cI, 30, .inl fMe)) :: (hV, .inl (cI, 30, .inl fV)) :: (hDo, .inl (cI, 30, .inl fDo)) :: (hS, .inl (cJ, 30, .inr (.inl fS))) :: rest) (fun v u => v = some (.long (kDu (kWo fR fDo (kFl fPa fR fW fMe fV fA fP ni fS) ni) ret)) ∧ u = (hm, .inr (5, [.ref hM, .int (kb dr), .int (kb cl), .int bx, .int by9, .int x, .int y, .int ot, .int tw, .ref hH, .int (nI no), .int lim, .ref hA, .int (nI nr), .ref hP, .ref hPa, .ref hR, .ref hW, .ref hMe, .ref hV, .ref hDo, .ref hS, .int (nI ni), .int ret, .long clm, .int la])) :: (hM, .inl (cZ, 1681, .inl (fun j9 => kb (mk j9)))) :: (hH, .inl (cI, 10, .inl fH)) :: (hA, .inl (cI, 36, .inl fA)) :: (hP, .inl (cI, 3, .inl fP)) :: (hPa, .inl (cI, 30, .inl fPa)) :: (hR, .inl (cI, 30, .inl fR)) :: (hW, .inl (cI, 30, .inl fW)) :: (hMe, .inl (cI, 30, .inl fMe)) :: (hV, .inl (cI, 30, .inl fV)) :: (hDo, .inl (cI, 30, .inl fDo)) :: (hS, .inl (cJ, 30, .inr (.inl (kFl fPa fR fW fMe fV fA fP ni fS)))) :: rest) (fun _ _ => False) := by
  refine kM.of hfl (cc := cX4_dueNow) (maxL := 3) (ret := (some .long)) (by decide) rfl (Nat.le_of_ble_eq_true rfl) ?_
  intro p e s m args below meth c A ls hC hr hmn hG hl
  have hx := hC.x
  have hb := hC.b
  have hl : lv_has ls 3 [(0, .ref hm)] := hl
  have hi_RX4 : ∀ w ∈ wsX40, w ∈ wsX4_dueNow := fun w h => List.mem_cons_of_mem _ (List.mem_append_right _ h)
  refine lv_aload_n hx hb dX4_dueNow_0 rfl (lv_at hl 0 rfl) ?_
  refine k_callV (nn := 0) (C := RX4) hC hG 0 rfl (ci := 5) rfl (K_X4_worthNow l hfl D cI cJ cZ cO z mi hm hM hH hA hP hPa hR hW hMe hV hDo hS mk fH fA fP fPa fR fW fMe fV fDo fS dr cl bx by9 x y ot tw no lim nr ni ret clm la rest  (by omega) hit) gX4_dueNow_X4_worthNow rfl rfl (by decide +kernel) ⟨(Nat.le_of_ble_eq_true rfl), (Nat.le_of_ble_eq_true rfl)⟩ hl.1 rfl (Nat.le_of_ble_eq_true rfl) dX4_dueNow_1 ⟨(Nat.le_of_ble_eq_true rfl), (Nat.le_of_ble_eq_true rfl)⟩ (fun _ _ _ _ _ _ hp => hp.elim) (fun v9 u9 H locs hp hG => ?_)
  obtain ⟨rfl, rfl⟩ := hp
  have hG : kG D A s ((hm, .inr (5, [.ref hM, .int (kb dr), .int (kb cl), .int bx, .int by9, .int x, .int y, .int ot, .int tw, .ref hH, .int (nI no), .int lim, .ref hA, .int (nI nr), .ref hP, .ref hPa, .ref hR, .ref hW, .ref hMe, .ref hV, .ref hDo, .ref hS, .int (nI ni), .int ret, .long clm, .int la])) :: (hM, .inl (cZ, 1681, .inl (fun j9 => kb (mk j9)))) :: (hH, .inl (cI, 10, .inl fH)) :: (hA, .inl (cI, 36, .inl fA)) :: (hP, .inl (cI, 3, .inl fP)) :: (hPa, .inl (cI, 30, .inl fPa)) :: (hR, .inl (cI, 30, .inl fR)) :: (hW, .inl (cI, 30, .inl fW)) :: (hMe, .inl (cI, 30, .inl fMe)) :: (hV, .inl (cI, 30, .inl fV)) :: (hDo, .inl (cI, 30, .inl fDo)) :: (hS, .inl (cJ, 30, .inr (.inl (kFl fPa fR fW fMe fV fA fP ni fS)))) :: rest) H locs := hG
  refine W.widen (k := 0) (n := 0) (Nat.le_of_ble_eq_true rfl) (Nat.le_of_ble_eq_true rfl) ?_
  refine W.eq (g2 := F0 m 4 ls [.long (kWo fR fDo (kFl fPa fR fW fMe fV fA fP ni fS) ni)]) rfl ?_
  refine lv_lstore_n (lv' := [(1, .long (kWo fR fDo (kFl fPa fR fW fMe fV fA fP ni fS) ni)), (0, .ref hm)]) hx hb dX4_dueNow_4 rfl hl (by decide) rfl (fun ls hl => ?_)
  refine lv_lload_n hx hb dX4_dueNow_5 rfl (lv_at hl 0 rfl) ?_
  refine lv_lload_n hx hb dX4_dueNow_6 rfl (lv_at hl 0 rfl) ?_
  refine lv_aload_n hx hb dX4_dueNow_7 rfl (lv_at hl 1 rfl) ?_
  refine k_get (C := RX4) (T := TX4) (N := 26) (ci := 5) (v := .int ret) (fs := [.ref hM, .int (kb dr), .int (kb cl), .int bx, .int by9, .int x, .int y, .int ot, .int tw, .ref hH, .int (nI no), .int lim, .ref hA, .int (nI nr), .ref hP, .ref hPa, .ref hR, .ref hW, .ref hMe, .ref hV, .ref hDo, .ref hS, .int (nI ni), .int ret, .long clm, .int la]) hC hG hi_RX4 0 rfl rfl 23 (by decide) (List.mem_of_getElem? (i := 1) rfl) rfl rfl dX4_dueNow_8 ?_
  refine lv_i2l hx hb dX4_dueNow_11 rfl ?_
  refine lv_lmul hx hb dX4_dueNow_12 ?_
  refine lv_ldc2 (v := 99) hx hb hC.o (hC.t _ (List.mem_of_getElem? (i := 2) rfl)) dX4_dueNow_13 ?_
  refine lv_ladd hx hb dX4_dueNow_16 ?_
  refine lv_ldc2 (v := 100) hx hb hC.o (hC.t _ (List.mem_of_getElem? (i := 3) rfl)) dX4_dueNow_17 ?_
  refine lv_ldiv hx hb dX4_dueNow_20 (by decide) ?_
  refine lv_lsub hx hb dX4_dueNow_21 ?_
  exact k_retl hC hr hG ⟨rfl, rfl⟩ (Nat.le_of_ble_eq_true rfl) (Nat.le_of_ble_eq_true rfl) dX4_dueNow_22

set_option maxHeartbeats 4000000 in
set_option maxRecDepth 100000 in
/-- worth -/
theorem K_X4_worth (l : Launch) (hfl : l.stackTraces = false) (D : va_G) (cI cJ cZ cO : ClassId) (z mi : Nat) (hm : Nat) (hM : Nat) (hH : Nat) (hA : Nat) (hP : Nat) (hPa : Nat) (hR : Nat) (hW : Nat) (hMe : Nat) (hV : Nat) (hDo : Nat) (hS : Nat) (mk : Nat → Bool) (fH : Nat → Int32) (fA : Nat → Int32) (fP : Nat → Int32) (fPa : Nat → Int32) (fR : Nat → Int32) (fW : Nat → Int32) (fMe : Nat → Int32) (fV : Nat → Int32) (fDo : Nat → Int32) (fS : Nat → Int64) (dr : Bool) (cl : Bool) (bx : Int32) (by9 : Int32) (x : Int32) (y : Int32) (ot : Int32) (tw : Int32) (no : Nat) (lim : Int32) (nr : Nat) (ni : Nat) (ret : Int32) (clm : Int64) (la : Int32) (rest : va_W) (hni : ni ≤ 30) (hit : kIt fPa fR ni) : kM l D (kTy cI cJ cZ cO) z mi yX4_worth wsX4_worth ({ frames := 3, cells := 0, slots := 0, locals := 67 } : Room) [.ref hm] ((hm, .inr (5, [.ref hM, .int (kb dr), .int (kb cl), .int bx, .int by9, .int x, .int y, .int ot, .int tw, .ref hH, .int (nI no), .int lim, .ref hA, .int (nI nr), .ref hP, .ref hPa, .ref hR, .ref hW, .ref hMe, .ref hV, .ref hDo, .ref hS, .int (nI ni), .int ret, .long clm, .int la])) :: (hM, .inl (cZ, 1681, .inl (fun j9 => kb (mk j9)))) :: (hH, .inl (cI, 10, .inl fH)) :: (hA, .inl (cI, 36, .inl fA)) :: (hP, .inl (cI, 3, .inl fP)) :: (hPa, .inl (cI, 30, .inl fPa)) :: (hR, .inl (cI, 30, .inl fR)) :: (hW, .inl (cI, 30, .inl fW)) :: (hMe, .inl (cI, 30, .inl fMe)) :: (hV, .inl (cI, 30, .inl fV)) :: (hDo, .inl (cI, 30, .inl fDo)) :: (hS, .inl (cJ, 30, .inr (.inl fS))) :: rest) (fun v u => v = some (.long (kWo fR fDo (kFl fPa fR fW fMe fV fA fP ni fS) ni)) ∧ u = (hm, .inr (5, [.ref hM, .int (kb dr), .int (kb cl), .int bx, .int by9, .int x, .int y, .int ot, .int tw, .ref hH, .int (nI no), .int lim, .ref hA, .int (nI nr), .ref hP, .ref hPa, .ref hR, .ref hW, .ref hMe, .ref hV, .ref hDo, .ref hS, .int (nI ni), .int ret, .long clm, .int 0])) :: (hM, .inl (cZ, 1681, .inl (fun j9 => kb (mk j9)))) :: (hH, .inl (cI, 10, .inl fH)) :: (hA, .inl (cI, 36, .inl fA)) :: (hP, .inl (cI, 3, .inl fP)) :: (hPa, .inl (cI, 30, .inl fPa)) :: (hR, .inl (cI, 30, .inl fR)) :: (hW, .inl (cI, 30, .inl fW)) :: (hMe, .inl (cI, 30, .inl fMe)) :: (hV, .inl (cI, 30, .inl fV)) :: (hDo, .inl (cI, 30, .inl fDo)) :: (hS, .inl (cJ, 30, .inr (.inl (kFl fPa fR fW fMe fV fA fP ni fS)))) :: rest) (fun _ _ => False) := by
  refine kM.of hfl (cc := cX4_worth) (maxL := 1) (ret := (some .long)) (by decide) rfl (Nat.le_of_ble_eq_true rfl) ?_
  intro p e s m args below meth c A ls hC hr hmn hG hl
  have hx := hC.x
  have hb := hC.b
  have hl : lv_has ls 1 [(0, .ref hm)] := hl
  have hi_RX4 : ∀ w ∈ wsX40, w ∈ wsX4_worth := fun w h => List.mem_cons_of_mem _ (List.mem_append_right _ h)
  refine lv_aload_n hx hb dX4_worth_0 rfl (lv_at hl 0 rfl) ?_
  refine lv_iconst (v := 0) hx hb dX4_worth_1 (by decide) ?_
  refine k_put (C := RX4) (T := TX4) (N := 26) (ci := 5) (v := .int 0) (fs := [.ref hM, .int (kb dr), .int (kb cl), .int bx, .int by9, .int x, .int y, .int ot, .int tw, .ref hH, .int (nI no), .int lim, .ref hA, .int (nI nr), .ref hP, .ref hPa, .ref hR, .ref hW, .ref hMe, .ref hV, .ref hDo, .ref hS, .int (nI ni), .int ret, .long clm, .int la]) hC hG hi_RX4 tyX4_ok nmX4 0 rfl rfl 25 (by decide) (List.mem_of_getElem? (i := 1) rfl) rfl rfl rfl rfl (Nat.le_of_ble_eq_true rfl) dX4_worth_2 (fun H locs hG => ?_)
  have hG : kG D A s ((hm, .inr (5, [.ref hM, .int (kb dr), .int (kb cl), .int bx, .int by9, .int x, .int y, .int ot, .int tw, .ref hH, .int (nI no), .int lim, .ref hA, .int (nI nr), .ref hP, .ref hPa, .ref hR, .ref hW, .ref hMe, .ref hV, .ref hDo, .ref hS, .int (nI ni), .int ret, .long clm, .int 0])) :: (hM, .inl (cZ, 1681, .inl (fun j9 => kb (mk j9)))) :: (hH, .inl (cI, 10, .inl fH)) :: (hA, .inl (cI, 36, .inl fA)) :: (hP, .inl (cI, 3, .inl fP)) :: (hPa, .inl (cI, 30, .inl fPa)) :: (hR, .inl (cI, 30, .inl fR)) :: (hW, .inl (cI, 30, .inl fW)) :: (hMe, .inl (cI, 30, .inl fMe)) :: (hV, .inl (cI, 30, .inl fV)) :: (hDo, .inl (cI, 30, .inl fDo)) :: (hS, .inl (cJ, 30, .inr (.inl fS))) :: rest) H locs := hG
  refine lv_aload_n hx hb dX4_worth_5 rfl (lv_at hl 0 rfl) ?_
  refine k_callV (nn := 0) (C := RX4) hC hG 0 rfl (ci := 5) rfl (K_X4_worthNow l hfl D cI cJ cZ cO z mi hm hM hH hA hP hPa hR hW hMe hV hDo hS mk fH fA fP fPa fR fW fMe fV fDo fS dr cl bx by9 x y ot tw no lim nr ni ret clm 0 rest  (by omega) hit) gX4_worth_X4_worthNow rfl rfl (by decide +kernel) ⟨(Nat.le_of_ble_eq_true rfl), (Nat.le_of_ble_eq_true rfl)⟩ hl.1 rfl (Nat.le_of_ble_eq_true rfl) dX4_worth_6 ⟨(Nat.le_of_ble_eq_true rfl), (Nat.le_of_ble_eq_true rfl)⟩ (fun _ _ _ _ _ _ hp => hp.elim) (fun v9 u9 H locs hp hG => ?_)
  obtain ⟨rfl, rfl⟩ := hp
  have hG : kG D A s ((hm, .inr (5, [.ref hM, .int (kb dr), .int (kb cl), .int bx, .int by9, .int x, .int y, .int ot, .int tw, .ref hH, .int (nI no), .int lim, .ref hA, .int (nI nr), .ref hP, .ref hPa, .ref hR, .ref hW, .ref hMe, .ref hV, .ref hDo, .ref hS, .int (nI ni), .int ret, .long clm, .int 0])) :: (hM, .inl (cZ, 1681, .inl (fun j9 => kb (mk j9)))) :: (hH, .inl (cI, 10, .inl fH)) :: (hA, .inl (cI, 36, .inl fA)) :: (hP, .inl (cI, 3, .inl fP)) :: (hPa, .inl (cI, 30, .inl fPa)) :: (hR, .inl (cI, 30, .inl fR)) :: (hW, .inl (cI, 30, .inl fW)) :: (hMe, .inl (cI, 30, .inl fMe)) :: (hV, .inl (cI, 30, .inl fV)) :: (hDo, .inl (cI, 30, .inl fDo)) :: (hS, .inl (cJ, 30, .inr (.inl (kFl fPa fR fW fMe fV fA fP ni fS)))) :: rest) H locs := hG
  refine W.widen (k := 0) (n := 0) (Nat.le_of_ble_eq_true rfl) (Nat.le_of_ble_eq_true rfl) ?_
  refine W.eq (g2 := F0 m 9 ls [.long (kWo fR fDo (kFl fPa fR fW fMe fV fA fP ni fS) ni)]) rfl ?_
  exact k_retl hC hr hG ⟨rfl, rfl⟩ (Nat.le_of_ble_eq_true rfl) (Nat.le_of_ble_eq_true rfl) dX4_worth_9

set_option maxHeartbeats 4000000 in
set_option maxRecDepth 100000 in
/-- due -/
theorem K_X4_due (l : Launch) (hfl : l.stackTraces = false) (D : va_G) (cI cJ cZ cO : ClassId) (z mi : Nat) (hm : Nat) (hM : Nat) (hH : Nat) (hA : Nat) (hP : Nat) (hPa : Nat) (hR : Nat) (hW : Nat) (hMe : Nat) (hV : Nat) (hDo : Nat) (hS : Nat) (mk : Nat → Bool) (fH : Nat → Int32) (fA : Nat → Int32) (fP : Nat → Int32) (fPa : Nat → Int32) (fR : Nat → Int32) (fW : Nat → Int32) (fMe : Nat → Int32) (fV : Nat → Int32) (fDo : Nat → Int32) (fS : Nat → Int64) (dr : Bool) (cl : Bool) (bx : Int32) (by9 : Int32) (x : Int32) (y : Int32) (ot : Int32) (tw : Int32) (no : Nat) (lim : Int32) (nr : Nat) (ni : Nat) (ret : Int32) (clm : Int64) (la : Int32) (rest : va_W) (hni : ni ≤ 30) (hit : kIt fPa fR ni) : kM l D (kTy cI cJ cZ cO) z mi yX4_due wsX4_due ({ frames := 4, cells := 0, slots := 0, locals := 89 } : Room) [.ref hm] ((hm, .inr (5, [.ref hM, .int (kb dr), .int (kb cl), .int bx, .int by9, .int x, .int y, .int ot, .int tw, .ref hH, .int (nI no), .int lim, .ref hA, .int (nI nr), .ref hP, .ref hPa, .ref hR, .ref hW, .ref hMe, .ref hV, .ref hDo, .ref hS, .int (nI ni), .int ret, .long clm, .int la])) :: (hM, .inl (cZ, 1681, .inl (fun j9 => kb (mk j9)))) :: (hH, .inl (cI, 10, .inl fH)) :: (hA, .inl (cI, 36, .inl fA)) :: (hP, .inl (cI, 3, .inl fP)) :: (hPa, .inl (cI, 30, .inl fPa)) :: (hR, .inl (cI, 30, .inl fR)) :: (hW, .inl (cI, 30, .inl fW)) :: (hMe, .inl (cI, 30, .inl fMe)) :: (hV, .inl (cI, 30, .inl fV)) :: (hDo, .inl (cI, 30, .inl fDo)) :: (hS, .inl (cJ, 30, .inr (.inl fS))) :: rest) (fun v u => v = some (.long (kDu (kWo fR fDo (kFl fPa fR fW fMe fV fA fP ni fS) ni) ret)) ∧ u = (hm, .inr (5, [.ref hM, .int (kb dr), .int (kb cl), .int bx, .int by9, .int x, .int y, .int ot, .int tw, .ref hH, .int (nI no), .int lim, .ref hA, .int (nI nr), .ref hP, .ref hPa, .ref hR, .ref hW, .ref hMe, .ref hV, .ref hDo, .ref hS, .int (nI ni), .int ret, .long clm, .int 0])) :: (hM, .inl (cZ, 1681, .inl (fun j9 => kb (mk j9)))) :: (hH, .inl (cI, 10, .inl fH)) :: (hA, .inl (cI, 36, .inl fA)) :: (hP, .inl (cI, 3, .inl fP)) :: (hPa, .inl (cI, 30, .inl fPa)) :: (hR, .inl (cI, 30, .inl fR)) :: (hW, .inl (cI, 30, .inl fW)) :: (hMe, .inl (cI, 30, .inl fMe)) :: (hV, .inl (cI, 30, .inl fV)) :: (hDo, .inl (cI, 30, .inl fDo)) :: (hS, .inl (cJ, 30, .inr (.inl (kFl fPa fR fW fMe fV fA fP ni fS)))) :: rest) (fun _ _ => False) := by
  refine kM.of hfl (cc := cX4_due) (maxL := 1) (ret := (some .long)) (by decide) rfl (Nat.le_of_ble_eq_true rfl) ?_
  intro p e s m args below meth c A ls hC hr hmn hG hl
  have hx := hC.x
  have hb := hC.b
  have hl : lv_has ls 1 [(0, .ref hm)] := hl
  have hi_RX4 : ∀ w ∈ wsX40, w ∈ wsX4_due := fun w h => List.mem_cons_of_mem _ (List.mem_append_right _ h)
  refine lv_aload_n hx hb dX4_due_0 rfl (lv_at hl 0 rfl) ?_
  refine lv_iconst (v := 0) hx hb dX4_due_1 (by decide) ?_
  refine k_put (C := RX4) (T := TX4) (N := 26) (ci := 5) (v := .int 0) (fs := [.ref hM, .int (kb dr), .int (kb cl), .int bx, .int by9, .int x, .int y, .int ot, .int tw, .ref hH, .int (nI no), .int lim, .ref hA, .int (nI nr), .ref hP, .ref hPa, .ref hR, .ref hW, .ref hMe, .ref hV, .ref hDo, .ref hS, .int (nI ni), .int ret, .long clm, .int la]) hC hG hi_RX4 tyX4_ok nmX4 0 rfl rfl 25 (by decide) (List.mem_of_getElem? (i := 1) rfl) rfl rfl rfl rfl (Nat.le_of_ble_eq_true rfl) dX4_due_2 (fun H locs hG => ?_)
  have hG : kG D A s ((hm, .inr (5, [.ref hM, .int (kb dr), .int (kb cl), .int bx, .int by9, .int x, .int y, .int ot, .int tw, .ref hH, .int (nI no), .int lim, .ref hA, .int (nI nr), .ref hP, .ref hPa, .ref hR, .ref hW, .ref hMe, .ref hV, .ref hDo, .ref hS, .int (nI ni), .int ret, .long clm, .int 0])) :: (hM, .inl (cZ, 1681, .inl (fun j9 => kb (mk j9)))) :: (hH, .inl (cI, 10, .inl fH)) :: (hA, .inl (cI, 36, .inl fA)) :: (hP, .inl (cI, 3, .inl fP)) :: (hPa, .inl (cI, 30, .inl fPa)) :: (hR, .inl (cI, 30, .inl fR)) :: (hW, .inl (cI, 30, .inl fW)) :: (hMe, .inl (cI, 30, .inl fMe)) :: (hV, .inl (cI, 30, .inl fV)) :: (hDo, .inl (cI, 30, .inl fDo)) :: (hS, .inl (cJ, 30, .inr (.inl fS))) :: rest) H locs := hG
  refine lv_aload_n hx hb dX4_due_5 rfl (lv_at hl 0 rfl) ?_
  refine k_callV (nn := 0) (C := RX4) hC hG 0 rfl (ci := 5) rfl (K_X4_dueNow l hfl D cI cJ cZ cO z mi hm hM hH hA hP hPa hR hW hMe hV hDo hS mk fH fA fP fPa fR fW fMe fV fDo fS dr cl bx by9 x y ot tw no lim nr ni ret clm 0 rest  (by omega) hit) gX4_due_X4_dueNow rfl rfl (by decide +kernel) ⟨(Nat.le_of_ble_eq_true rfl), (Nat.le_of_ble_eq_true rfl)⟩ hl.1 rfl (Nat.le_of_ble_eq_true rfl) dX4_due_6 ⟨(Nat.le_of_ble_eq_true rfl), (Nat.le_of_ble_eq_true rfl)⟩ (fun _ _ _ _ _ _ hp => hp.elim) (fun v9 u9 H locs hp hG => ?_)
  obtain ⟨rfl, rfl⟩ := hp
  have hG : kG D A s ((hm, .inr (5, [.ref hM, .int (kb dr), .int (kb cl), .int bx, .int by9, .int x, .int y, .int ot, .int tw, .ref hH, .int (nI no), .int lim, .ref hA, .int (nI nr), .ref hP, .ref hPa, .ref hR, .ref hW, .ref hMe, .ref hV, .ref hDo, .ref hS, .int (nI ni), .int ret, .long clm, .int 0])) :: (hM, .inl (cZ, 1681, .inl (fun j9 => kb (mk j9)))) :: (hH, .inl (cI, 10, .inl fH)) :: (hA, .inl (cI, 36, .inl fA)) :: (hP, .inl (cI, 3, .inl fP)) :: (hPa, .inl (cI, 30, .inl fPa)) :: (hR, .inl (cI, 30, .inl fR)) :: (hW, .inl (cI, 30, .inl fW)) :: (hMe, .inl (cI, 30, .inl fMe)) :: (hV, .inl (cI, 30, .inl fV)) :: (hDo, .inl (cI, 30, .inl fDo)) :: (hS, .inl (cJ, 30, .inr (.inl (kFl fPa fR fW fMe fV fA fP ni fS)))) :: rest) H locs := hG
  refine W.widen (k := 0) (n := 0) (Nat.le_of_ble_eq_true rfl) (Nat.le_of_ble_eq_true rfl) ?_
  refine W.eq (g2 := F0 m 9 ls [.long (kDu (kWo fR fDo (kFl fPa fR fW fMe fV fA fP ni fS) ni) ret)]) rfl ?_
  exact k_retl hC hr hG ⟨rfl, rfl⟩ (Nat.le_of_ble_eq_true rfl) (Nat.le_of_ble_eq_true rfl) dX4_due_9

set_option maxHeartbeats 4000000 in
set_option maxRecDepth 100000 in
/-- claim -/
theorem K_X4_claim (l : Launch) (hfl : l.stackTraces = false) (D : va_G) (cI cJ cZ cO : ClassId) (z mi : Nat) (hm : Nat) (hM : Nat) (hH : Nat) (hA : Nat) (hP : Nat) (hPa : Nat) (hR : Nat) (hW : Nat) (hMe : Nat) (hV : Nat) (hDo : Nat) (hS : Nat) (mk : Nat → Bool) (fH : Nat → Int32) (fA : Nat → Int32) (fP : Nat → Int32) (fPa : Nat → Int32) (fR : Nat → Int32) (fW : Nat → Int32) (fMe : Nat → Int32) (fV : Nat → Int32) (fDo : Nat → Int32) (fS : Nat → Int64) (dr : Bool) (cl : Bool) (bx : Int32) (by9 : Int32) (x : Int32) (y : Int32) (ot : Int32) (tw : Int32) (no : Nat) (lim : Int32) (nr : Nat) (ni : Nat) (ret : Int32) (clm : Int64) (la : Int32) (rest : va_W) (hni : ni ≤ 30) (hit : kIt fPa fR ni) : kM l D (kTy cI cJ cZ cO) z mi yX4_claim wsX4_claim ({ frames := 4, cells := 0, slots := 0, locals := 89 } : Room) [.ref hm] ((hm, .inr (5, [.ref hM, .int (kb dr), .int (kb cl), .int bx, .int by9, .int x, .int y, .int ot, .int tw, .ref hH, .int (nI no), .int lim, .ref hA, .int (nI nr), .ref hP, .ref hPa, .ref hR, .ref hW, .ref hMe, .ref hV, .ref hDo, .ref hS, .int (nI ni), .int ret, .long clm, .int la])) :: (hM, .inl (cZ, 1681, .inl (fun j9 => kb (mk j9)))) :: (hH, .inl (cI, 10, .inl fH)) :: (hA, .inl (cI, 36, .inl fA)) :: (hP, .inl (cI, 3, .inl fP)) :: (hPa, .inl (cI, 30, .inl fPa)) :: (hR, .inl (cI, 30, .inl fR)) :: (hW, .inl (cI, 30, .inl fW)) :: (hMe, .inl (cI, 30, .inl fMe)) :: (hV, .inl (cI, 30, .inl fV)) :: (hDo, .inl (cI, 30, .inl fDo)) :: (hS, .inl (cJ, 30, .inr (.inl fS))) :: rest) (fun v u => v = some (.long (bif !(decide ((lg_cmp ((kDu (kWo fR fDo (kFl fPa fR fW fMe fV fA fP ni fS) ni) ret) - clm) 0) ≤ (0 : Int32))) then (kDu (kWo fR fDo (kFl fPa fR fW fMe fV fA fP ni fS) ni) ret) - clm else 0)) ∧ u = (hm, .inr (5, [.ref hM, .int (kb dr), .int (kb cl), .int bx, .int by9, .int x, .int y, .int ot, .int tw, .ref hH, .int (nI no), .int lim, .ref hA, .int (nI nr), .ref hP, .ref hPa, .ref hR, .ref hW, .ref hMe, .ref hV, .ref hDo, .ref hS, .int (nI ni), .int ret, .long (bif !(decide ((lg_cmp ((kDu (kWo fR fDo (kFl fPa fR fW fMe fV fA fP ni fS) ni) ret) - clm) 0) ≤ (0 : Int32))) then clm + ((kDu (kWo fR fDo (kFl fPa fR fW fMe fV fA fP ni fS) ni) ret) - clm) else clm), .int (kGo (!(decide ((lg_cmp ((kDu (kWo fR fDo (kFl fPa fR fW fMe fV fA fP ni fS) ni) ret) - clm) 0) ≤ (0 : Int32)))) true true)])) :: (hM, .inl (cZ, 1681, .inl (fun j9 => kb (mk j9)))) :: (hH, .inl (cI, 10, .inl fH)) :: (hA, .inl (cI, 36, .inl fA)) :: (hP, .inl (cI, 3, .inl fP)) :: (hPa, .inl (cI, 30, .inl fPa)) :: (hR, .inl (cI, 30, .inl fR)) :: (hW, .inl (cI, 30, .inl fW)) :: (hMe, .inl (cI, 30, .inl fMe)) :: (hV, .inl (cI, 30, .inl fV)) :: (hDo, .inl (cI, 30, .inl fDo)) :: (hS, .inl (cJ, 30, .inr (.inl (kFl fPa fR fW fMe fV fA fP ni fS)))) :: rest) (fun _ _ => False) := by
  refine kM.of hfl (cc := cX4_claim) (maxL := 3) (ret := (some .long)) (by decide) rfl (Nat.le_of_ble_eq_true rfl) ?_
  intro p e s m args below meth c A ls hC hr hmn hG hl
  have hx := hC.x
  have hb := hC.b
  have hl : lv_has ls 3 [(0, .ref hm)] := hl
  have hi_RX4 : ∀ w ∈ wsX40, w ∈ wsX4_claim := fun w h => List.mem_cons_of_mem _ (List.mem_append_right _ h)
  refine lv_aload_n hx hb dX4_claim_0 rfl (lv_at hl 0 rfl) ?_
  refine k_callV (nn := 0) (C := RX4) hC hG 0 rfl (ci := 5) rfl (K_X4_dueNow l hfl D cI cJ cZ cO z mi hm hM hH hA hP hPa hR hW hMe hV hDo hS mk fH fA fP fPa fR fW fMe fV fDo fS dr cl bx by9 x y ot tw no lim nr ni ret clm la rest  (by omega) hit) gX4_claim_X4_dueNow rfl rfl (by decide +kernel) ⟨(Nat.le_of_ble_eq_true rfl), (Nat.le_of_ble_eq_true rfl)⟩ hl.1 rfl (Nat.le_of_ble_eq_true rfl) dX4_claim_1 ⟨(Nat.le_of_ble_eq_true rfl), (Nat.le_of_ble_eq_true rfl)⟩ (fun _ _ _ _ _ _ hp => hp.elim) (fun v9 u9 H locs hp hG => ?_)
  obtain ⟨rfl, rfl⟩ := hp
  have hG : kG D A s ((hm, .inr (5, [.ref hM, .int (kb dr), .int (kb cl), .int bx, .int by9, .int x, .int y, .int ot, .int tw, .ref hH, .int (nI no), .int lim, .ref hA, .int (nI nr), .ref hP, .ref hPa, .ref hR, .ref hW, .ref hMe, .ref hV, .ref hDo, .ref hS, .int (nI ni), .int ret, .long clm, .int la])) :: (hM, .inl (cZ, 1681, .inl (fun j9 => kb (mk j9)))) :: (hH, .inl (cI, 10, .inl fH)) :: (hA, .inl (cI, 36, .inl fA)) :: (hP, .inl (cI, 3, .inl fP)) :: (hPa, .inl (cI, 30, .inl fPa)) :: (hR, .inl (cI, 30, .inl fR)) :: (hW, .inl (cI, 30, .inl fW)) :: (hMe, .inl (cI, 30, .inl fMe)) :: (hV, .inl (cI, 30, .inl fV)) :: (hDo, .inl (cI, 30, .inl fDo)) :: (hS, .inl (cJ, 30, .inr (.inl (kFl fPa fR fW fMe fV fA fP ni fS)))) :: rest) H locs := hG
  refine W.widen (k := 0) (n := 0) (Nat.le_of_ble_eq_true rfl) (Nat.le_of_ble_eq_true rfl) ?_
  refine W.eq (g2 := F0 m 4 ls [.long (kDu (kWo fR fDo (kFl fPa fR fW fMe fV fA fP ni fS) ni) ret)]) rfl ?_
  refine lv_aload_n hx hb dX4_claim_4 rfl (lv_at hl 0 rfl) ?_
  refine k_get (C := RX4) (T := TX4) (N := 26) (ci := 5) (v := .long clm) (fs := [.ref hM, .int (kb dr), .int (kb cl), .int bx, .int by9, .int x, .int y, .int ot, .int tw, .ref hH, .int (nI no), .int lim, .ref hA, .int (nI nr), .ref hP, .ref hPa, .ref hR, .ref hW, .ref hMe, .ref hV, .ref hDo, .ref hS, .int (nI ni), .int ret, .long clm, .int la]) hC hG hi_RX4 0 rfl rfl 24 (by decide) (List.mem_of_getElem? (i := 1) rfl) rfl rfl dX4_claim_5 ?_
  refine lv_lsub hx hb dX4_claim_8 ?_
  refine lv_lstore_n (lv' := [(1, .long ((kDu (kWo fR fDo (kFl fPa fR fW fMe fV fA fP ni fS) ni) ret) - clm)), (0, .ref hm)]) hx hb dX4_claim_9 rfl hl (by decide) rfl (fun ls hl => ?_)
  refine lv_aload_n hx hb dX4_claim_10 rfl (lv_at hl 1 rfl) ?_
  refine lv_lload_n hx hb dX4_claim_11 rfl (lv_at hl 0 rfl) ?_
  refine lv_lconst (v := 0) hx hb dX4_claim_12 (by decide) ?_
  refine W.lcmp hx hb dX4_claim_13 ?_
  refine k_joinH (D := D) (A := A) (fun v3 : Int32 => F0 m 22 ls (.int v3 :: [.ref hm])) (fun v3 => v3 = kb (!(decide ((lg_cmp ((kDu (kWo fR fDo (kFl fPa fR fW fMe fV fA fP ni fS) ni) ret) - clm) 0) ≤ (0 : Int32))))) ((hm, .inr (5, [.ref hM, .int (kb dr), .int (kb cl), .int bx, .int by9, .int x, .int y, .int ot, .int tw, .ref hH, .int (nI no), .int lim, .ref hA, .int (nI nr), .ref hP, .ref hPa, .ref hR, .ref hW, .ref hMe, .ref hV, .ref hDo, .ref hS, .int (nI ni), .int ret, .long clm, .int la])) :: (hM, .inl (cZ, 1681, .inl (fun j9 => kb (mk j9)))) :: (hH, .inl (cI, 10, .inl fH)) :: (hA, .inl (cI, 36, .inl fA)) :: (hP, .inl (cI, 3, .inl fP)) :: (hPa, .inl (cI, 30, .inl fPa)) :: (hR, .inl (cI, 30, .inl fR)) :: (hW, .inl (cI, 30, .inl fW)) :: (hMe, .inl (cI, 30, .inl fMe)) :: (hV, .inl (cI, 30, .inl fV)) :: (hDo, .inl (cI, 30, .inl fDo)) :: (hS, .inl (cJ, 30, .inr (.inl (kFl fPa fR fW fMe fV fA fP ni fS)))) :: rest) ?_ (fun J2 => ?_)
  · intro v3 ev3 H locs hG
    have ev3 : v3 = kb (!(decide ((lg_cmp ((kDu (kWo fR fDo (kFl fPa fR fW fMe fV fA fP ni fS) ni) ret) - clm) 0) ≤ (0 : Int32)))) := ev3
    subst ev3
    refine lv_iconst (v := 1) hx hb dX4_claim_22 (by decide) ?_
    refine lv_iconst (v := 1) hx hb dX4_claim_23 (by decide) ?_
    refine k_callV (nn := 3) (C := RX4) hC hG 0 rfl (ci := 5) rfl (K_X4_goes l hfl D cI cJ cZ cO z mi hm hM hH hA hP hPa hR hW hMe hV hDo hS mk fH fA fP fPa fR fW fMe fV fDo (kFl fPa fR fW fMe fV fA fP ni fS) dr cl bx by9 x y ot tw no lim nr ni ret clm la rest (!(decide ((lg_cmp ((kDu (kWo fR fDo (kFl fPa fR fW fMe fV fA fP ni fS) ni) ret) - clm) 0) ≤ (0 : Int32)))) true true) gX4_claim_X4_goes rfl rfl (by decide +kernel) ⟨(Nat.le_of_ble_eq_true rfl), (Nat.le_of_ble_eq_true rfl)⟩ hl.1 rfl (Nat.le_of_ble_eq_true rfl) dX4_claim_24 ⟨(Nat.le_of_ble_eq_true rfl), (Nat.le_of_ble_eq_true rfl)⟩ (fun _ _ _ _ _ _ hp => hp.elim) (fun v9 u9 H locs hp hG => ?_)
    obtain ⟨rfl, rfl⟩ := hp
    have hG : kG D A s ((hm, .inr (5, [.ref hM, .int (kb dr), .int (kb cl), .int bx, .int by9, .int x, .int y, .int ot, .int tw, .ref hH, .int (nI no), .int lim, .ref hA, .int (nI nr), .ref hP, .ref hPa, .ref hR, .ref hW, .ref hMe, .ref hV, .ref hDo, .ref hS, .int (nI ni), .int ret, .long clm, .int (kGo (!(decide ((lg_cmp ((kDu (kWo fR fDo (kFl fPa fR fW fMe fV fA fP ni fS) ni) ret) - clm) 0) ≤ (0 : Int32)))) true true)])) :: (hM, .inl (cZ, 1681, .inl (fun j9 => kb (mk j9)))) :: (hH, .inl (cI, 10, .inl fH)) :: (hA, .inl (cI, 36, .inl fA)) :: (hP, .inl (cI, 3, .inl fP)) :: (hPa, .inl (cI, 30, .inl fPa)) :: (hR, .inl (cI, 30, .inl fR)) :: (hW, .inl (cI, 30, .inl fW)) :: (hMe, .inl (cI, 30, .inl fMe)) :: (hV, .inl (cI, 30, .inl fV)) :: (hDo, .inl (cI, 30, .inl fDo)) :: (hS, .inl (cJ, 30, .inr (.inl (kFl fPa fR fW fMe fV fA fP ni fS)))) :: rest) H locs := hG
    refine W.widen (k := 0) (n := 0) (Nat.le_of_ble_eq_true rfl) (Nat.le_of_ble_eq_true rfl) ?_
    refine W.eq (g2 := F0 m 27 ls [.int (kb (!(decide ((lg_cmp ((kDu (kWo fR fDo (kFl fPa fR fW fMe fV fA fP ni fS) ni) ret) - clm) 0) ≤ (0 : Int32)))))]) rfl ?_
    refine k_ifB_ne (tgt := 32) hx hb dX4_claim_27 (by decide) (fun c_4 => ?_) (fun c_4 => ?_)
    · refine lv_aload_n hx hb dX4_claim_32 rfl (lv_at hl 1 rfl) ?_
      refine lv_dup hx hb dX4_claim_33 rfl ?_
      refine k_get (C := RX4) (T := TX4) (N := 26) (ci := 5) (v := .long clm) (fs := [.ref hM, .int (kb dr), .int (kb cl), .int bx, .int by9, .int x, .int y, .int ot, .int tw, .ref hH, .int (nI no), .int lim, .ref hA, .int (nI nr), .ref hP, .ref hPa, .ref hR, .ref hW, .ref hMe, .ref hV, .ref hDo, .ref hS, .int (nI ni), .int ret, .long clm, .int (kGo (!(decide ((lg_cmp ((kDu (kWo fR fDo (kFl fPa fR fW fMe fV fA fP ni fS) ni) ret) - clm) 0) ≤ (0 : Int32)))) true true)]) hC hG hi_RX4 0 rfl rfl 24 (by decide) (List.mem_of_getElem? (i := 1) rfl) rfl rfl dX4_claim_34 ?_
      refine lv_lload_n hx hb dX4_claim_37 rfl (lv_at hl 0 rfl) ?_
      refine lv_ladd hx hb dX4_claim_38 ?_
      refine k_put (C := RX4) (T := TX4) (N := 26) (ci := 5) (v := .long (clm + ((kDu (kWo fR fDo (kFl fPa fR fW fMe fV fA fP ni fS) ni) ret) - clm))) (fs := [.ref hM, .int (kb dr), .int (kb cl), .int bx, .int by9, .int x, .int y, .int ot, .int tw, .ref hH, .int (nI no), .int lim, .ref hA, .int (nI nr), .ref hP, .ref hPa, .ref hR, .ref hW, .ref hMe, .ref hV, .ref hDo, .ref hS, .int (nI ni), .int ret, .long clm, .int (kGo (!(decide ((lg_cmp ((kDu (kWo fR fDo (kFl fPa fR fW fMe fV fA fP ni fS) ni) ret) - clm) 0) ≤ (0 : Int32)))) true true)]) hC hG hi_RX4 tyX4_ok nmX4 0 rfl rfl 24 (by decide) (List.mem_of_getElem? (i := 1) rfl) rfl rfl rfl rfl (Nat.le_of_ble_eq_true rfl) dX4_claim_39 (fun H locs hG => ?_)
      have hG : kG D A s ((hm, .inr (5, [.ref hM, .int (kb dr), .int (kb cl), .int bx, .int by9, .int x, .int y, .int ot, .int tw, .ref hH, .int (nI no), .int lim, .ref hA, .int (nI nr), .ref hP, .ref hPa, .ref hR, .ref hW, .ref hMe, .ref hV, .ref hDo, .ref hS, .int (nI ni), .int ret, .long (clm + ((kDu (kWo fR fDo (kFl fPa fR fW fMe fV fA fP ni fS) ni) ret) - clm)), .int (kGo (!(decide ((lg_cmp ((kDu (kWo fR fDo (kFl fPa fR fW fMe fV fA fP ni fS) ni) ret) - clm) 0) ≤ (0 : Int32)))) true true)])) :: (hM, .inl (cZ, 1681, .inl (fun j9 => kb (mk j9)))) :: (hH, .inl (cI, 10, .inl fH)) :: (hA, .inl (cI, 36, .inl fA)) :: (hP, .inl (cI, 3, .inl fP)) :: (hPa, .inl (cI, 30, .inl fPa)) :: (hR, .inl (cI, 30, .inl fR)) :: (hW, .inl (cI, 30, .inl fW)) :: (hMe, .inl (cI, 30, .inl fMe)) :: (hV, .inl (cI, 30, .inl fV)) :: (hDo, .inl (cI, 30, .inl fDo)) :: (hS, .inl (cJ, 30, .inr (.inl (kFl fPa fR fW fMe fV fA fP ni fS)))) :: rest) H locs := hG
      refine lv_lload_n hx hb dX4_claim_42 rfl (lv_at hl 0 rfl) ?_
      exact k_retl hC hr hG ⟨by rw [c_4]; first | done | rfl, by rw [c_4]; first | done | rfl⟩ (Nat.le_of_ble_eq_true rfl) (Nat.le_of_ble_eq_true rfl) dX4_claim_43
    · refine lv_lconst (v := 0) hx hb dX4_claim_30 (by decide) ?_
      exact k_retl hC hr hG ⟨by rw [c_4]; first | done | rfl, by rw [c_4]; first | done | rfl⟩ (Nat.le_of_ble_eq_true rfl) (Nat.le_of_ble_eq_true rfl) dX4_claim_31
  refine k_if_le (tgt := 21) hx hb dX4_claim_14 (by decide) (fun c_1 => ?_) (fun c_1 => ?_)
  · refine lv_iconst (v := 0) hx hb dX4_claim_21 (by decide) ?_
    exact J2 0 (by rw [c_1]; first | done | rfl) _ _ hG
  · refine lv_iconst (v := 1) hx hb dX4_claim_17 (by decide) ?_
    refine lv_goto (tgt := 22) hx hb dX4_claim_18 (by decide) ?_
    exact J2 1 (by rw [c_1]; first | done | rfl) _ _ hG

set_option maxHeartbeats 4000000 in
set_option maxRecDepth 100000 in
/-- isBelow -/
theorem K_X4_isBelow (l : Launch) (hfl : l.stackTraces = false) (D : va_G) (cI cJ cZ cO : ClassId) (z mi : Nat) (hm : Nat) (hM : Nat) (hH : Nat) (hA : Nat) (hP : Nat) (hPa : Nat) (hR : Nat) (hW : Nat) (hMe : Nat) (hV : Nat) (hDo : Nat) (hS : Nat) (mk : Nat → Bool) (fH : Nat → Int32) (fA : Nat → Int32) (fP : Nat → Int32) (fPa : Nat → Int32) (fR : Nat → Int32) (fW : Nat → Int32) (fMe : Nat → Int32) (fV : Nat → Int32) (fDo : Nat → Int32) (fS : Nat → Int64) (dr : Bool) (cl : Bool) (bx : Int32) (by9 : Int32) (x : Int32) (y : Int32) (ot : Int32) (tw : Int32) (no : Nat) (lim : Int32) (nr : Nat) (ni : Nat) (ret : Int32) (clm : Int64) (la : Int32) (rest : va_W) (k o : Nat) (hk : k < ni) (ho : o < ni) (hni : ni ≤ 30) (hit : kIt fPa fR ni) : kM l D (kTy cI cJ cZ cO) z mi yX4_isBelow wsX4_isBelow ({ frames := 0, cells := 0, slots := 0, locals := 0 } : Room) [.ref hm, .int (nI k), .int (nI o)] ((hm, .inr (5, [.ref hM, .int (kb dr), .int (kb cl), .int bx, .int by9, .int x, .int y, .int ot, .int tw, .ref hH, .int (nI no), .int lim, .ref hA, .int (nI nr), .ref hP, .ref hPa, .ref hR, .ref hW, .ref hMe, .ref hV, .ref hDo, .ref hS, .int (nI ni), .int ret, .long clm, .int la])) :: (hM, .inl (cZ, 1681, .inl (fun j9 => kb (mk j9)))) :: (hH, .inl (cI, 10, .inl fH)) :: (hA, .inl (cI, 36, .inl fA)) :: (hP, .inl (cI, 3, .inl fP)) :: (hPa, .inl (cI, 30, .inl fPa)) :: (hR, .inl (cI, 30, .inl fR)) :: (hW, .inl (cI, 30, .inl fW)) :: (hMe, .inl (cI, 30, .inl fMe)) :: (hV, .inl (cI, 30, .inl fV)) :: (hDo, .inl (cI, 30, .inl fDo)) :: (hS, .inl (cJ, 30, .inr (.inl fS))) :: rest) (fun v u => v = some (.int (kb (kBl fPa (nI k) (nI o)))) ∧ u = (hm, .inr (5, [.ref hM, .int (kb dr), .int (kb cl), .int bx, .int by9, .int x, .int y, .int ot, .int tw, .ref hH, .int (nI no), .int lim, .ref hA, .int (nI nr), .ref hP, .ref hPa, .ref hR, .ref hW, .ref hMe, .ref hV, .ref hDo, .ref hS, .int (nI ni), .int ret, .long clm, .int la])) :: (hM, .inl (cZ, 1681, .inl (fun j9 => kb (mk j9)))) :: (hH, .inl (cI, 10, .inl fH)) :: (hA, .inl (cI, 36, .inl fA)) :: (hP, .inl (cI, 3, .inl fP)) :: (hPa, .inl (cI, 30, .inl fPa)) :: (hR, .inl (cI, 30, .inl fR)) :: (hW, .inl (cI, 30, .inl fW)) :: (hMe, .inl (cI, 30, .inl fMe)) :: (hV, .inl (cI, 30, .inl fV)) :: (hDo, .inl (cI, 30, .inl fDo)) :: (hS, .inl (cJ, 30, .inr (.inl fS))) :: rest) (fun _ _ => False) := by
  refine kM.of hfl (cc := cX4_isBelow) (maxL := 4) (ret := (some .boolean)) (by decide) rfl (Nat.le_of_ble_eq_true rfl) ?_
  intro p e s m args below meth c A ls hC hr hmn hG hl
  have hx := hC.x
  have hb := hC.b
  have hl : lv_has ls 4 [(0, .ref hm), (1, .int (nI k)), (2, .int (nI o))] := hl
  have hi_RX4 : ∀ w ∈ wsX40, w ∈ wsX4_isBelow := fun w h => List.mem_cons_of_mem _ (List.mem_append_right _ h)
  refine lv_iload_n hx hb dX4_isBelow_0 rfl (lv_at hl 1 rfl) ?_
  refine lv_istore_n (lv' := [(3, .int (nI k)), (0, .ref hm), (1, .int (nI k)), (2, .int (nI o))]) hx hb dX4_isBelow_1 rfl hl (by decide) rfl (fun ls hl => ?_)
  refine k_loop (σ := Nat × Int32) (fun q9 => (q9.2 = -1 ∨ ∃ j, j < q9.1 ∧ j < ni ∧ q9.2 = nI j) ∧ kUp fPa (nI o) q9.1 q9.2 = kUp fPa (nI o) 31 (nI k)) (fun q9 => q9.1) (fun q9 => (hm, .inr (5, [.ref hM, .int (kb dr), .int (kb cl), .int bx, .int by9, .int x, .int y, .int ot, .int tw, .ref hH, .int (nI no), .int lim, .ref hA, .int (nI nr), .ref hP, .ref hPa, .ref hR, .ref hW, .ref hMe, .ref hV, .ref hDo, .ref hS, .int (nI ni), .int ret, .long clm, .int la])) :: (hM, .inl (cZ, 1681, .inl (fun j9 => kb (mk j9)))) :: (hH, .inl (cI, 10, .inl fH)) :: (hA, .inl (cI, 36, .inl fA)) :: (hP, .inl (cI, 3, .inl fP)) :: (hPa, .inl (cI, 30, .inl fPa)) :: (hR, .inl (cI, 30, .inl fR)) :: (hW, .inl (cI, 30, .inl fW)) :: (hMe, .inl (cI, 30, .inl fMe)) :: (hV, .inl (cI, 30, .inl fV)) :: (hDo, .inl (cI, 30, .inl fDo)) :: (hS, .inl (cJ, 30, .inr (.inl fS))) :: rest) (fun q9 => [(0, .ref hm), (1, .int (nI k)), (2, .int (nI o)), (3, .int q9.2)]) 2 [] ?_ ⟨31, nI k⟩ (⟨Or.inr ⟨k, by show k < 31; omega, hk, rfl⟩, rfl⟩) hG (lv_sub hl [1, 2, 3, 0] rfl)
  intro q9
  obtain ⟨n, kk⟩ := q9
  intro hI ih H locs ls hG hl
  have hI : (kk = -1 ∨ ∃ j, j < n ∧ j < ni ∧ kk = nI j) ∧ kUp fPa (nI o) n kk = kUp fPa (nI o) 31 (nI k) := hI
  have hG : kG D A s ((hm, .inr (5, [.ref hM, .int (kb dr), .int (kb cl), .int bx, .int by9, .int x, .int y, .int ot, .int tw, .ref hH, .int (nI no), .int lim, .ref hA, .int (nI nr), .ref hP, .ref hPa, .ref hR, .ref hW, .ref hMe, .ref hV, .ref hDo, .ref hS, .int (nI ni), .int ret, .long clm, .int la])) :: (hM, .inl (cZ, 1681, .inl (fun j9 => kb (mk j9)))) :: (hH, .inl (cI, 10, .inl fH)) :: (hA, .inl (cI, 36, .inl fA)) :: (hP, .inl (cI, 3, .inl fP)) :: (hPa, .inl (cI, 30, .inl fPa)) :: (hR, .inl (cI, 30, .inl fR)) :: (hW, .inl (cI, 30, .inl fW)) :: (hMe, .inl (cI, 30, .inl fMe)) :: (hV, .inl (cI, 30, .inl fV)) :: (hDo, .inl (cI, 30, .inl fDo)) :: (hS, .inl (cJ, 30, .inr (.inl fS))) :: rest) H locs := hG
  have hl : lv_has ls 4 [(0, .ref hm), (1, .int (nI k)), (2, .int (nI o)), (3, .int kk)] := hl
  refine lv_iload_n hx hb dX4_isBelow_2 rfl (lv_at hl 3 rfl) ?_
  refine lv_iload_n hx hb dX4_isBelow_3 rfl (lv_at hl 2 rfl) ?_
  refine k_icmp_le (tgt := 17) hx hb dX4_isBelow_4 (by decide) (fun c_1 => ?_) (fun c_1 => ?_)
  · refine lv_iload_n hx hb dX4_isBelow_17 rfl (lv_at hl 3 rfl) ?_
    refine lv_iload_n hx hb dX4_isBelow_18 rfl (lv_at hl 2 rfl) ?_
    refine k_joinH (D := D) (A := A) (fun v4 : Int32 => F0 m 27 ls (.int v4 :: [])) (fun v4 => v4 = kb (decide (kk = (nI o)))) ((hm, .inr (5, [.ref hM, .int (kb dr), .int (kb cl), .int bx, .int by9, .int x, .int y, .int ot, .int tw, .ref hH, .int (nI no), .int lim, .ref hA, .int (nI nr), .ref hP, .ref hPa, .ref hR, .ref hW, .ref hMe, .ref hV, .ref hDo, .ref hS, .int (nI ni), .int ret, .long clm, .int la])) :: (hM, .inl (cZ, 1681, .inl (fun j9 => kb (mk j9)))) :: (hH, .inl (cI, 10, .inl fH)) :: (hA, .inl (cI, 36, .inl fA)) :: (hP, .inl (cI, 3, .inl fP)) :: (hPa, .inl (cI, 30, .inl fPa)) :: (hR, .inl (cI, 30, .inl fR)) :: (hW, .inl (cI, 30, .inl fW)) :: (hMe, .inl (cI, 30, .inl fMe)) :: (hV, .inl (cI, 30, .inl fV)) :: (hDo, .inl (cI, 30, .inl fDo)) :: (hS, .inl (cJ, 30, .inr (.inl fS))) :: rest) ?_ (fun J3 => ?_)
    · intro v4 ev4 H locs hG
      have ev4 : v4 = kb (decide (kk = (nI o))) := ev4
      subst ev4
      exact k_retz hC hr hG (kb_nar _) ⟨by unfold kBl; rw [← hI.2, kUp_stop c_1], rfl⟩ (Nat.le_of_ble_eq_true rfl) (Nat.le_of_ble_eq_true rfl) dX4_isBelow_27
    refine k_icmp_ne (tgt := 26) hx hb dX4_isBelow_19 (by decide) (fun c_2 => ?_) (fun c_2 => ?_)
    · refine lv_iconst (v := 0) hx hb dX4_isBelow_26 (by decide) ?_
      exact J3 0 (by rw [c_2]; first | done | rfl) _ _ hG
    · refine lv_iconst (v := 1) hx hb dX4_isBelow_22 (by decide) ?_
      refine lv_goto (tgt := 27) hx hb dX4_isBelow_23 (by decide) ?_
      exact J3 1 (by rw [c_2]; first | done | rfl) _ _ hG
  · obtain ⟨h9, h8⟩ := hI
    rcases h9 with rfl | ⟨j, hj1, hj2, rfl⟩
    · exact absurd (c_1.symm.trans (k_nIneg (j := 0) (by omega))) (by decide)
    obtain ⟨n, rfl⟩ : ∃ n', n = n' + 1 := ⟨n - 1, by omega⟩
    rw [kUp_step c_1, nI_clamp (by omega)] at h8
    have hI2 : (fPa j = -1 ∨ ∃ q, q < n ∧ q < ni ∧ fPa j = nI q) ∧ kUp fPa (nI o) n (fPa j) = kUp fPa (nI o) 31 (nI k) := by
      refine ⟨?_, h8⟩
      rcases (hit j hj2).2 with h7 | ⟨q, h7, h6⟩
      · exact Or.inl h7
      · exact Or.inr ⟨q, by omega, by omega, h6⟩
    refine lv_aload_n hx hb dX4_isBelow_7 rfl (lv_at hl 0 rfl) ?_
    refine k_get (C := RX4) (T := TX4) (N := 26) (ci := 5) (v := .ref hPa) (fs := [.ref hM, .int (kb dr), .int (kb cl), .int bx, .int by9, .int x, .int y, .int ot, .int tw, .ref hH, .int (nI no), .int lim, .ref hA, .int (nI nr), .ref hP, .ref hPa, .ref hR, .ref hW, .ref hMe, .ref hV, .ref hDo, .ref hS, .int (nI ni), .int ret, .long clm, .int la]) hC hG hi_RX4 0 rfl rfl 15 (by decide) (List.mem_of_getElem? (i := 1) rfl) rfl rfl dX4_isBelow_8 ?_
    refine lv_iload_n hx hb dX4_isBelow_11 rfl (lv_at hl 3 rfl) ?_
    refine va_iald (f := fPa) hx hb hC.K hG.1 5 0 rfl rfl (vp_in_nI (by omega) (by decide)) dX4_isBelow_12 ?_
    refine k_topi (y := fPa j) (congrArg fPa (nI_clamp (by omega))) ?_
    refine lv_istore_n (lv' := [(3, .int (fPa j)), (0, .ref hm), (1, .int (nI k)), (2, .int (nI o))]) hx hb dX4_isBelow_13 rfl hl (by decide) rfl (fun ls hl => ?_)
    refine lv_goto (tgt := 2) hx hb dX4_isBelow_14 (by decide) ?_
    exact ih ⟨n, fPa j⟩ (hI2) (Nat.lt_succ_self n) _ _ _ hG (lv_sub hl [1, 2, 3, 0] rfl)

set_option maxHeartbeats 4000000 in
set_option maxRecDepth 100000 in
/-- dearest -/
theorem K_X4_dearest (l : Launch) (hfl : l.stackTraces = false) (D : va_G) (cI cJ cZ cO : ClassId) (z mi : Nat) (hm : Nat) (hM : Nat) (hH : Nat) (hA : Nat) (hP : Nat) (hPa : Nat) (hR : Nat) (hW : Nat) (hMe : Nat) (hV : Nat) (hDo : Nat) (hS : Nat) (mk : Nat → Bool) (fH : Nat → Int32) (fA : Nat → Int32) (fP : Nat → Int32) (fPa : Nat → Int32) (fR : Nat → Int32) (fW : Nat → Int32) (fMe : Nat → Int32) (fV : Nat → Int32) (fDo : Nat → Int32) (fS : Nat → Int64) (dr : Bool) (cl : Bool) (bx : Int32) (by9 : Int32) (x : Int32) (y : Int32) (ot : Int32) (tw : Int32) (no : Nat) (lim : Int32) (nr : Nat) (ni : Nat) (ret : Int32) (clm : Int64) (la : Int32) (rest : va_W) (q : Int32) (hni : ni ≤ 30) (hit : kIt fPa fR ni) : kM l D (kTy cI cJ cZ cO) z mi yX4_dearest wsX4_dearest ({ frames := 2, cells := 0, slots := 0, locals := 44 } : Room) [.ref hm, .int q] ((hm, .inr (5, [.ref hM, .int (kb dr), .int (kb cl), .int bx, .int by9, .int x, .int y, .int ot, .int tw, .ref hH, .int (nI no), .int lim, .ref hA, .int (nI nr), .ref hP, .ref hPa, .ref hR, .ref hW, .ref hMe, .ref hV, .ref hDo, .ref hS, .int (nI ni), .int ret, .long clm, .int la])) :: (hM, .inl (cZ, 1681, .inl (fun j9 => kb (mk j9)))) :: (hH, .inl (cI, 10, .inl fH)) :: (hA, .inl (cI, 36, .inl fA)) :: (hP, .inl (cI, 3, .inl fP)) :: (hPa, .inl (cI, 30, .inl fPa)) :: (hR, .inl (cI, 30, .inl fR)) :: (hW, .inl (cI, 30, .inl fW)) :: (hMe, .inl (cI, 30, .inl fMe)) :: (hV, .inl (cI, 30, .inl fV)) :: (hDo, .inl (cI, 30, .inl fDo)) :: (hS, .inl (cJ, 30, .inr (.inl fS))) :: rest) (fun v u => v = some (.int (bif kIn q 0 (nI ni - 1) then kDr fPa fR (kFl fPa fR fW fMe fV fA fP ni fS) q q.toNatClampNeg (ni - q.toNatClampNeg) else 0)) ∧ u = (hm, .inr (5, [.ref hM, .int (kb dr), .int (kb cl), .int bx, .int by9, .int x, .int y, .int ot, .int tw, .ref hH, .int (nI no), .int lim, .ref hA, .int (nI nr), .ref hP, .ref hPa, .ref hR, .ref hW, .ref hMe, .ref hV, .ref hDo, .ref hS, .int (nI ni), .int ret, .long clm, .int (kGo (kIn q 0 (nI ni - 1)) true true)])) :: (hM, .inl (cZ, 1681, .inl (fun j9 => kb (mk j9)))) :: (hH, .inl (cI, 10, .inl fH)) :: (hA, .inl (cI, 36, .inl fA)) :: (hP, .inl (cI, 3, .inl fP)) :: (hPa, .inl (cI, 30, .inl fPa)) :: (hR, .inl (cI, 30, .inl fR)) :: (hW, .inl (cI, 30, .inl fW)) :: (hMe, .inl (cI, 30, .inl fMe)) :: (hV, .inl (cI, 30, .inl fV)) :: (hDo, .inl (cI, 30, .inl fDo)) :: (hS, .inl (cJ, 30, .inr (.inl (bif kIn q 0 (nI ni - 1) then kFl fPa fR fW fMe fV fA fP ni fS else fS)))) :: rest) (fun _ _ => False) := by
  refine kM.of hfl (cc := cX4_dearest) (maxL := 5) (ret := (some .int)) (by decide) rfl (Nat.le_of_ble_eq_true rfl) ?_
  intro p e s m args below meth c A ls hC hr hmn hG hl
  have hx := hC.x
  have hb := hC.b
  have hl : lv_has ls 5 [(0, .ref hm), (1, .int q)] := hl
  have hi_RX4 : ∀ w ∈ wsX40, w ∈ wsX4_dearest := fun w h => List.mem_cons_of_mem _ (List.mem_append_right _ h)
  refine lv_aload_n hx hb dX4_dearest_0 rfl (lv_at hl 0 rfl) ?_
  refine lv_aload_n hx hb dX4_dearest_1 rfl (lv_at hl 0 rfl) ?_
  refine lv_iload_n hx hb dX4_dearest_2 rfl (lv_at hl 1 rfl) ?_
  refine k_callV (nn := 1) (C := RX4) hC hG 0 rfl (ci := 5) rfl (K_X4_isItem l hfl D cI cJ cZ cO z mi hm hM hH hA hP hPa hR hW hMe hV hDo hS mk fH fA fP fPa fR fW fMe fV fDo fS dr cl bx by9 x y ot tw no lim nr ni ret clm la rest q) gX4_dearest_X4_isItem rfl rfl (by decide +kernel) ⟨(Nat.le_of_ble_eq_true rfl), (Nat.le_of_ble_eq_true rfl)⟩ hl.1 rfl (Nat.le_of_ble_eq_true rfl) dX4_dearest_3 ⟨(Nat.le_of_ble_eq_true rfl), (Nat.le_of_ble_eq_true rfl)⟩ (fun _ _ _ _ _ _ hp => hp.elim) (fun v9 u9 H locs hp hG => ?_)
  obtain ⟨rfl, rfl⟩ := hp
  refine W.widen (k := 0) (n := 0) (Nat.le_of_ble_eq_true rfl) (Nat.le_of_ble_eq_true rfl) ?_
  refine W.eq (g2 := F0 m 6 ls [.int (kb (kIn q 0 (nI ni - 1))), .ref hm]) rfl ?_
  refine lv_iconst (v := 1) hx hb dX4_dearest_6 (by decide) ?_
  refine lv_iconst (v := 1) hx hb dX4_dearest_7 (by decide) ?_
  refine k_callV (nn := 3) (C := RX4) hC hG 0 rfl (ci := 5) rfl (K_X4_goes l hfl D cI cJ cZ cO z mi hm hM hH hA hP hPa hR hW hMe hV hDo hS mk fH fA fP fPa fR fW fMe fV fDo fS dr cl bx by9 x y ot tw no lim nr ni ret clm la rest (kIn q 0 (nI ni - 1)) true true) gX4_dearest_X4_goes rfl rfl (by decide +kernel) ⟨(Nat.le_of_ble_eq_true rfl), (Nat.le_of_ble_eq_true rfl)⟩ hl.1 rfl (Nat.le_of_ble_eq_true rfl) dX4_dearest_8 ⟨(Nat.le_of_ble_eq_true rfl), (Nat.le_of_ble_eq_true rfl)⟩ (fun _ _ _ _ _ _ hp => hp.elim) (fun v9 u9 H locs hp hG => ?_)
  obtain ⟨rfl, rfl⟩ := hp
  have hG : kG D A s ((hm, .inr (5, [.ref hM, .int (kb dr), .int (kb cl), .int bx, .int by9, .int x, .int y, .int ot, .int tw, .ref hH, .int (nI no), .int lim, .ref hA, .int (nI nr), .ref hP, .ref hPa, .ref hR, .ref hW, .ref hMe, .ref hV, .ref hDo, .ref hS, .int (nI ni), .int ret, .long clm, .int (kGo (kIn q 0 (nI ni - 1)) true true)])) :: (hM, .inl (cZ, 1681, .inl (fun j9 => kb (mk j9)))) :: (hH, .inl (cI, 10, .inl fH)) :: (hA, .inl (cI, 36, .inl fA)) :: (hP, .inl (cI, 3, .inl fP)) :: (hPa, .inl (cI, 30, .inl fPa)) :: (hR, .inl (cI, 30, .inl fR)) :: (hW, .inl (cI, 30, .inl fW)) :: (hMe, .inl (cI, 30, .inl fMe)) :: (hV, .inl (cI, 30, .inl fV)) :: (hDo, .inl (cI, 30, .inl fDo)) :: (hS, .inl (cJ, 30, .inr (.inl fS))) :: rest) H locs := hG
  refine W.widen (k := 0) (n := 0) (Nat.le_of_ble_eq_true rfl) (Nat.le_of_ble_eq_true rfl) ?_
  refine W.eq (g2 := F0 m 11 ls [.int (kb (kIn q 0 (nI ni - 1)))]) rfl ?_
  refine k_ifB_ne (tgt := 16) hx hb dX4_dearest_11 (by decide) (fun c_1 => ?_) (fun c_1 => ?_)
  · obtain ⟨o, ho, rfl⟩ := kIn_ex (by omega) c_1
    refine lv_aload_n hx hb dX4_dearest_16 rfl (lv_at hl 0 rfl) ?_
    refine k_callV (nn := 0) (C := RX4) hC hG 0 rfl (ci := 5) rfl (K_X4_fills l hfl D cI cJ cZ cO z mi hm hM hH hA hP hPa hR hW hMe hV hDo hS mk fH fA fP fPa fR fW fMe fV fDo fS dr cl bx by9 x y ot tw no lim nr ni ret clm (kGo (kIn (nI o) 0 (nI ni - 1)) true true) rest (by omega) hit) gX4_dearest_X4_fills rfl rfl (by decide +kernel) ⟨(Nat.le_of_ble_eq_true rfl), (Nat.le_of_ble_eq_true rfl)⟩ hl.1 rfl (Nat.le_of_ble_eq_true rfl) dX4_dearest_17 ⟨(Nat.le_of_ble_eq_true rfl), (Nat.le_of_ble_eq_true rfl)⟩ (fun _ _ _ _ _ _ hp => hp.elim) (fun v9 u9 H locs hp hG => ?_)
    obtain ⟨rfl, rfl⟩ := hp
    have hG : kG D A s ((hm, .inr (5, [.ref hM, .int (kb dr), .int (kb cl), .int bx, .int by9, .int x, .int y, .int ot, .int tw, .ref hH, .int (nI no), .int lim, .ref hA, .int (nI nr), .ref hP, .ref hPa, .ref hR, .ref hW, .ref hMe, .ref hV, .ref hDo, .ref hS, .int (nI ni), .int ret, .long clm, .int (kGo (kIn (nI o) 0 (nI ni - 1)) true true)])) :: (hM, .inl (cZ, 1681, .inl (fun j9 => kb (mk j9)))) :: (hH, .inl (cI, 10, .inl fH)) :: (hA, .inl (cI, 36, .inl fA)) :: (hP, .inl (cI, 3, .inl fP)) :: (hPa, .inl (cI, 30, .inl fPa)) :: (hR, .inl (cI, 30, .inl fR)) :: (hW, .inl (cI, 30, .inl fW)) :: (hMe, .inl (cI, 30, .inl fMe)) :: (hV, .inl (cI, 30, .inl fV)) :: (hDo, .inl (cI, 30, .inl fDo)) :: (hS, .inl (cJ, 30, .inr (.inl (kFl fPa fR fW fMe fV fA fP ni fS)))) :: rest) H locs := hG
    refine W.widen (k := 0) (n := 0) (Nat.le_of_ble_eq_true rfl) (Nat.le_of_ble_eq_true rfl) ?_
    refine W.eq (g2 := F0 m 20 ls []) rfl ?_
    refine lv_iconst (v := (-1)) hx hb dX4_dearest_20 (by decide) ?_
    refine lv_istore_n (lv' := [(2, .int (-1)), (0, .ref hm), (1, .int (nI o))]) hx hb dX4_dearest_21 rfl hl (by decide) rfl (fun ls hl => ?_)
    refine lv_iload_n hx hb dX4_dearest_22 rfl (lv_at hl 2 rfl) ?_
    refine lv_istore_n (lv' := [(3, .int (nI o)), (2, .int (-1)), (0, .ref hm), (1, .int (nI o))]) hx hb dX4_dearest_23 rfl hl (by decide) rfl (fun ls hl => ?_)
    refine k_loop (σ := Nat) (fun q9 => o + q9 ≤ ni) (fun q9 => ni - (o + q9)) (fun q9 => (hm, .inr (5, [.ref hM, .int (kb dr), .int (kb cl), .int bx, .int by9, .int x, .int y, .int ot, .int tw, .ref hH, .int (nI no), .int lim, .ref hA, .int (nI nr), .ref hP, .ref hPa, .ref hR, .ref hW, .ref hMe, .ref hV, .ref hDo, .ref hS, .int (nI ni), .int ret, .long clm, .int (kGo (kIn (nI o) 0 (nI ni - 1)) true true)])) :: (hM, .inl (cZ, 1681, .inl (fun j9 => kb (mk j9)))) :: (hH, .inl (cI, 10, .inl fH)) :: (hA, .inl (cI, 36, .inl fA)) :: (hP, .inl (cI, 3, .inl fP)) :: (hPa, .inl (cI, 30, .inl fPa)) :: (hR, .inl (cI, 30, .inl fR)) :: (hW, .inl (cI, 30, .inl fW)) :: (hMe, .inl (cI, 30, .inl fMe)) :: (hV, .inl (cI, 30, .inl fV)) :: (hDo, .inl (cI, 30, .inl fDo)) :: (hS, .inl (cJ, 30, .inr (.inl (kFl fPa fR fW fMe fV fA fP ni fS)))) :: rest) (fun q9 => [(0, .ref hm), (1, .int (nI o)), (2, .int (kDr fPa fR (kFl fPa fR fW fMe fV fA fP ni fS) (nI o) o q9)), (3, .int (nI (o + q9)))]) 24 [] ?_ 0 (show o + 0 ≤ ni by omega) hG (lv_sub hl [2, 3, 1, 0] rfl)
    intro q9
    obtain ⟨n, rfl⟩ : ∃ z9, z9 = q9 := ⟨_, rfl⟩
    intro hI ih H locs ls hG hl
    have hI : o + n ≤ ni := hI
    have hG : kG D A s ((hm, .inr (5, [.ref hM, .int (kb dr), .int (kb cl), .int bx, .int by9, .int x, .int y, .int ot, .int tw, .ref hH, .int (nI no), .int lim, .ref hA, .int (nI nr), .ref hP, .ref hPa, .ref hR, .ref hW, .ref hMe, .ref hV, .ref hDo, .ref hS, .int (nI ni), .int ret, .long clm, .int (kGo (kIn (nI o) 0 (nI ni - 1)) true true)])) :: (hM, .inl (cZ, 1681, .inl (fun j9 => kb (mk j9)))) :: (hH, .inl (cI, 10, .inl fH)) :: (hA, .inl (cI, 36, .inl fA)) :: (hP, .inl (cI, 3, .inl fP)) :: (hPa, .inl (cI, 30, .inl fPa)) :: (hR, .inl (cI, 30, .inl fR)) :: (hW, .inl (cI, 30, .inl fW)) :: (hMe, .inl (cI, 30, .inl fMe)) :: (hV, .inl (cI, 30, .inl fV)) :: (hDo, .inl (cI, 30, .inl fDo)) :: (hS, .inl (cJ, 30, .inr (.inl (kFl fPa fR fW fMe fV fA fP ni fS)))) :: rest) H locs := hG
    have hl : lv_has ls 5 [(0, .ref hm), (1, .int (nI o)), (2, .int (kDr fPa fR (kFl fPa fR fW fMe fV fA fP ni fS) (nI o) o n)), (3, .int (nI (o + n)))] := hl
    refine lv_iload_n hx hb dX4_dearest_24 rfl (lv_at hl 3 rfl) ?_
    refine lv_aload_n hx hb dX4_dearest_25 rfl (lv_at hl 0 rfl) ?_
    refine k_get (C := RX4) (T := TX4) (N := 26) (ci := 5) (v := .int (nI ni)) (fs := [.ref hM, .int (kb dr), .int (kb cl), .int bx, .int by9, .int x, .int y, .int ot, .int tw, .ref hH, .int (nI no), .int lim, .ref hA, .int (nI nr), .ref hP, .ref hPa, .ref hR, .ref hW, .ref hMe, .ref hV, .ref hDo, .ref hS, .int (nI ni), .int ret, .long clm, .int (kGo (kIn (nI o) 0 (nI ni - 1)) true true)]) hC hG hi_RX4 0 rfl rfl 22 (by decide) (List.mem_of_getElem? (i := 1) rfl) rfl rfl dX4_dearest_26 ?_
    refine k_icmp_ge (tgt := 94) hx hb dX4_dearest_29 (by decide) (fun c_2 => ?_) (fun c_2 => ?_)
    · have hk : o + n = ni := by
        rcases Nat.lt_or_ge (o + n) (ni) with h9 | h9
        · exact absurd (of_decide_eq_true c_2) (nI_ge h9 (by omega))
        · omega
      refine lv_iload_n hx hb dX4_dearest_94 rfl (lv_at hl 2 rfl) ?_
      exact k_reti hC hr hG ⟨by rw [c_1, nI_clamp (by omega), show ni - o = n by omega]; rfl, by rw [c_1]; rfl⟩ (Nat.le_of_ble_eq_true rfl) (Nat.le_of_ble_eq_true rfl) dX4_dearest_95
    · have hk : o + n < ni := by
        rcases Nat.lt_or_ge (o + n) (ni) with h9 | h9
        · exact h9
        · exact absurd ((of_decide_eq_false c_2)) (fun z => z (nI_le h9 (by omega)))
      refine lv_aload_n hx hb dX4_dearest_32 rfl (lv_at hl 0 rfl) ?_
      refine lv_iload_n hx hb dX4_dearest_33 rfl (lv_at hl 3 rfl) ?_
      refine k_callV (nn := 1) (C := RX4) hC hG 0 rfl (ci := 5) rfl (K_X4_isHeading l hfl D cI cJ cZ cO z mi hm hM hH hA hP hPa hR hW hMe hV hDo hS mk fH fA fP fPa fR fW fMe fV fDo (kFl fPa fR fW fMe fV fA fP ni fS) dr cl bx by9 x y ot tw no lim nr ni ret clm (kGo (kIn (nI o) 0 (nI ni - 1)) true true) rest (nI (o + n)) (vp_in_nI (by omega) (by decide))) gX4_dearest_X4_isHeading rfl rfl (by decide +kernel) ⟨(Nat.le_of_ble_eq_true rfl), (Nat.le_of_ble_eq_true rfl)⟩ hl.1 rfl (Nat.le_of_ble_eq_true rfl) dX4_dearest_34 ⟨(Nat.le_of_ble_eq_true rfl), (Nat.le_of_ble_eq_true rfl)⟩ (fun _ _ _ _ _ _ hp => hp.elim) (fun v9 u9 H locs hp hG => ?_)
      obtain ⟨rfl, rfl⟩ := hp
      refine W.widen (k := 0) (n := 0) (Nat.le_of_ble_eq_true rfl) (Nat.le_of_ble_eq_true rfl) ?_
      refine W.eq (g2 := F0 m 37 ls [.int (kb (decide (fR (nI (o + n)).toNatClampNeg = (-1))))]) rfl ?_
      refine k_topi (y := kb (decide ((fR (o + n)) = (-1)))) (by rw [nI_clamp (by omega)]) ?_
      refine k_joinH (D := D) (A := A) (fun v5 : Int32 => F0 m 54 ls (.int v5 :: [])) (fun v5 => v5 = kb (!(decide ((fR (o + n)) = (-1))) && (kBl fPa (nI (o + n)) (nI o)))) ((hm, .inr (5, [.ref hM, .int (kb dr), .int (kb cl), .int bx, .int by9, .int x, .int y, .int ot, .int tw, .ref hH, .int (nI no), .int lim, .ref hA, .int (nI nr), .ref hP, .ref hPa, .ref hR, .ref hW, .ref hMe, .ref hV, .ref hDo, .ref hS, .int (nI ni), .int ret, .long clm, .int (kGo (kIn (nI o) 0 (nI ni - 1)) true true)])) :: (hM, .inl (cZ, 1681, .inl (fun j9 => kb (mk j9)))) :: (hH, .inl (cI, 10, .inl fH)) :: (hA, .inl (cI, 36, .inl fA)) :: (hP, .inl (cI, 3, .inl fP)) :: (hPa, .inl (cI, 30, .inl fPa)) :: (hR, .inl (cI, 30, .inl fR)) :: (hW, .inl (cI, 30, .inl fW)) :: (hMe, .inl (cI, 30, .inl fMe)) :: (hV, .inl (cI, 30, .inl fV)) :: (hDo, .inl (cI, 30, .inl fDo)) :: (hS, .inl (cJ, 30, .inr (.inl (kFl fPa fR fW fMe fV fA fP ni fS)))) :: rest) ?_ (fun J4 => ?_)
      · intro v5 ev5 H locs hG
        have ev5 : v5 = kb (!(decide ((fR (o + n)) = (-1))) && (kBl fPa (nI (o + n)) (nI o))) := ev5
        subst ev5
        refine lv_istore (lv' := [(4, .int (kb (!(decide ((fR (o + n)) = (-1))) && (kBl fPa (nI (o + n)) (nI o))))), (0, .ref hm), (1, .int (nI o)), (2, .int (kDr fPa fR (kFl fPa fR fW fMe fV fA fP ni fS) (nI o) o n)), (3, .int (nI (o + n)))]) hx hb dX4_dearest_54 hl (by decide) rfl (fun ls hl => ?_)
        refine lv_iload hx hb dX4_dearest_56 (lv_at hl 0 rfl) ?_
        refine k_joinH (D := D) (A := A) (fun v8 : Int32 => F0 m 87 ls (.int v8 :: [])) (fun v8 => v8 = bif !(decide ((fR (o + n)) = (-1))) && (kBl fPa (nI (o + n)) (nI o)) then (bif decide ((kDr fPa fR (kFl fPa fR fW fMe fV fA fP ni fS) (nI o) o n) = (-1)) then (nI (o + n)) else (bif decide ((lg_cmp ((kFl fPa fR fW fMe fV fA fP ni fS) (o + n)) ((kFl fPa fR fW fMe fV fA fP ni fS) (kDr fPa fR (kFl fPa fR fW fMe fV fA fP ni fS) (nI o) o n).toNatClampNeg)) ≤ (0 : Int32)) then (kDr fPa fR (kFl fPa fR fW fMe fV fA fP ni fS) (nI o) o n) else (nI (o + n)))) else (kDr fPa fR (kFl fPa fR fW fMe fV fA fP ni fS) (nI o) o n)) ((hm, .inr (5, [.ref hM, .int (kb dr), .int (kb cl), .int bx, .int by9, .int x, .int y, .int ot, .int tw, .ref hH, .int (nI no), .int lim, .ref hA, .int (nI nr), .ref hP, .ref hPa, .ref hR, .ref hW, .ref hMe, .ref hV, .ref hDo, .ref hS, .int (nI ni), .int ret, .long clm, .int (kGo (kIn (nI o) 0 (nI ni - 1)) true true)])) :: (hM, .inl (cZ, 1681, .inl (fun j9 => kb (mk j9)))) :: (hH, .inl (cI, 10, .inl fH)) :: (hA, .inl (cI, 36, .inl fA)) :: (hP, .inl (cI, 3, .inl fP)) :: (hPa, .inl (cI, 30, .inl fPa)) :: (hR, .inl (cI, 30, .inl fR)) :: (hW, .inl (cI, 30, .inl fW)) :: (hMe, .inl (cI, 30, .inl fMe)) :: (hV, .inl (cI, 30, .inl fV)) :: (hDo, .inl (cI, 30, .inl fDo)) :: (hS, .inl (cJ, 30, .inr (.inl (kFl fPa fR fW fMe fV fA fP ni fS)))) :: rest) ?_ (fun J7 => ?_)
        · intro v8 ev8 H locs hG
          have ev8 : v8 = bif !(decide ((fR (o + n)) = (-1))) && (kBl fPa (nI (o + n)) (nI o)) then (bif decide ((kDr fPa fR (kFl fPa fR fW fMe fV fA fP ni fS) (nI o) o n) = (-1)) then (nI (o + n)) else (bif decide ((lg_cmp ((kFl fPa fR fW fMe fV fA fP ni fS) (o + n)) ((kFl fPa fR fW fMe fV fA fP ni fS) (kDr fPa fR (kFl fPa fR fW fMe fV fA fP ni fS) (nI o) o n).toNatClampNeg)) ≤ (0 : Int32)) then (kDr fPa fR (kFl fPa fR fW fMe fV fA fP ni fS) (nI o) o n) else (nI (o + n)))) else (kDr fPa fR (kFl fPa fR fW fMe fV fA fP ni fS) (nI o) o n) := ev8
          subst ev8
          refine lv_istore_n (lv' := [(2, .int (bif !(decide ((fR (o + n)) = (-1))) && (kBl fPa (nI (o + n)) (nI o)) then (bif decide ((kDr fPa fR (kFl fPa fR fW fMe fV fA fP ni fS) (nI o) o n) = (-1)) then (nI (o + n)) else (bif decide ((lg_cmp ((kFl fPa fR fW fMe fV fA fP ni fS) (o + n)) ((kFl fPa fR fW fMe fV fA fP ni fS) (kDr fPa fR (kFl fPa fR fW fMe fV fA fP ni fS) (nI o) o n).toNatClampNeg)) ≤ (0 : Int32)) then (kDr fPa fR (kFl fPa fR fW fMe fV fA fP ni fS) (nI o) o n) else (nI (o + n)))) else (kDr fPa fR (kFl fPa fR fW fMe fV fA fP ni fS) (nI o) o n))), (4, .int (kb (!(decide ((fR (o + n)) = (-1))) && (kBl fPa (nI (o + n)) (nI o))))), (0, .ref hm), (1, .int (nI o)), (3, .int (nI (o + n)))]) hx hb dX4_dearest_87 rfl hl (by decide) rfl (fun ls hl => ?_)
          refine lv_iinc (v := (nI (o + n)) + 1) (lv' := [(3, .int ((nI (o + n)) + 1)), (2, .int (bif !(decide ((fR (o + n)) = (-1))) && (kBl fPa (nI (o + n)) (nI o)) then (bif decide ((kDr fPa fR (kFl fPa fR fW fMe fV fA fP ni fS) (nI o) o n) = (-1)) then (nI (o + n)) else (bif decide ((lg_cmp ((kFl fPa fR fW fMe fV fA fP ni fS) (o + n)) ((kFl fPa fR fW fMe fV fA fP ni fS) (kDr fPa fR (kFl fPa fR fW fMe fV fA fP ni fS) (nI o) o n).toNatClampNeg)) ≤ (0 : Int32)) then (kDr fPa fR (kFl fPa fR fW fMe fV fA fP ni fS) (nI o) o n) else (nI (o + n)))) else (kDr fPa fR (kFl fPa fR fW fMe fV fA fP ni fS) (nI o) o n))), (4, .int (kb (!(decide ((fR (o + n)) = (-1))) && (kBl fPa (nI (o + n)) (nI o))))), (0, .ref hm), (1, .int (nI o))]) hx hb dX4_dearest_88 hl (k := 4) rfl rfl (by decide) rfl (fun ls hl => ?_)
          refine lv_goto (tgt := 24) hx hb dX4_dearest_91 (by decide) ?_
          rw [nI_1] at hl
          exact ih (n + 1) (show o + (n + 1) ≤ ni by omega) (by show ni - (o + (n + 1)) < ni - (o + n); omega) _ _ _ hG (lv_sub hl [3, 4, 1, 0] rfl)
        refine k_ifB_eq (tgt := 86) hx hb dX4_dearest_58 (by decide) (fun c_6 => ?_) (fun c_6 => ?_)
        · refine lv_iload_n hx hb dX4_dearest_86 rfl (lv_at hl 3 rfl) ?_
          exact J7 (kDr fPa fR (kFl fPa fR fW fMe fV fA fP ni fS) (nI o) o n) (by rw [c_6]; first | done | rfl) _ _ hG
        · refine lv_iload_n hx hb dX4_dearest_61 rfl (lv_at hl 3 rfl) ?_
          refine lv_iconst (v := (-1)) hx hb dX4_dearest_62 (by decide) ?_
          refine k_icmp_eq (tgt := 82) hx hb dX4_dearest_63 (by decide) (fun c_9 => ?_) (fun c_9 => ?_)
          · refine lv_iload_n hx hb dX4_dearest_82 rfl (lv_at hl 4 rfl) ?_
            refine lv_goto (tgt := 87) hx hb dX4_dearest_83 (by decide) ?_
            exact J7 (nI (o + n)) (by rw [c_6, c_9]; first | done | rfl) _ _ hG
          · refine lv_aload_n hx hb dX4_dearest_66 rfl (lv_at hl 1 rfl) ?_
            refine k_get (C := RX4) (T := TX4) (N := 26) (ci := 5) (v := .ref hS) (fs := [.ref hM, .int (kb dr), .int (kb cl), .int bx, .int by9, .int x, .int y, .int ot, .int tw, .ref hH, .int (nI no), .int lim, .ref hA, .int (nI nr), .ref hP, .ref hPa, .ref hR, .ref hW, .ref hMe, .ref hV, .ref hDo, .ref hS, .int (nI ni), .int ret, .long clm, .int (kGo (kIn (nI o) 0 (nI ni - 1)) true true)]) hC hG hi_RX4 0 rfl rfl 21 (by decide) (List.mem_of_getElem? (i := 2) rfl) rfl rfl dX4_dearest_67 ?_
            refine lv_iload_n hx hb dX4_dearest_70 rfl (lv_at hl 4 rfl) ?_
            refine va_lald (f := (kFl fPa fR fW fMe fV fA fP ni fS)) hx hb hC.K hG.1 11 1 rfl rfl (vp_in_nI (by omega) (by decide)) dX4_dearest_71 ?_
            refine k_topl (y := (kFl fPa fR fW fMe fV fA fP ni fS) (o + n)) (congrArg (kFl fPa fR fW fMe fV fA fP ni fS) (nI_clamp (by omega))) ?_
            refine lv_aload_n hx hb dX4_dearest_72 rfl (lv_at hl 1 rfl) ?_
            refine k_get (C := RX4) (T := TX4) (N := 26) (ci := 5) (v := .ref hS) (fs := [.ref hM, .int (kb dr), .int (kb cl), .int bx, .int by9, .int x, .int y, .int ot, .int tw, .ref hH, .int (nI no), .int lim, .ref hA, .int (nI nr), .ref hP, .ref hPa, .ref hR, .ref hW, .ref hMe, .ref hV, .ref hDo, .ref hS, .int (nI ni), .int ret, .long clm, .int (kGo (kIn (nI o) 0 (nI ni - 1)) true true)]) hC hG hi_RX4 0 rfl rfl 21 (by decide) (List.mem_of_getElem? (i := 2) rfl) rfl rfl dX4_dearest_73 ?_
            refine lv_iload_n hx hb dX4_dearest_76 rfl (lv_at hl 3 rfl) ?_
            refine va_lald (f := (kFl fPa fR fW fMe fV fA fP ni fS)) hx hb hC.K hG.1 11 1 rfl rfl (kDr_vin (by omega) c_9) dX4_dearest_77 ?_
            refine W.lcmp hx hb dX4_dearest_78 ?_
            refine k_if_le (tgt := 86) hx hb dX4_dearest_79 (by decide) (fun c_10 => ?_) (fun c_10 => ?_)
            · refine lv_iload_n hx hb dX4_dearest_86 rfl (lv_at hl 3 rfl) ?_
              exact J7 (kDr fPa fR (kFl fPa fR fW fMe fV fA fP ni fS) (nI o) o n) (by rw [c_6, c_9, c_10]; first | done | rfl) _ _ hG
            · refine lv_iload_n hx hb dX4_dearest_82 rfl (lv_at hl 4 rfl) ?_
              refine lv_goto (tgt := 87) hx hb dX4_dearest_83 (by decide) ?_
              exact J7 (nI (o + n)) (by rw [c_6, c_9, c_10]; first | done | rfl) _ _ hG
      refine k_ifB_ne (tgt := 53) hx hb dX4_dearest_37 (by decide) (fun c_3 => ?_) (fun c_3 => ?_)
      · refine lv_iconst (v := 0) hx hb dX4_dearest_53 (by decide) ?_
        exact J4 0 (by rw [c_3]; first | done | rfl) _ _ hG
      · refine lv_aload_n hx hb dX4_dearest_40 rfl (lv_at hl 0 rfl) ?_
        refine lv_iload_n hx hb dX4_dearest_41 rfl (lv_at hl 3 rfl) ?_
        refine lv_iload_n hx hb dX4_dearest_42 rfl (lv_at hl 1 rfl) ?_
        refine k_callV (nn := 2) (C := RX4) hC hG 0 rfl (ci := 5) rfl (K_X4_isBelow l hfl D cI cJ cZ cO z mi hm hM hH hA hP hPa hR hW hMe hV hDo hS mk fH fA fP fPa fR fW fMe fV fDo (kFl fPa fR fW fMe fV fA fP ni fS) dr cl bx by9 x y ot tw no lim nr ni ret clm (kGo (kIn (nI o) 0 (nI ni - 1)) true true) rest (o + n) o (by omega) (by omega) (by omega) hit) gX4_dearest_X4_isBelow rfl rfl (by decide +kernel) ⟨(Nat.le_of_ble_eq_true rfl), (Nat.le_of_ble_eq_true rfl)⟩ hl.1 rfl (Nat.le_of_ble_eq_true rfl) dX4_dearest_43 ⟨(Nat.le_of_ble_eq_true rfl), (Nat.le_of_ble_eq_true rfl)⟩ (fun _ _ _ _ _ _ hp => hp.elim) (fun v9 u9 H locs hp hG => ?_)
        obtain ⟨rfl, rfl⟩ := hp
        refine W.widen (k := 0) (n := 0) (Nat.le_of_ble_eq_true rfl) (Nat.le_of_ble_eq_true rfl) ?_
        refine W.eq (g2 := F0 m 46 ls [.int (kb (kBl fPa (nI (o + n)) (nI o)))]) rfl ?_
        refine k_ifB_eq (tgt := 53) hx hb dX4_dearest_46 (by decide) (fun c_11 => ?_) (fun c_11 => ?_)
        · refine lv_iconst (v := 0) hx hb dX4_dearest_53 (by decide) ?_
          exact J4 0 (by rw [c_3, c_11]; first | done | rfl) _ _ hG
        · refine lv_iconst (v := 1) hx hb dX4_dearest_49 (by decide) ?_
          refine lv_goto (tgt := 54) hx hb dX4_dearest_50 (by decide) ?_
          exact J4 1 (by rw [c_3, c_11]; first | done | rfl) _ _ hG
  · refine lv_iconst (v := 0) hx hb dX4_dearest_14 (by decide) ?_
    exact k_reti hC hr hG ⟨by rw [c_1]; rfl, by rw [c_1]; rfl⟩ (Nat.le_of_ble_eq_true rfl) (Nat.le_of_ble_eq_true rfl) dX4_dearest_15

set_option maxHeartbeats 4000000 in
set_option maxRecDepth 100000 in
/-- rate -/
theorem K_X4_rate (l : Launch) (hfl : l.stackTraces = false) (D : va_G) (cI cJ cZ cO : ClassId) (z mi : Nat) (hm : Nat) (hM : Nat) (hH : Nat) (hA : Nat) (hP : Nat) (hPa : Nat) (hR : Nat) (hW : Nat) (hMe : Nat) (hV : Nat) (hDo : Nat) (hS : Nat) (mk : Nat → Bool) (fH : Nat → Int32) (fA : Nat → Int32) (fP : Nat → Int32) (fPa : Nat → Int32) (fR : Nat → Int32) (fW : Nat → Int32) (fMe : Nat → Int32) (fV : Nat → Int32) (fDo : Nat → Int32) (fS : Nat → Int64) (dr : Bool) (cl : Bool) (bx : Int32) (by9 : Int32) (x : Int32) (y : Int32) (ot : Int32) (tw : Int32) (no : Nat) (lim : Int32) (nr : Nat) (ni : Nat) (ret : Int32) (clm : Int64) (la : Int32) (rest : va_W) (l9 p9 m9 : Int32) (hnr : nr ≤ 12) : kM l D (kTy cI cJ cZ cO) z mi yX4_rate wsX4_rate ({ frames := 1, cells := 0, slots := 0, locals := 23 } : Room) [.ref hm, .int l9, .int p9, .int m9] ((hm, .inr (5, [.ref hM, .int (kb dr), .int (kb cl), .int bx, .int by9, .int x, .int y, .int ot, .int tw, .ref hH, .int (nI no), .int lim, .ref hA, .int (nI nr), .ref hP, .ref hPa, .ref hR, .ref hW, .ref hMe, .ref hV, .ref hDo, .ref hS, .int (nI ni), .int ret, .long clm, .int la])) :: (hM, .inl (cZ, 1681, .inl (fun j9 => kb (mk j9)))) :: (hH, .inl (cI, 10, .inl fH)) :: (hA, .inl (cI, 36, .inl fA)) :: (hP, .inl (cI, 3, .inl fP)) :: (hPa, .inl (cI, 30, .inl fPa)) :: (hR, .inl (cI, 30, .inl fR)) :: (hW, .inl (cI, 30, .inl fW)) :: (hMe, .inl (cI, 30, .inl fMe)) :: (hV, .inl (cI, 30, .inl fV)) :: (hDo, .inl (cI, 30, .inl fDo)) :: (hS, .inl (cJ, 30, .inr (.inl fS))) :: rest) (fun v u => v = some (.int (bif (!(decide ((kKn fA l9 p9 m9 nr) = (-1))) || (!(decide (12 ≤ (nI nr))))) && ((kIn l9 0 50) && ((kIn p9 0 50) && (kIn m9 0 50))) then (bif decide ((kKn fA l9 p9 m9 nr) = (-1)) then nI nr else kKn fA l9 p9 m9 nr) else 0)) ∧ u = (hm, .inr (5, [.ref hM, .int (kb dr), .int (kb cl), .int bx, .int by9, .int x, .int y, .int ot, .int tw, .ref hH, .int (nI no), .int lim, .ref hA, .int (nI (bif (!(decide ((kKn fA l9 p9 m9 nr) = (-1))) || (!(decide (12 ≤ (nI nr))))) && ((kIn l9 0 50) && ((kIn p9 0 50) && (kIn m9 0 50))) then (bif decide ((kKn fA l9 p9 m9 nr) = (-1)) then nr + 1 else nr) else nr)), .ref hP, .ref hPa, .ref hR, .ref hW, .ref hMe, .ref hV, .ref hDo, .ref hS, .int (nI ni), .int ret, .long clm, .int (kGo ((kIn l9 0 50) && ((kIn p9 0 50) && (kIn m9 0 50))) (!(decide ((kKn fA l9 p9 m9 nr) = (-1))) || (!(decide (12 ≤ (nI nr))))) true)])) :: (hM, .inl (cZ, 1681, .inl (fun j9 => kb (mk j9)))) :: (hH, .inl (cI, 10, .inl fH)) :: (hA, .inl (cI, 36, .inl (bif (!(decide ((kKn fA l9 p9 m9 nr) = (-1))) || (!(decide (12 ≤ (nI nr))))) && ((kIn l9 0 50) && ((kIn p9 0 50) && (kIn m9 0 50))) then (bif decide ((kKn fA l9 p9 m9 nr) = (-1)) then upd (upd (upd fA (3 * nr) l9) (3 * nr + 1) p9) (3 * nr + 2) m9 else fA) else fA))) :: (hP, .inl (cI, 3, .inl fP)) :: (hPa, .inl (cI, 30, .inl fPa)) :: (hR, .inl (cI, 30, .inl fR)) :: (hW, .inl (cI, 30, .inl fW)) :: (hMe, .inl (cI, 30, .inl fMe)) :: (hV, .inl (cI, 30, .inl fV)) :: (hDo, .inl (cI, 30, .inl fDo)) :: (hS, .inl (cJ, 30, .inr (.inl fS))) :: rest) (fun _ _ => False) := by
  refine kM.of hfl (cc := cX4_rate) (maxL := 7) (ret := (some .int)) (by decide) rfl (Nat.le_of_ble_eq_true rfl) ?_
  intro p e s m args below meth c A ls hC hr hmn hG hl
  have hx := hC.x
  have hb := hC.b
  have hl : lv_has ls 7 [(0, .ref hm), (1, .int l9), (2, .int p9), (3, .int m9)] := hl
  have hi_RX4 : ∀ w ∈ wsX40, w ∈ wsX4_rate := fun w h => List.mem_cons_of_mem _ (List.mem_append_right _ h)
  refine lv_iload_n hx hb dX4_rate_0 rfl (lv_at hl 1 rfl) ?_
  refine lv_iconst (v := 0) hx hb dX4_rate_1 (by decide) ?_
  refine lv_bipush (v := 50) hx hb dX4_rate_2 (by decide) ?_
  refine k_callS (nn := 3) hC hG (K_X4_in l hfl D cI cJ cZ cO z mi ((hm, .inr (5, [.ref hM, .int (kb dr), .int (kb cl), .int bx, .int by9, .int x, .int y, .int ot, .int tw, .ref hH, .int (nI no), .int lim, .ref hA, .int (nI nr), .ref hP, .ref hPa, .ref hR, .ref hW, .ref hMe, .ref hV, .ref hDo, .ref hS, .int (nI ni), .int ret, .long clm, .int la])) :: (hM, .inl (cZ, 1681, .inl (fun j9 => kb (mk j9)))) :: (hH, .inl (cI, 10, .inl fH)) :: (hA, .inl (cI, 36, .inl fA)) :: (hP, .inl (cI, 3, .inl fP)) :: (hPa, .inl (cI, 30, .inl fPa)) :: (hR, .inl (cI, 30, .inl fR)) :: (hW, .inl (cI, 30, .inl fW)) :: (hMe, .inl (cI, 30, .inl fMe)) :: (hV, .inl (cI, 30, .inl fV)) :: (hDo, .inl (cI, 30, .inl fDo)) :: (hS, .inl (cJ, 30, .inr (.inl fS))) :: rest) l9 0 50) gX4_rate_X4_in rfl rfl (by decide +kernel) ⟨(Nat.le_of_ble_eq_true rfl), (Nat.le_of_ble_eq_true rfl)⟩ hl.1 rfl (Nat.le_of_ble_eq_true rfl) dX4_rate_4 ⟨(Nat.le_of_ble_eq_true rfl), (Nat.le_of_ble_eq_true rfl)⟩ (fun _ _ _ _ _ _ hp => hp.elim) (fun v9 u9 H locs hp hG => ?_)
  obtain ⟨rfl, rfl⟩ := hp
  refine W.widen (k := 0) (n := 0) (Nat.le_of_ble_eq_true rfl) (Nat.le_of_ble_eq_true rfl) ?_
  refine W.eq (g2 := F0 m 7 ls [.int (kb (kIn l9 0 50))]) rfl ?_
  refine k_joinH (D := D) (A := A) (fun v3 : Int32 => F0 m 35 ls (.int v3 :: [])) (fun v3 => v3 = kb ((kIn l9 0 50) && ((kIn p9 0 50) && (kIn m9 0 50)))) ((hm, .inr (5, [.ref hM, .int (kb dr), .int (kb cl), .int bx, .int by9, .int x, .int y, .int ot, .int tw, .ref hH, .int (nI no), .int lim, .ref hA, .int (nI nr), .ref hP, .ref hPa, .ref hR, .ref hW, .ref hMe, .ref hV, .ref hDo, .ref hS, .int (nI ni), .int ret, .long clm, .int la])) :: (hM, .inl (cZ, 1681, .inl (fun j9 => kb (mk j9)))) :: (hH, .inl (cI, 10, .inl fH)) :: (hA, .inl (cI, 36, .inl fA)) :: (hP, .inl (cI, 3, .inl fP)) :: (hPa, .inl (cI, 30, .inl fPa)) :: (hR, .inl (cI, 30, .inl fR)) :: (hW, .inl (cI, 30, .inl fW)) :: (hMe, .inl (cI, 30, .inl fMe)) :: (hV, .inl (cI, 30, .inl fV)) :: (hDo, .inl (cI, 30, .inl fDo)) :: (hS, .inl (cJ, 30, .inr (.inl fS))) :: rest) ?_ (fun J2 => ?_)
  · intro v3 ev3 H locs hG
    have ev3 : v3 = kb ((kIn l9 0 50) && ((kIn p9 0 50) && (kIn m9 0 50))) := ev3
    subst ev3
    refine lv_istore (lv' := [(4, .int (kb ((kIn l9 0 50) && ((kIn p9 0 50) && (kIn m9 0 50))))), (0, .ref hm), (1, .int l9), (2, .int p9), (3, .int m9)]) hx hb dX4_rate_35 hl (by decide) rfl (fun ls hl => ?_)
    refine lv_iconst (v := (-1)) hx hb dX4_rate_37 (by decide) ?_
    refine lv_istore (lv' := [(5, .int (-1)), (4, .int (kb ((kIn l9 0 50) && ((kIn p9 0 50) && (kIn m9 0 50))))), (0, .ref hm), (1, .int l9), (2, .int p9), (3, .int m9)]) hx hb dX4_rate_38 hl (by decide) rfl (fun ls hl => ?_)
    refine lv_iconst (v := 0) hx hb dX4_rate_40 (by decide) ?_
    refine lv_istore (lv' := [(6, .int 0), (5, .int (-1)), (4, .int (kb ((kIn l9 0 50) && ((kIn p9 0 50) && (kIn m9 0 50))))), (0, .ref hm), (1, .int l9), (2, .int p9), (3, .int m9)]) hx hb dX4_rate_41 hl (by decide) rfl (fun ls hl => ?_)
    refine k_loop (σ := Nat) (fun q9 => q9 ≤ nr) (fun q9 => nr - q9) (fun q9 => (hm, .inr (5, [.ref hM, .int (kb dr), .int (kb cl), .int bx, .int by9, .int x, .int y, .int ot, .int tw, .ref hH, .int (nI no), .int lim, .ref hA, .int (nI nr), .ref hP, .ref hPa, .ref hR, .ref hW, .ref hMe, .ref hV, .ref hDo, .ref hS, .int (nI ni), .int ret, .long clm, .int la])) :: (hM, .inl (cZ, 1681, .inl (fun j9 => kb (mk j9)))) :: (hH, .inl (cI, 10, .inl fH)) :: (hA, .inl (cI, 36, .inl fA)) :: (hP, .inl (cI, 3, .inl fP)) :: (hPa, .inl (cI, 30, .inl fPa)) :: (hR, .inl (cI, 30, .inl fR)) :: (hW, .inl (cI, 30, .inl fW)) :: (hMe, .inl (cI, 30, .inl fMe)) :: (hV, .inl (cI, 30, .inl fV)) :: (hDo, .inl (cI, 30, .inl fDo)) :: (hS, .inl (cJ, 30, .inr (.inl fS))) :: rest) (fun q9 => [(0, .ref hm), (1, .int l9), (2, .int p9), (3, .int m9), (4, .int (kb ((kIn l9 0 50) && ((kIn p9 0 50) && (kIn m9 0 50))))), (5, .int (kKn fA l9 p9 m9 q9)), (6, .int (nI q9))]) 43 [] ?_ 0 (Nat.zero_le _) hG (lv_sub hl [3, 4, 5, 6, 2, 1, 0] rfl)
    intro q9
    obtain ⟨k, rfl⟩ : ∃ z9, z9 = q9 := ⟨_, rfl⟩
    intro hI ih H locs ls hG hl
    have hI : k ≤ nr := hI
    have hG : kG D A s ((hm, .inr (5, [.ref hM, .int (kb dr), .int (kb cl), .int bx, .int by9, .int x, .int y, .int ot, .int tw, .ref hH, .int (nI no), .int lim, .ref hA, .int (nI nr), .ref hP, .ref hPa, .ref hR, .ref hW, .ref hMe, .ref hV, .ref hDo, .ref hS, .int (nI ni), .int ret, .long clm, .int la])) :: (hM, .inl (cZ, 1681, .inl (fun j9 => kb (mk j9)))) :: (hH, .inl (cI, 10, .inl fH)) :: (hA, .inl (cI, 36, .inl fA)) :: (hP, .inl (cI, 3, .inl fP)) :: (hPa, .inl (cI, 30, .inl fPa)) :: (hR, .inl (cI, 30, .inl fR)) :: (hW, .inl (cI, 30, .inl fW)) :: (hMe, .inl (cI, 30, .inl fMe)) :: (hV, .inl (cI, 30, .inl fV)) :: (hDo, .inl (cI, 30, .inl fDo)) :: (hS, .inl (cJ, 30, .inr (.inl fS))) :: rest) H locs := hG
    have hl : lv_has ls 7 [(0, .ref hm), (1, .int l9), (2, .int p9), (3, .int m9), (4, .int (kb ((kIn l9 0 50) && ((kIn p9 0 50) && (kIn m9 0 50))))), (5, .int (kKn fA l9 p9 m9 k)), (6, .int (nI k))] := hl
    refine lv_iload hx hb dX4_rate_43 (lv_at hl 6 rfl) ?_
    refine lv_aload_n hx hb dX4_rate_45 rfl (lv_at hl 0 rfl) ?_
    refine k_get (C := RX4) (T := TX4) (N := 26) (ci := 5) (v := .int (nI nr)) (fs := [.ref hM, .int (kb dr), .int (kb cl), .int bx, .int by9, .int x, .int y, .int ot, .int tw, .ref hH, .int (nI no), .int lim, .ref hA, .int (nI nr), .ref hP, .ref hPa, .ref hR, .ref hW, .ref hMe, .ref hV, .ref hDo, .ref hS, .int (nI ni), .int ret, .long clm, .int la]) hC hG hi_RX4 0 rfl rfl 13 (by decide) (List.mem_of_getElem? (i := 1) rfl) rfl rfl dX4_rate_46 ?_
    refine k_icmp_ge (tgt := 110) hx hb dX4_rate_49 (by decide) (fun c_4 => ?_) (fun c_4 => ?_)
    · have hk : k = nr := by
        rcases Nat.lt_or_ge (k) (nr) with h9 | h9
        · exact absurd (of_decide_eq_true c_4) (nI_ge h9 (by omega))
        · omega
      rw [hk] at hl
      refine lv_aload_n hx hb dX4_rate_110 rfl (lv_at hl 0 rfl) ?_
      refine lv_iload hx hb dX4_rate_111 (lv_at hl 4 rfl) ?_
      refine lv_iload hx hb dX4_rate_113 (lv_at hl 5 rfl) ?_
      refine lv_iconst (v := (-1)) hx hb dX4_rate_115 (by decide) ?_
      refine k_joinH (D := D) (A := A) (fun v7 : Int32 => F0 m 133 ls (.int v7 :: [.int (kb ((kIn l9 0 50) && ((kIn p9 0 50) && (kIn m9 0 50)))), .ref hm])) (fun v7 => v7 = kb (!(decide ((kKn fA l9 p9 m9 nr) = (-1))) || (!(decide (12 ≤ (nI nr)))))) ((hm, .inr (5, [.ref hM, .int (kb dr), .int (kb cl), .int bx, .int by9, .int x, .int y, .int ot, .int tw, .ref hH, .int (nI no), .int lim, .ref hA, .int (nI nr), .ref hP, .ref hPa, .ref hR, .ref hW, .ref hMe, .ref hV, .ref hDo, .ref hS, .int (nI ni), .int ret, .long clm, .int la])) :: (hM, .inl (cZ, 1681, .inl (fun j9 => kb (mk j9)))) :: (hH, .inl (cI, 10, .inl fH)) :: (hA, .inl (cI, 36, .inl fA)) :: (hP, .inl (cI, 3, .inl fP)) :: (hPa, .inl (cI, 30, .inl fPa)) :: (hR, .inl (cI, 30, .inl fR)) :: (hW, .inl (cI, 30, .inl fW)) :: (hMe, .inl (cI, 30, .inl fMe)) :: (hV, .inl (cI, 30, .inl fV)) :: (hDo, .inl (cI, 30, .inl fDo)) :: (hS, .inl (cJ, 30, .inr (.inl fS))) :: rest) ?_ (fun J6 => ?_)
      · intro v7 ev7 H locs hG
        have ev7 : v7 = kb (!(decide ((kKn fA l9 p9 m9 nr) = (-1))) || (!(decide (12 ≤ (nI nr))))) := ev7
        subst ev7
        refine lv_iconst (v := 1) hx hb dX4_rate_133 (by decide) ?_
        refine k_callV (nn := 3) (C := RX4) hC hG 0 rfl (ci := 5) rfl (K_X4_goes l hfl D cI cJ cZ cO z mi hm hM hH hA hP hPa hR hW hMe hV hDo hS mk fH fA fP fPa fR fW fMe fV fDo fS dr cl bx by9 x y ot tw no lim nr ni ret clm la rest ((kIn l9 0 50) && ((kIn p9 0 50) && (kIn m9 0 50))) (!(decide ((kKn fA l9 p9 m9 nr) = (-1))) || (!(decide (12 ≤ (nI nr))))) true) gX4_rate_X4_goes rfl rfl (by decide +kernel) ⟨(Nat.le_of_ble_eq_true rfl), (Nat.le_of_ble_eq_true rfl)⟩ hl.1 rfl (Nat.le_of_ble_eq_true rfl) dX4_rate_134 ⟨(Nat.le_of_ble_eq_true rfl), (Nat.le_of_ble_eq_true rfl)⟩ (fun _ _ _ _ _ _ hp => hp.elim) (fun v9 u9 H locs hp hG => ?_)
        obtain ⟨rfl, rfl⟩ := hp
        have hG : kG D A s ((hm, .inr (5, [.ref hM, .int (kb dr), .int (kb cl), .int bx, .int by9, .int x, .int y, .int ot, .int tw, .ref hH, .int (nI no), .int lim, .ref hA, .int (nI nr), .ref hP, .ref hPa, .ref hR, .ref hW, .ref hMe, .ref hV, .ref hDo, .ref hS, .int (nI ni), .int ret, .long clm, .int (kGo ((kIn l9 0 50) && ((kIn p9 0 50) && (kIn m9 0 50))) (!(decide ((kKn fA l9 p9 m9 nr) = (-1))) || (!(decide (12 ≤ (nI nr))))) true)])) :: (hM, .inl (cZ, 1681, .inl (fun j9 => kb (mk j9)))) :: (hH, .inl (cI, 10, .inl fH)) :: (hA, .inl (cI, 36, .inl fA)) :: (hP, .inl (cI, 3, .inl fP)) :: (hPa, .inl (cI, 30, .inl fPa)) :: (hR, .inl (cI, 30, .inl fR)) :: (hW, .inl (cI, 30, .inl fW)) :: (hMe, .inl (cI, 30, .inl fMe)) :: (hV, .inl (cI, 30, .inl fV)) :: (hDo, .inl (cI, 30, .inl fDo)) :: (hS, .inl (cJ, 30, .inr (.inl fS))) :: rest) H locs := hG
        refine W.widen (k := 0) (n := 0) (Nat.le_of_ble_eq_true rfl) (Nat.le_of_ble_eq_true rfl) ?_
        refine W.eq (g2 := F0 m 137 ls [.int (kb ((!(decide ((kKn fA l9 p9 m9 nr) = (-1))) || (!(decide (12 ≤ (nI nr))))) && ((kIn l9 0 50) && ((kIn p9 0 50) && (kIn m9 0 50)))))]) rfl ?_
        refine k_ifB_ne (tgt := 142) hx hb dX4_rate_137 (by decide) (fun c_8 => ?_) (fun c_8 => ?_)
        · refine lv_iload hx hb dX4_rate_142 (lv_at hl 5 rfl) ?_
          refine lv_iconst (v := (-1)) hx hb dX4_rate_144 (by decide) ?_
          refine k_icmp_ne (tgt := 204) hx hb dX4_rate_145 (by decide) (fun c_9 => ?_) (fun c_9 => ?_)
          · refine lv_iload hx hb dX4_rate_204 (lv_at hl 5 rfl) ?_
            exact k_reti hC hr hG ⟨by rw [c_8, c_9]; first | done | rfl, by rw [c_8, c_9]; first | done | rfl⟩ (Nat.le_of_ble_eq_true rfl) (Nat.le_of_ble_eq_true rfl) dX4_rate_206
          · have hnr1 : nr < 12 := kLt 12 rfl (by decide) (by omega) (k_notf (k_orl (k_andl c_8) c_9))
            refine lv_aload_n hx hb dX4_rate_148 rfl (lv_at hl 0 rfl) ?_
            refine k_get (C := RX4) (T := TX4) (N := 26) (ci := 5) (v := .ref hA) (fs := [.ref hM, .int (kb dr), .int (kb cl), .int bx, .int by9, .int x, .int y, .int ot, .int tw, .ref hH, .int (nI no), .int lim, .ref hA, .int (nI nr), .ref hP, .ref hPa, .ref hR, .ref hW, .ref hMe, .ref hV, .ref hDo, .ref hS, .int (nI ni), .int ret, .long clm, .int (kGo ((kIn l9 0 50) && ((kIn p9 0 50) && (kIn m9 0 50))) (!(decide ((kKn fA l9 p9 m9 nr) = (-1))) || (!(decide (12 ≤ (nI nr))))) true)]) hC hG hi_RX4 0 rfl rfl 12 (by decide) (List.mem_of_getElem? (i := 2) rfl) rfl rfl dX4_rate_149 ?_
            refine lv_iconst (v := 3) hx hb dX4_rate_152 (by decide) ?_
            refine lv_aload_n hx hb dX4_rate_153 rfl (lv_at hl 0 rfl) ?_
            refine k_get (C := RX4) (T := TX4) (N := 26) (ci := 5) (v := .int (nI nr)) (fs := [.ref hM, .int (kb dr), .int (kb cl), .int bx, .int by9, .int x, .int y, .int ot, .int tw, .ref hH, .int (nI no), .int lim, .ref hA, .int (nI nr), .ref hP, .ref hPa, .ref hR, .ref hW, .ref hMe, .ref hV, .ref hDo, .ref hS, .int (nI ni), .int ret, .long clm, .int (kGo ((kIn l9 0 50) && ((kIn p9 0 50) && (kIn m9 0 50))) (!(decide ((kKn fA l9 p9 m9 nr) = (-1))) || (!(decide (12 ≤ (nI nr))))) true)]) hC hG hi_RX4 0 rfl rfl 13 (by decide) (List.mem_of_getElem? (i := 1) rfl) rfl rfl dX4_rate_154 ?_
            refine lv_imul hx hb dX4_rate_157 ?_
            refine k_topi (y := nI (3 * nr)) (pk_mul 3 nr) ?_
            refine lv_iload_n hx hb dX4_rate_158 rfl (lv_at hl 1 rfl) ?_
            refine va_iast (f := fA) (x := l9) hx hb hC.K hG.1 hG.2.1 hG.2.2 3 0 rfl rfl (vp_in_nI (by omega) (by decide)) dX4_rate_159 (fun H locs h1 h2 h3 => ?_)
            have hG : kG D A s ((hm, .inr (5, [.ref hM, .int (kb dr), .int (kb cl), .int bx, .int by9, .int x, .int y, .int ot, .int tw, .ref hH, .int (nI no), .int lim, .ref hA, .int (nI nr), .ref hP, .ref hPa, .ref hR, .ref hW, .ref hMe, .ref hV, .ref hDo, .ref hS, .int (nI ni), .int ret, .long clm, .int (kGo ((kIn l9 0 50) && ((kIn p9 0 50) && (kIn m9 0 50))) (!(decide ((kKn fA l9 p9 m9 nr) = (-1))) || (!(decide (12 ≤ (nI nr))))) true)])) :: (hM, .inl (cZ, 1681, .inl (fun j9 => kb (mk j9)))) :: (hH, .inl (cI, 10, .inl fH)) :: (hA, .inl (cI, 36, .inl (upd fA (nI (3 * nr)).toNatClampNeg l9))) :: (hP, .inl (cI, 3, .inl fP)) :: (hPa, .inl (cI, 30, .inl fPa)) :: (hR, .inl (cI, 30, .inl fR)) :: (hW, .inl (cI, 30, .inl fW)) :: (hMe, .inl (cI, 30, .inl fMe)) :: (hV, .inl (cI, 30, .inl fV)) :: (hDo, .inl (cI, 30, .inl fDo)) :: (hS, .inl (cJ, 30, .inr (.inl fS))) :: rest) H locs := ⟨h1, h2, h3⟩
            rw [nI_clamp (n := (3 * nr)) (by omega)] at hG
            refine lv_aload_n hx hb dX4_rate_160 rfl (lv_at hl 0 rfl) ?_
            refine k_get (C := RX4) (T := TX4) (N := 26) (ci := 5) (v := .ref hA) (fs := [.ref hM, .int (kb dr), .int (kb cl), .int bx, .int by9, .int x, .int y, .int ot, .int tw, .ref hH, .int (nI no), .int lim, .ref hA, .int (nI nr), .ref hP, .ref hPa, .ref hR, .ref hW, .ref hMe, .ref hV, .ref hDo, .ref hS, .int (nI ni), .int ret, .long clm, .int (kGo ((kIn l9 0 50) && ((kIn p9 0 50) && (kIn m9 0 50))) (!(decide ((kKn fA l9 p9 m9 nr) = (-1))) || (!(decide (12 ≤ (nI nr))))) true)]) hC hG hi_RX4 0 rfl rfl 12 (by decide) (List.mem_of_getElem? (i := 2) rfl) rfl rfl dX4_rate_161 ?_
            refine lv_iconst (v := 3) hx hb dX4_rate_164 (by decide) ?_
            refine lv_aload_n hx hb dX4_rate_165 rfl (lv_at hl 0 rfl) ?_
            refine k_get (C := RX4) (T := TX4) (N := 26) (ci := 5) (v := .int (nI nr)) (fs := [.ref hM, .int (kb dr), .int (kb cl), .int bx, .int by9, .int x, .int y, .int ot, .int tw, .ref hH, .int (nI no), .int lim, .ref hA, .int (nI nr), .ref hP, .ref hPa, .ref hR, .ref hW, .ref hMe, .ref hV, .ref hDo, .ref hS, .int (nI ni), .int ret, .long clm, .int (kGo ((kIn l9 0 50) && ((kIn p9 0 50) && (kIn m9 0 50))) (!(decide ((kKn fA l9 p9 m9 nr) = (-1))) || (!(decide (12 ≤ (nI nr))))) true)]) hC hG hi_RX4 0 rfl rfl 13 (by decide) (List.mem_of_getElem? (i := 1) rfl) rfl rfl dX4_rate_166 ?_
            refine lv_imul hx hb dX4_rate_169 ?_
            refine k_topi (y := nI (3 * nr)) (pk_mul 3 nr) ?_
            refine lv_iconst (v := 1) hx hb dX4_rate_170 (by decide) ?_
            refine lv_iadd hx hb dX4_rate_171 ?_
            refine k_topi (y := nI (3 * nr + 1)) (nI_1 (3 * nr)) ?_
            refine lv_iload_n hx hb dX4_rate_172 rfl (lv_at hl 2 rfl) ?_
            refine va_iast (f := (upd fA (3 * nr) l9)) (x := p9) hx hb hC.K hG.1 hG.2.1 hG.2.2 3 0 rfl rfl (vp_in_nI (by omega) (by decide)) dX4_rate_173 (fun H locs h1 h2 h3 => ?_)
            have hG : kG D A s ((hm, .inr (5, [.ref hM, .int (kb dr), .int (kb cl), .int bx, .int by9, .int x, .int y, .int ot, .int tw, .ref hH, .int (nI no), .int lim, .ref hA, .int (nI nr), .ref hP, .ref hPa, .ref hR, .ref hW, .ref hMe, .ref hV, .ref hDo, .ref hS, .int (nI ni), .int ret, .long clm, .int (kGo ((kIn l9 0 50) && ((kIn p9 0 50) && (kIn m9 0 50))) (!(decide ((kKn fA l9 p9 m9 nr) = (-1))) || (!(decide (12 ≤ (nI nr))))) true)])) :: (hM, .inl (cZ, 1681, .inl (fun j9 => kb (mk j9)))) :: (hH, .inl (cI, 10, .inl fH)) :: (hA, .inl (cI, 36, .inl (upd (upd fA (3 * nr) l9) (nI (3 * nr + 1)).toNatClampNeg p9))) :: (hP, .inl (cI, 3, .inl fP)) :: (hPa, .inl (cI, 30, .inl fPa)) :: (hR, .inl (cI, 30, .inl fR)) :: (hW, .inl (cI, 30, .inl fW)) :: (hMe, .inl (cI, 30, .inl fMe)) :: (hV, .inl (cI, 30, .inl fV)) :: (hDo, .inl (cI, 30, .inl fDo)) :: (hS, .inl (cJ, 30, .inr (.inl fS))) :: rest) H locs := ⟨h1, h2, h3⟩
            rw [nI_clamp (n := (3 * nr + 1)) (by omega)] at hG
            refine lv_aload_n hx hb dX4_rate_174 rfl (lv_at hl 0 rfl) ?_
            refine k_get (C := RX4) (T := TX4) (N := 26) (ci := 5) (v := .ref hA) (fs := [.ref hM, .int (kb dr), .int (kb cl), .int bx, .int by9, .int x, .int y, .int ot, .int tw, .ref hH, .int (nI no), .int lim, .ref hA, .int (nI nr), .ref hP, .ref hPa, .ref hR, .ref hW, .ref hMe, .ref hV, .ref hDo, .ref hS, .int (nI ni), .int ret, .long clm, .int (kGo ((kIn l9 0 50) && ((kIn p9 0 50) && (kIn m9 0 50))) (!(decide ((kKn fA l9 p9 m9 nr) = (-1))) || (!(decide (12 ≤ (nI nr))))) true)]) hC hG hi_RX4 0 rfl rfl 12 (by decide) (List.mem_of_getElem? (i := 2) rfl) rfl rfl dX4_rate_175 ?_
            refine lv_iconst (v := 3) hx hb dX4_rate_178 (by decide) ?_
            refine lv_aload_n hx hb dX4_rate_179 rfl (lv_at hl 0 rfl) ?_
            refine k_get (C := RX4) (T := TX4) (N := 26) (ci := 5) (v := .int (nI nr)) (fs := [.ref hM, .int (kb dr), .int (kb cl), .int bx, .int by9, .int x, .int y, .int ot, .int tw, .ref hH, .int (nI no), .int lim, .ref hA, .int (nI nr), .ref hP, .ref hPa, .ref hR, .ref hW, .ref hMe, .ref hV, .ref hDo, .ref hS, .int (nI ni), .int ret, .long clm, .int (kGo ((kIn l9 0 50) && ((kIn p9 0 50) && (kIn m9 0 50))) (!(decide ((kKn fA l9 p9 m9 nr) = (-1))) || (!(decide (12 ≤ (nI nr))))) true)]) hC hG hi_RX4 0 rfl rfl 13 (by decide) (List.mem_of_getElem? (i := 1) rfl) rfl rfl dX4_rate_180 ?_
            refine lv_imul hx hb dX4_rate_183 ?_
            refine k_topi (y := nI (3 * nr)) (pk_mul 3 nr) ?_
            refine lv_iconst (v := 2) hx hb dX4_rate_184 (by decide) ?_
            refine lv_iadd hx hb dX4_rate_185 ?_
            refine k_topi (y := nI (3 * nr + 2)) (nI_add (3 * nr) 2) ?_
            refine lv_iload_n hx hb dX4_rate_186 rfl (lv_at hl 3 rfl) ?_
            refine va_iast (f := (upd (upd fA (3 * nr) l9) (3 * nr + 1) p9)) (x := m9) hx hb hC.K hG.1 hG.2.1 hG.2.2 3 0 rfl rfl (vp_in_nI (by omega) (by decide)) dX4_rate_187 (fun H locs h1 h2 h3 => ?_)
            have hG : kG D A s ((hm, .inr (5, [.ref hM, .int (kb dr), .int (kb cl), .int bx, .int by9, .int x, .int y, .int ot, .int tw, .ref hH, .int (nI no), .int lim, .ref hA, .int (nI nr), .ref hP, .ref hPa, .ref hR, .ref hW, .ref hMe, .ref hV, .ref hDo, .ref hS, .int (nI ni), .int ret, .long clm, .int (kGo ((kIn l9 0 50) && ((kIn p9 0 50) && (kIn m9 0 50))) (!(decide ((kKn fA l9 p9 m9 nr) = (-1))) || (!(decide (12 ≤ (nI nr))))) true)])) :: (hM, .inl (cZ, 1681, .inl (fun j9 => kb (mk j9)))) :: (hH, .inl (cI, 10, .inl fH)) :: (hA, .inl (cI, 36, .inl (upd (upd (upd fA (3 * nr) l9) (3 * nr + 1) p9) (nI (3 * nr + 2)).toNatClampNeg m9))) :: (hP, .inl (cI, 3, .inl fP)) :: (hPa, .inl (cI, 30, .inl fPa)) :: (hR, .inl (cI, 30, .inl fR)) :: (hW, .inl (cI, 30, .inl fW)) :: (hMe, .inl (cI, 30, .inl fMe)) :: (hV, .inl (cI, 30, .inl fV)) :: (hDo, .inl (cI, 30, .inl fDo)) :: (hS, .inl (cJ, 30, .inr (.inl fS))) :: rest) H locs := ⟨h1, h2, h3⟩
            rw [nI_clamp (n := (3 * nr + 2)) (by omega)] at hG
            refine lv_aload_n hx hb dX4_rate_188 rfl (lv_at hl 0 rfl) ?_
            refine k_get (C := RX4) (T := TX4) (N := 26) (ci := 5) (v := .int (nI nr)) (fs := [.ref hM, .int (kb dr), .int (kb cl), .int bx, .int by9, .int x, .int y, .int ot, .int tw, .ref hH, .int (nI no), .int lim, .ref hA, .int (nI nr), .ref hP, .ref hPa, .ref hR, .ref hW, .ref hMe, .ref hV, .ref hDo, .ref hS, .int (nI ni), .int ret, .long clm, .int (kGo ((kIn l9 0 50) && ((kIn p9 0 50) && (kIn m9 0 50))) (!(decide ((kKn fA l9 p9 m9 nr) = (-1))) || (!(decide (12 ≤ (nI nr))))) true)]) hC hG hi_RX4 0 rfl rfl 13 (by decide) (List.mem_of_getElem? (i := 1) rfl) rfl rfl dX4_rate_189 ?_
            refine lv_istore (lv' := [(5, .int (nI nr)), (0, .ref hm), (1, .int l9), (2, .int p9), (3, .int m9), (4, .int (kb ((kIn l9 0 50) && ((kIn p9 0 50) && (kIn m9 0 50))))), (6, .int (nI nr))]) hx hb dX4_rate_192 hl (by decide) rfl (fun ls hl => ?_)
            refine lv_aload_n hx hb dX4_rate_194 rfl (lv_at hl 1 rfl) ?_
            refine lv_dup hx hb dX4_rate_195 rfl ?_
            refine k_get (C := RX4) (T := TX4) (N := 26) (ci := 5) (v := .int (nI nr)) (fs := [.ref hM, .int (kb dr), .int (kb cl), .int bx, .int by9, .int x, .int y, .int ot, .int tw, .ref hH, .int (nI no), .int lim, .ref hA, .int (nI nr), .ref hP, .ref hPa, .ref hR, .ref hW, .ref hMe, .ref hV, .ref hDo, .ref hS, .int (nI ni), .int ret, .long clm, .int (kGo ((kIn l9 0 50) && ((kIn p9 0 50) && (kIn m9 0 50))) (!(decide ((kKn fA l9 p9 m9 nr) = (-1))) || (!(decide (12 ≤ (nI nr))))) true)]) hC hG hi_RX4 0 rfl rfl 13 (by decide) (List.mem_of_getElem? (i := 1) rfl) rfl rfl dX4_rate_196 ?_
            refine lv_iconst (v := 1) hx hb dX4_rate_199 (by decide) ?_
            refine lv_iadd hx hb dX4_rate_200 ?_
            refine k_topi (y := nI (nr + 1)) (nI_1 nr) ?_
            refine k_put (C := RX4) (T := TX4) (N := 26) (ci := 5) (v := .int (nI (nr + 1))) (fs := [.ref hM, .int (kb dr), .int (kb cl), .int bx, .int by9, .int x, .int y, .int ot, .int tw, .ref hH, .int (nI no), .int lim, .ref hA, .int (nI nr), .ref hP, .ref hPa, .ref hR, .ref hW, .ref hMe, .ref hV, .ref hDo, .ref hS, .int (nI ni), .int ret, .long clm, .int (kGo ((kIn l9 0 50) && ((kIn p9 0 50) && (kIn m9 0 50))) (!(decide ((kKn fA l9 p9 m9 nr) = (-1))) || (!(decide (12 ≤ (nI nr))))) true)]) hC hG hi_RX4 tyX4_ok nmX4 0 rfl rfl 13 (by decide) (List.mem_of_getElem? (i := 1) rfl) rfl rfl rfl rfl (Nat.le_of_ble_eq_true rfl) dX4_rate_201 (fun H locs hG => ?_)
            have hG : kG D A s ((hm, .inr (5, [.ref hM, .int (kb dr), .int (kb cl), .int bx, .int by9, .int x, .int y, .int ot, .int tw, .ref hH, .int (nI no), .int lim, .ref hA, .int (nI (nr + 1)), .ref hP, .ref hPa, .ref hR, .ref hW, .ref hMe, .ref hV, .ref hDo, .ref hS, .int (nI ni), .int ret, .long clm, .int (kGo ((kIn l9 0 50) && ((kIn p9 0 50) && (kIn m9 0 50))) (!(decide ((kKn fA l9 p9 m9 nr) = (-1))) || (!(decide (12 ≤ (nI nr))))) true)])) :: (hM, .inl (cZ, 1681, .inl (fun j9 => kb (mk j9)))) :: (hH, .inl (cI, 10, .inl fH)) :: (hA, .inl (cI, 36, .inl (upd (upd (upd fA (3 * nr) l9) (3 * nr + 1) p9) (3 * nr + 2) m9))) :: (hP, .inl (cI, 3, .inl fP)) :: (hPa, .inl (cI, 30, .inl fPa)) :: (hR, .inl (cI, 30, .inl fR)) :: (hW, .inl (cI, 30, .inl fW)) :: (hMe, .inl (cI, 30, .inl fMe)) :: (hV, .inl (cI, 30, .inl fV)) :: (hDo, .inl (cI, 30, .inl fDo)) :: (hS, .inl (cJ, 30, .inr (.inl fS))) :: rest) H locs := hG
            refine lv_iload hx hb dX4_rate_204 (lv_at hl 0 rfl) ?_
            exact k_reti hC hr hG ⟨by rw [c_8, c_9]; first | done | rfl, by rw [c_8, c_9]; first | done | rfl⟩ (Nat.le_of_ble_eq_true rfl) (Nat.le_of_ble_eq_true rfl) dX4_rate_206
        · refine lv_iconst (v := 0) hx hb dX4_rate_140 (by decide) ?_
          exact k_reti hC hr hG ⟨by rw [c_8]; first | done | rfl, by rw [c_8]; first | done | rfl⟩ (Nat.le_of_ble_eq_true rfl) (Nat.le_of_ble_eq_true rfl) dX4_rate_141
      refine k_icmp_ne (tgt := 128) hx hb dX4_rate_116 (by decide) (fun c_5 => ?_) (fun c_5 => ?_)
      · refine lv_iconst (v := 1) hx hb dX4_rate_128 (by decide) ?_
        refine lv_goto (tgt := 133) hx hb dX4_rate_129 (by decide) ?_
        exact J6 1 (by rw [c_5]; first | done | rfl) _ _ hG
      · refine lv_aload_n hx hb dX4_rate_119 rfl (lv_at hl 0 rfl) ?_
        refine k_get (C := RX4) (T := TX4) (N := 26) (ci := 5) (v := .int (nI nr)) (fs := [.ref hM, .int (kb dr), .int (kb cl), .int bx, .int by9, .int x, .int y, .int ot, .int tw, .ref hH, .int (nI no), .int lim, .ref hA, .int (nI nr), .ref hP, .ref hPa, .ref hR, .ref hW, .ref hMe, .ref hV, .ref hDo, .ref hS, .int (nI ni), .int ret, .long clm, .int la]) hC hG hi_RX4 0 rfl rfl 13 (by decide) (List.mem_of_getElem? (i := 1) rfl) rfl rfl dX4_rate_120 ?_
        refine lv_bipush (v := 12) hx hb dX4_rate_123 (by decide) ?_
        refine k_icmp_ge (tgt := 132) hx hb dX4_rate_125 (by decide) (fun c_10 => ?_) (fun c_10 => ?_)
        · refine lv_iconst (v := 0) hx hb dX4_rate_132 (by decide) ?_
          exact J6 0 (by rw [c_5, c_10]; first | done | rfl) _ _ hG
        · refine lv_iconst (v := 1) hx hb dX4_rate_128 (by decide) ?_
          refine lv_goto (tgt := 133) hx hb dX4_rate_129 (by decide) ?_
          exact J6 1 (by rw [c_5, c_10]; first | done | rfl) _ _ hG
    · have hk : k < nr := by
        rcases Nat.lt_or_ge (k) (nr) with h9 | h9
        · exact h9
        · exact absurd ((of_decide_eq_false c_4)) (fun z => z (nI_le h9 (by omega)))
      refine lv_aload_n hx hb dX4_rate_52 rfl (lv_at hl 0 rfl) ?_
      refine k_get (C := RX4) (T := TX4) (N := 26) (ci := 5) (v := .ref hA) (fs := [.ref hM, .int (kb dr), .int (kb cl), .int bx, .int by9, .int x, .int y, .int ot, .int tw, .ref hH, .int (nI no), .int lim, .ref hA, .int (nI nr), .ref hP, .ref hPa, .ref hR, .ref hW, .ref hMe, .ref hV, .ref hDo, .ref hS, .int (nI ni), .int ret, .long clm, .int la]) hC hG hi_RX4 0 rfl rfl 12 (by decide) (List.mem_of_getElem? (i := 2) rfl) rfl rfl dX4_rate_53 ?_
      refine lv_iconst (v := 3) hx hb dX4_rate_56 (by decide) ?_
      refine lv_iload hx hb dX4_rate_57 (lv_at hl 6 rfl) ?_
      refine lv_imul hx hb dX4_rate_59 ?_
      refine k_topi (y := nI (3 * k)) (pk_mul 3 k) ?_
      refine va_iald (f := fA) hx hb hC.K hG.1 3 0 rfl rfl (vp_in_nI (by omega) (by decide)) dX4_rate_60 ?_
      refine k_topi (y := fA (3 * k)) (congrArg fA (nI_clamp (by omega))) ?_
      refine lv_iload_n hx hb dX4_rate_61 rfl (lv_at hl 1 rfl) ?_
      refine k_joinH (D := D) (A := A) (fun v13 : Int32 => F0 m 102 ls (.int v13 :: [])) (fun v13 => v13 = bif decide ((fA (3 * k)) = l9) then (bif decide ((fA (3 * k + 1)) = p9) then (bif decide ((fA (3 * k + 2)) = m9) then (nI k) else (kKn fA l9 p9 m9 k)) else (kKn fA l9 p9 m9 k)) else (kKn fA l9 p9 m9 k)) ((hm, .inr (5, [.ref hM, .int (kb dr), .int (kb cl), .int bx, .int by9, .int x, .int y, .int ot, .int tw, .ref hH, .int (nI no), .int lim, .ref hA, .int (nI nr), .ref hP, .ref hPa, .ref hR, .ref hW, .ref hMe, .ref hV, .ref hDo, .ref hS, .int (nI ni), .int ret, .long clm, .int la])) :: (hM, .inl (cZ, 1681, .inl (fun j9 => kb (mk j9)))) :: (hH, .inl (cI, 10, .inl fH)) :: (hA, .inl (cI, 36, .inl fA)) :: (hP, .inl (cI, 3, .inl fP)) :: (hPa, .inl (cI, 30, .inl fPa)) :: (hR, .inl (cI, 30, .inl fR)) :: (hW, .inl (cI, 30, .inl fW)) :: (hMe, .inl (cI, 30, .inl fMe)) :: (hV, .inl (cI, 30, .inl fV)) :: (hDo, .inl (cI, 30, .inl fDo)) :: (hS, .inl (cJ, 30, .inr (.inl fS))) :: rest) ?_ (fun J12 => ?_)
      · intro v13 ev13 H locs hG
        have ev13 : v13 = bif decide ((fA (3 * k)) = l9) then (bif decide ((fA (3 * k + 1)) = p9) then (bif decide ((fA (3 * k + 2)) = m9) then (nI k) else (kKn fA l9 p9 m9 k)) else (kKn fA l9 p9 m9 k)) else (kKn fA l9 p9 m9 k) := ev13
        subst ev13
        refine lv_istore (lv' := [(5, .int (bif decide ((fA (3 * k)) = l9) then (bif decide ((fA (3 * k + 1)) = p9) then (bif decide ((fA (3 * k + 2)) = m9) then (nI k) else (kKn fA l9 p9 m9 k)) else (kKn fA l9 p9 m9 k)) else (kKn fA l9 p9 m9 k))), (0, .ref hm), (1, .int l9), (2, .int p9), (3, .int m9), (4, .int (kb ((kIn l9 0 50) && ((kIn p9 0 50) && (kIn m9 0 50))))), (6, .int (nI k))]) hx hb dX4_rate_102 hl (by decide) rfl (fun ls hl => ?_)
        refine lv_iinc (v := (nI k) + 1) (lv' := [(6, .int ((nI k) + 1)), (5, .int (bif decide ((fA (3 * k)) = l9) then (bif decide ((fA (3 * k + 1)) = p9) then (bif decide ((fA (3 * k + 2)) = m9) then (nI k) else (kKn fA l9 p9 m9 k)) else (kKn fA l9 p9 m9 k)) else (kKn fA l9 p9 m9 k))), (0, .ref hm), (1, .int l9), (2, .int p9), (3, .int m9), (4, .int (kb ((kIn l9 0 50) && ((kIn p9 0 50) && (kIn m9 0 50)))))]) hx hb dX4_rate_104 hl (k := 6) rfl rfl (by decide) rfl (fun ls hl => ?_)
        refine lv_goto (tgt := 43) hx hb dX4_rate_107 (by decide) ?_
        rw [nI_1] at hl
        exact ih (k + 1) (show k + 1 ≤ nr from hk) (by show nr - (k + 1) < nr - k; omega) _ _ _ hG (lv_sub hl [2, 3, 4, 5, 6, 1, 0] rfl)
      refine k_icmp_ne (tgt := 100) hx hb dX4_rate_62 (by decide) (fun c_11 => ?_) (fun c_11 => ?_)
      · refine lv_iload hx hb dX4_rate_100 (lv_at hl 5 rfl) ?_
        exact J12 (kKn fA l9 p9 m9 k) (by rw [c_11]; first | done | rfl) _ _ hG
      · refine lv_aload_n hx hb dX4_rate_65 rfl (lv_at hl 0 rfl) ?_
        refine k_get (C := RX4) (T := TX4) (N := 26) (ci := 5) (v := .ref hA) (fs := [.ref hM, .int (kb dr), .int (kb cl), .int bx, .int by9, .int x, .int y, .int ot, .int tw, .ref hH, .int (nI no), .int lim, .ref hA, .int (nI nr), .ref hP, .ref hPa, .ref hR, .ref hW, .ref hMe, .ref hV, .ref hDo, .ref hS, .int (nI ni), .int ret, .long clm, .int la]) hC hG hi_RX4 0 rfl rfl 12 (by decide) (List.mem_of_getElem? (i := 2) rfl) rfl rfl dX4_rate_66 ?_
        refine lv_iconst (v := 3) hx hb dX4_rate_69 (by decide) ?_
        refine lv_iload hx hb dX4_rate_70 (lv_at hl 6 rfl) ?_
        refine lv_imul hx hb dX4_rate_72 ?_
        refine k_topi (y := nI (3 * k)) (pk_mul 3 k) ?_
        refine lv_iconst (v := 1) hx hb dX4_rate_73 (by decide) ?_
        refine lv_iadd hx hb dX4_rate_74 ?_
        refine k_topi (y := nI (3 * k + 1)) (nI_1 (3 * k)) ?_
        refine va_iald (f := fA) hx hb hC.K hG.1 3 0 rfl rfl (vp_in_nI (by omega) (by decide)) dX4_rate_75 ?_
        refine k_topi (y := fA (3 * k + 1)) (congrArg fA (nI_clamp (by omega))) ?_
        refine lv_iload_n hx hb dX4_rate_76 rfl (lv_at hl 2 rfl) ?_
        refine k_icmp_ne (tgt := 100) hx hb dX4_rate_77 (by decide) (fun c_14 => ?_) (fun c_14 => ?_)
        · refine lv_iload hx hb dX4_rate_100 (lv_at hl 5 rfl) ?_
          exact J12 (kKn fA l9 p9 m9 k) (by rw [c_11, c_14]; first | done | rfl) _ _ hG
        · refine lv_aload_n hx hb dX4_rate_80 rfl (lv_at hl 0 rfl) ?_
          refine k_get (C := RX4) (T := TX4) (N := 26) (ci := 5) (v := .ref hA) (fs := [.ref hM, .int (kb dr), .int (kb cl), .int bx, .int by9, .int x, .int y, .int ot, .int tw, .ref hH, .int (nI no), .int lim, .ref hA, .int (nI nr), .ref hP, .ref hPa, .ref hR, .ref hW, .ref hMe, .ref hV, .ref hDo, .ref hS, .int (nI ni), .int ret, .long clm, .int la]) hC hG hi_RX4 0 rfl rfl 12 (by decide) (List.mem_of_getElem? (i := 2) rfl) rfl rfl dX4_rate_81 ?_
          refine lv_iconst (v := 3) hx hb dX4_rate_84 (by decide) ?_
          refine lv_iload hx hb dX4_rate_85 (lv_at hl 6 rfl) ?_
          refine lv_imul hx hb dX4_rate_87 ?_
          refine k_topi (y := nI (3 * k)) (pk_mul 3 k) ?_
          refine lv_iconst (v := 2) hx hb dX4_rate_88 (by decide) ?_
          refine lv_iadd hx hb dX4_rate_89 ?_
          refine k_topi (y := nI (3 * k + 2)) (nI_add (3 * k) 2) ?_
          refine va_iald (f := fA) hx hb hC.K hG.1 3 0 rfl rfl (vp_in_nI (by omega) (by decide)) dX4_rate_90 ?_
          refine k_topi (y := fA (3 * k + 2)) (congrArg fA (nI_clamp (by omega))) ?_
          refine lv_iload_n hx hb dX4_rate_91 rfl (lv_at hl 3 rfl) ?_
          refine k_icmp_ne (tgt := 100) hx hb dX4_rate_92 (by decide) (fun c_15 => ?_) (fun c_15 => ?_)
          · refine lv_iload hx hb dX4_rate_100 (lv_at hl 5 rfl) ?_
            exact J12 (kKn fA l9 p9 m9 k) (by rw [c_11, c_14, c_15]; first | done | rfl) _ _ hG
          · refine lv_iload hx hb dX4_rate_95 (lv_at hl 6 rfl) ?_
            refine lv_goto (tgt := 102) hx hb dX4_rate_97 (by decide) ?_
            exact J12 (nI k) (by rw [c_11, c_14, c_15]; first | done | rfl) _ _ hG
  refine k_ifB_eq (tgt := 34) hx hb dX4_rate_7 (by decide) (fun c_1 => ?_) (fun c_1 => ?_)
  · refine lv_iconst (v := 0) hx hb dX4_rate_34 (by decide) ?_
    exact J2 0 (by rw [c_1]; first | done | rfl) _ _ hG
  · refine lv_iload_n hx hb dX4_rate_10 rfl (lv_at hl 2 rfl) ?_
    refine lv_iconst (v := 0) hx hb dX4_rate_11 (by decide) ?_
    refine lv_bipush (v := 50) hx hb dX4_rate_12 (by decide) ?_
    refine k_callS (nn := 3) hC hG (K_X4_in l hfl D cI cJ cZ cO z mi ((hm, .inr (5, [.ref hM, .int (kb dr), .int (kb cl), .int bx, .int by9, .int x, .int y, .int ot, .int tw, .ref hH, .int (nI no), .int lim, .ref hA, .int (nI nr), .ref hP, .ref hPa, .ref hR, .ref hW, .ref hMe, .ref hV, .ref hDo, .ref hS, .int (nI ni), .int ret, .long clm, .int la])) :: (hM, .inl (cZ, 1681, .inl (fun j9 => kb (mk j9)))) :: (hH, .inl (cI, 10, .inl fH)) :: (hA, .inl (cI, 36, .inl fA)) :: (hP, .inl (cI, 3, .inl fP)) :: (hPa, .inl (cI, 30, .inl fPa)) :: (hR, .inl (cI, 30, .inl fR)) :: (hW, .inl (cI, 30, .inl fW)) :: (hMe, .inl (cI, 30, .inl fMe)) :: (hV, .inl (cI, 30, .inl fV)) :: (hDo, .inl (cI, 30, .inl fDo)) :: (hS, .inl (cJ, 30, .inr (.inl fS))) :: rest) p9 0 50) gX4_rate_X4_in rfl rfl (by decide +kernel) ⟨(Nat.le_of_ble_eq_true rfl), (Nat.le_of_ble_eq_true rfl)⟩ hl.1 rfl (Nat.le_of_ble_eq_true rfl) dX4_rate_14 ⟨(Nat.le_of_ble_eq_true rfl), (Nat.le_of_ble_eq_true rfl)⟩ (fun _ _ _ _ _ _ hp => hp.elim) (fun v9 u9 H locs hp hG => ?_)
    obtain ⟨rfl, rfl⟩ := hp
    refine W.widen (k := 0) (n := 0) (Nat.le_of_ble_eq_true rfl) (Nat.le_of_ble_eq_true rfl) ?_
    refine W.eq (g2 := F0 m 17 ls [.int (kb (kIn p9 0 50))]) rfl ?_
    refine k_ifB_eq (tgt := 34) hx hb dX4_rate_17 (by decide) (fun c_16 => ?_) (fun c_16 => ?_)
    · refine lv_iconst (v := 0) hx hb dX4_rate_34 (by decide) ?_
      exact J2 0 (by rw [c_1, c_16]; first | done | rfl) _ _ hG
    · refine lv_iload_n hx hb dX4_rate_20 rfl (lv_at hl 3 rfl) ?_
      refine lv_iconst (v := 0) hx hb dX4_rate_21 (by decide) ?_
      refine lv_bipush (v := 50) hx hb dX4_rate_22 (by decide) ?_
      refine k_callS (nn := 3) hC hG (K_X4_in l hfl D cI cJ cZ cO z mi ((hm, .inr (5, [.ref hM, .int (kb dr), .int (kb cl), .int bx, .int by9, .int x, .int y, .int ot, .int tw, .ref hH, .int (nI no), .int lim, .ref hA, .int (nI nr), .ref hP, .ref hPa, .ref hR, .ref hW, .ref hMe, .ref hV, .ref hDo, .ref hS, .int (nI ni), .int ret, .long clm, .int la])) :: (hM, .inl (cZ, 1681, .inl (fun j9 => kb (mk j9)))) :: (hH, .inl (cI, 10, .inl fH)) :: (hA, .inl (cI, 36, .inl fA)) :: (hP, .inl (cI, 3, .inl fP)) :: (hPa, .inl (cI, 30, .inl fPa)) :: (hR, .inl (cI, 30, .inl fR)) :: (hW, .inl (cI, 30, .inl fW)) :: (hMe, .inl (cI, 30, .inl fMe)) :: (hV, .inl (cI, 30, .inl fV)) :: (hDo, .inl (cI, 30, .inl fDo)) :: (hS, .inl (cJ, 30, .inr (.inl fS))) :: rest) m9 0 50) gX4_rate_X4_in rfl rfl (by decide +kernel) ⟨(Nat.le_of_ble_eq_true rfl), (Nat.le_of_ble_eq_true rfl)⟩ hl.1 rfl (Nat.le_of_ble_eq_true rfl) dX4_rate_24 ⟨(Nat.le_of_ble_eq_true rfl), (Nat.le_of_ble_eq_true rfl)⟩ (fun _ _ _ _ _ _ hp => hp.elim) (fun v9 u9 H locs hp hG => ?_)
      obtain ⟨rfl, rfl⟩ := hp
      refine W.widen (k := 0) (n := 0) (Nat.le_of_ble_eq_true rfl) (Nat.le_of_ble_eq_true rfl) ?_
      refine W.eq (g2 := F0 m 27 ls [.int (kb (kIn m9 0 50))]) rfl ?_
      refine k_ifB_eq (tgt := 34) hx hb dX4_rate_27 (by decide) (fun c_17 => ?_) (fun c_17 => ?_)
      · refine lv_iconst (v := 0) hx hb dX4_rate_34 (by decide) ?_
        exact J2 0 (by rw [c_1, c_16, c_17]; first | done | rfl) _ _ hG
      · refine lv_iconst (v := 1) hx hb dX4_rate_30 (by decide) ?_
        refine lv_goto (tgt := 35) hx hb dX4_rate_31 (by decide) ?_
        exact J2 1 (by rw [c_1, c_16, c_17]; first | done | rfl) _ _ hG

