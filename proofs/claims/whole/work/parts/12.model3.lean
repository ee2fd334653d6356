set_option maxHeartbeats 4000000 in
set_option maxRecDepth 100000 in
/-- price -/
theorem K_X4_price (l : Launch) (hfl : l.stackTraces = false) (D : va_G) (cI cJ cZ cO : ClassId) (z mi : Nat) (hm : Nat) (hM : Nat) (hH : Nat) (hA : Nat) (hP : Nat) (hPa : Nat) (hR : Nat) (hW : Nat) (hMe : Nat) (hV : Nat) (hDo : Nat) (hS : Nat) (mk : Nat → Bool) (fH : Nat → Int32) (fA : Nat → Int32) (fP : Nat → Int32) (fPa : Nat → Int32) (fR : Nat → Int32) (fW : Nat → Int32) (fMe : Nat → Int32) (fV : Nat → Int32) (fDo : Nat → Int32) (fS : Nat → Int64) (dr : Bool) (cl : Bool) (bx : Int32) (by9 : Int32) (x : Int32) (y : Int32) (ot : Int32) (tw : Int32) (no : Nat) (lim : Int32) (nr : Nat) (ni : Nat) (ret : Int32) (clm : Int64) (la : Int32) (rest : va_W) (kd ct : Int32) : kM l D (kTy cI cJ cZ cO) z mi yX4_price wsX4_price ({ frames := 1, cells := 0, slots := 0, locals := 23 } : Room) [.ref hm, .int kd, .int ct] ((hm, .inr (5, [.ref hM, .int (kb dr), .int (kb cl), .int bx, .int by9, .int x, .int y, .int ot, .int tw, .ref hH, .int (nI no), .int lim, .ref hA, .int (nI nr), .ref hP, .ref hPa, .ref hR, .ref hW, .ref hMe, .ref hV, .ref hDo, .ref hS, .int (nI ni), .int ret, .long clm, .int la])) :: (hM, .inl (cZ, 1681, .inl (fun j9 => kb (mk j9)))) :: (hH, .inl (cI, 10, .inl fH)) :: (hA, .inl (cI, 36, .inl fA)) :: (hP, .inl (cI, 3, .inl fP)) :: (hPa, .inl (cI, 30, .inl fPa)) :: (hR, .inl (cI, 30, .inl fR)) :: (hW, .inl (cI, 30, .inl fW)) :: (hMe, .inl (cI, 30, .inl fMe)) :: (hV, .inl (cI, 30, .inl fV)) :: (hDo, .inl (cI, 30, .inl fDo)) :: (hS, .inl (cJ, 30, .inr (.inl fS))) :: rest) (fun v u => v = some (.int (bif (kIn kd 0 2) && (kIn ct 0 1000) then fP kd.toNatClampNeg else 0)) ∧ u = (hm, .inr (5, [.ref hM, .int (kb dr), .int (kb cl), .int bx, .int by9, .int x, .int y, .int ot, .int tw, .ref hH, .int (nI no), .int lim, .ref hA, .int (nI nr), .ref hP, .ref hPa, .ref hR, .ref hW, .ref hMe, .ref hV, .ref hDo, .ref hS, .int (nI ni), .int ret, .long clm, .int (kGo ((kIn kd 0 2) && (kIn ct 0 1000)) true true)])) :: (hM, .inl (cZ, 1681, .inl (fun j9 => kb (mk j9)))) :: (hH, .inl (cI, 10, .inl fH)) :: (hA, .inl (cI, 36, .inl fA)) :: (hP, .inl (cI, 3, .inl (bif (kIn kd 0 2) && (kIn ct 0 1000) then upd fP kd.toNatClampNeg ct else fP))) :: (hPa, .inl (cI, 30, .inl fPa)) :: (hR, .inl (cI, 30, .inl fR)) :: (hW, .inl (cI, 30, .inl fW)) :: (hMe, .inl (cI, 30, .inl fMe)) :: (hV, .inl (cI, 30, .inl fV)) :: (hDo, .inl (cI, 30, .inl fDo)) :: (hS, .inl (cJ, 30, .inr (.inl fS))) :: rest) (fun _ _ => False) := by
  refine kM.of hfl (cc := cX4_price) (maxL := 4) (ret := (some .int)) (by decide) rfl (Nat.le_of_ble_eq_true rfl) ?_
  intro p e s m args below meth c A ls hC hr hmn hG hl
  have hx := hC.x
  have hb := hC.b
  have hl : lv_has ls 4 [(0, .ref hm), (1, .int kd), (2, .int ct)] := hl
  have hi_RX4 : ∀ w ∈ wsX40, w ∈ wsX4_price := fun w h => List.mem_cons_of_mem _ (List.mem_append_right _ h)
  refine lv_aload_n hx hb dX4_price_0 rfl (lv_at hl 0 rfl) ?_
  refine lv_iload_n hx hb dX4_price_1 rfl (lv_at hl 1 rfl) ?_
  refine lv_iconst (v := 0) hx hb dX4_price_2 (by decide) ?_
  refine lv_iconst (v := 2) hx hb dX4_price_3 (by decide) ?_
  refine k_callS (nn := 3) hC hG (K_X4_in l hfl D cI cJ cZ cO z mi ((hm, .inr (5, [.ref hM, .int (kb dr), .int (kb cl), .int bx, .int by9, .int x, .int y, .int ot, .int tw, .ref hH, .int (nI no), .int lim, .ref hA, .int (nI nr), .ref hP, .ref hPa, .ref hR, .ref hW, .ref hMe, .ref hV, .ref hDo, .ref hS, .int (nI ni), .int ret, .long clm, .int la])) :: (hM, .inl (cZ, 1681, .inl (fun j9 => kb (mk j9)))) :: (hH, .inl (cI, 10, .inl fH)) :: (hA, .inl (cI, 36, .inl fA)) :: (hP, .inl (cI, 3, .inl fP)) :: (hPa, .inl (cI, 30, .inl fPa)) :: (hR, .inl (cI, 30, .inl fR)) :: (hW, .inl (cI, 30, .inl fW)) :: (hMe, .inl (cI, 30, .inl fMe)) :: (hV, .inl (cI, 30, .inl fV)) :: (hDo, .inl (cI, 30, .inl fDo)) :: (hS, .inl (cJ, 30, .inr (.inl fS))) :: rest) kd 0 2) gX4_price_X4_in rfl rfl (by decide +kernel) ⟨(Nat.le_of_ble_eq_true rfl), (Nat.le_of_ble_eq_true rfl)⟩ hl.1 rfl (Nat.le_of_ble_eq_true rfl) dX4_price_4 ⟨(Nat.le_of_ble_eq_true rfl), (Nat.le_of_ble_eq_true rfl)⟩ (fun _ _ _ _ _ _ hp => hp.elim) (fun v9 u9 H locs hp hG => ?_)
  obtain ⟨rfl, rfl⟩ := hp
  refine W.widen (k := 0) (n := 0) (Nat.le_of_ble_eq_true rfl) (Nat.le_of_ble_eq_true rfl) ?_
  refine W.eq (g2 := F0 m 7 ls [.int (kb (kIn kd 0 2)), .ref hm]) rfl ?_
  refine k_joinH (D := D) (A := A) (fun v3 : Int32 => F0 m 26 ls (.int v3 :: [.ref hm])) (fun v3 => v3 = kb ((kIn kd 0 2) && (kIn ct 0 1000))) ((hm, .inr (5, [.ref hM, .int (kb dr), .int (kb cl), .int bx, .int by9, .int x, .int y, .int ot, .int tw, .ref hH, .int (nI no), .int lim, .ref hA, .int (nI nr), .ref hP, .ref hPa, .ref hR, .ref hW, .ref hMe, .ref hV, .ref hDo, .ref hS, .int (nI ni), .int ret, .long clm, .int la])) :: (hM, .inl (cZ, 1681, .inl (fun j9 => kb (mk j9)))) :: (hH, .inl (cI, 10, .inl fH)) :: (hA, .inl (cI, 36, .inl fA)) :: (hP, .inl (cI, 3, .inl fP)) :: (hPa, .inl (cI, 30, .inl fPa)) :: (hR, .inl (cI, 30, .inl fR)) :: (hW, .inl (cI, 30, .inl fW)) :: (hMe, .inl (cI, 30, .inl fMe)) :: (hV, .inl (cI, 30, .inl fV)) :: (hDo, .inl (cI, 30, .inl fDo)) :: (hS, .inl (cJ, 30, .inr (.inl fS))) :: rest) ?_ (fun J2 => ?_)
  · intro v3 ev3 H locs hG
    have ev3 : v3 = kb ((kIn kd 0 2) && (kIn ct 0 1000)) := ev3
    subst ev3
    refine lv_iconst (v := 1) hx hb dX4_price_26 (by decide) ?_
    refine lv_iconst (v := 1) hx hb dX4_price_27 (by decide) ?_
    refine k_callV (nn := 3) (C := RX4) hC hG 0 rfl (ci := 5) rfl (K_X4_goes l hfl D cI cJ cZ cO z mi hm hM hH hA hP hPa hR hW hMe hV hDo hS mk fH fA fP fPa fR fW fMe fV fDo fS dr cl bx by9 x y ot tw no lim nr ni ret clm la rest ((kIn kd 0 2) && (kIn ct 0 1000)) true true) gX4_price_X4_goes rfl rfl (by decide +kernel) ⟨(Nat.le_of_ble_eq_true rfl), (Nat.le_of_ble_eq_true rfl)⟩ hl.1 rfl (Nat.le_of_ble_eq_true rfl) dX4_price_28 ⟨(Nat.le_of_ble_eq_true rfl), (Nat.le_of_ble_eq_true rfl)⟩ (fun _ _ _ _ _ _ hp => hp.elim) (fun v9 u9 H locs hp hG => ?_)
    obtain ⟨rfl, rfl⟩ := hp
    have hG : kG D A s ((hm, .inr (5, [.ref hM, .int (kb dr), .int (kb cl), .int bx, .int by9, .int x, .int y, .int ot, .int tw, .ref hH, .int (nI no), .int lim, .ref hA, .int (nI nr), .ref hP, .ref hPa, .ref hR, .ref hW, .ref hMe, .ref hV, .ref hDo, .ref hS, .int (nI ni), .int ret, .long clm, .int (kGo ((kIn kd 0 2) && (kIn ct 0 1000)) true true)])) :: (hM, .inl (cZ, 1681, .inl (fun j9 => kb (mk j9)))) :: (hH, .inl (cI, 10, .inl fH)) :: (hA, .inl (cI, 36, .inl fA)) :: (hP, .inl (cI, 3, .inl fP)) :: (hPa, .inl (cI, 30, .inl fPa)) :: (hR, .inl (cI, 30, .inl fR)) :: (hW, .inl (cI, 30, .inl fW)) :: (hMe, .inl (cI, 30, .inl fMe)) :: (hV, .inl (cI, 30, .inl fV)) :: (hDo, .inl (cI, 30, .inl fDo)) :: (hS, .inl (cJ, 30, .inr (.inl fS))) :: rest) H locs := hG
    refine W.widen (k := 0) (n := 0) (Nat.le_of_ble_eq_true rfl) (Nat.le_of_ble_eq_true rfl) ?_
    refine W.eq (g2 := F0 m 31 ls [.int (kb ((kIn kd 0 2) && (kIn ct 0 1000)))]) rfl ?_
    refine k_ifB_ne (tgt := 36) hx hb dX4_price_31 (by decide) (fun c_4 => ?_) (fun c_4 => ?_)
    · refine lv_aload_n hx hb dX4_price_36 rfl (lv_at hl 0 rfl) ?_
      refine k_get (C := RX4) (T := TX4) (N := 26) (ci := 5) (v := .ref hP) (fs := [.ref hM, .int (kb dr), .int (kb cl), .int bx, .int by9, .int x, .int y, .int ot, .int tw, .ref hH, .int (nI no), .int lim, .ref hA, .int (nI nr), .ref hP, .ref hPa, .ref hR, .ref hW, .ref hMe, .ref hV, .ref hDo, .ref hS, .int (nI ni), .int ret, .long clm, .int (kGo ((kIn kd 0 2) && (kIn ct 0 1000)) true true)]) hC hG hi_RX4 0 rfl rfl 14 (by decide) (List.mem_of_getElem? (i := 1) rfl) rfl rfl dX4_price_37 ?_
      refine lv_iload_n hx hb dX4_price_40 rfl (lv_at hl 1 rfl) ?_
      refine va_iald (f := fP) hx hb hC.K hG.1 4 0 rfl rfl (kIn3 (k_andl c_4)) dX4_price_41 ?_
      refine lv_istore_n (lv' := [(3, .int (fP kd.toNatClampNeg)), (0, .ref hm), (1, .int kd), (2, .int ct)]) hx hb dX4_price_42 rfl hl (by decide) rfl (fun ls hl => ?_)
      refine lv_aload_n hx hb dX4_price_43 rfl (lv_at hl 1 rfl) ?_
      refine k_get (C := RX4) (T := TX4) (N := 26) (ci := 5) (v := .ref hP) (fs := [.ref hM, .int (kb dr), .int (kb cl), .int bx, .int by9, .int x, .int y, .int ot, .int tw, .ref hH, .int (nI no), .int lim, .ref hA, .int (nI nr), .ref hP, .ref hPa, .ref hR, .ref hW, .ref hMe, .ref hV, .ref hDo, .ref hS, .int (nI ni), .int ret, .long clm, .int (kGo ((kIn kd 0 2) && (kIn ct 0 1000)) true true)]) hC hG hi_RX4 0 rfl rfl 14 (by decide) (List.mem_of_getElem? (i := 1) rfl) rfl rfl dX4_price_44 ?_
      refine lv_iload_n hx hb dX4_price_47 rfl (lv_at hl 2 rfl) ?_
      refine lv_iload_n hx hb dX4_price_48 rfl (lv_at hl 3 rfl) ?_
      refine va_iast (f := fP) (x := ct) hx hb hC.K hG.1 hG.2.1 hG.2.2 4 0 rfl rfl (kIn3 (k_andl c_4)) dX4_price_49 (fun H locs h1 h2 h3 => ?_)
      have hG : kG D A s ((hm, .inr (5, [.ref hM, .int (kb dr), .int (kb cl), .int bx, .int by9, .int x, .int y, .int ot, .int tw, .ref hH, .int (nI no), .int lim, .ref hA, .int (nI nr), .ref hP, .ref hPa, .ref hR, .ref hW, .ref hMe, .ref hV, .ref hDo, .ref hS, .int (nI ni), .int ret, .long clm, .int (kGo ((kIn kd 0 2) && (kIn ct 0 1000)) true true)])) :: (hM, .inl (cZ, 1681, .inl (fun j9 => kb (mk j9)))) :: (hH, .inl (cI, 10, .inl fH)) :: (hA, .inl (cI, 36, .inl fA)) :: (hP, .inl (cI, 3, .inl (upd fP kd.toNatClampNeg ct))) :: (hPa, .inl (cI, 30, .inl fPa)) :: (hR, .inl (cI, 30, .inl fR)) :: (hW, .inl (cI, 30, .inl fW)) :: (hMe, .inl (cI, 30, .inl fMe)) :: (hV, .inl (cI, 30, .inl fV)) :: (hDo, .inl (cI, 30, .inl fDo)) :: (hS, .inl (cJ, 30, .inr (.inl fS))) :: rest) H locs := ⟨h1, h2, h3⟩
      refine lv_iload_n hx hb dX4_price_50 rfl (lv_at hl 0 rfl) ?_
      exact k_reti hC hr hG ⟨by rw [c_4]; first | done | rfl, by rw [c_4]; first | done | rfl⟩ (Nat.le_of_ble_eq_true rfl) (Nat.le_of_ble_eq_true rfl) dX4_price_51
    · refine lv_iconst (v := 0) hx hb dX4_price_34 (by decide) ?_
      exact k_reti hC hr hG ⟨by rw [c_4]; first | done | rfl, by rw [c_4]; first | done | rfl⟩ (Nat.le_of_ble_eq_true rfl) (Nat.le_of_ble_eq_true rfl) dX4_price_35
  refine k_ifB_eq (tgt := 25) hx hb dX4_price_7 (by decide) (fun c_1 => ?_) (fun c_1 => ?_)
  · refine lv_iconst (v := 0) hx hb dX4_price_25 (by decide) ?_
    exact J2 0 (by rw [c_1]; first | done | rfl) _ _ hG
  · refine lv_iload_n hx hb dX4_price_10 rfl (lv_at hl 2 rfl) ?_
    refine lv_iconst (v := 0) hx hb dX4_price_11 (by decide) ?_
    refine lv_sipush (v := 1000) hx hb dX4_price_12 (by decide) ?_
    refine k_callS (nn := 3) hC hG (K_X4_in l hfl D cI cJ cZ cO z mi ((hm, .inr (5, [.ref hM, .int (kb dr), .int (kb cl), .int bx, .int by9, .int x, .int y, .int ot, .int tw, .ref hH, .int (nI no), .int lim, .ref hA, .int (nI nr), .ref hP, .ref hPa, .ref hR, .ref hW, .ref hMe, .ref hV, .ref hDo, .ref hS, .int (nI ni), .int ret, .long clm, .int la])) :: (hM, .inl (cZ, 1681, .inl (fun j9 => kb (mk j9)))) :: (hH, .inl (cI, 10, .inl fH)) :: (hA, .inl (cI, 36, .inl fA)) :: (hP, .inl (cI, 3, .inl fP)) :: (hPa, .inl (cI, 30, .inl fPa)) :: (hR, .inl (cI, 30, .inl fR)) :: (hW, .inl (cI, 30, .inl fW)) :: (hMe, .inl (cI, 30, .inl fMe)) :: (hV, .inl (cI, 30, .inl fV)) :: (hDo, .inl (cI, 30, .inl fDo)) :: (hS, .inl (cJ, 30, .inr (.inl fS))) :: rest) ct 0 1000) gX4_price_X4_in rfl rfl (by decide +kernel) ⟨(Nat.le_of_ble_eq_true rfl), (Nat.le_of_ble_eq_true rfl)⟩ hl.1 rfl (Nat.le_of_ble_eq_true rfl) dX4_price_15 ⟨(Nat.le_of_ble_eq_true rfl), (Nat.le_of_ble_eq_true rfl)⟩ (fun _ _ _ _ _ _ hp => hp.elim) (fun v9 u9 H locs hp hG => ?_)
    obtain ⟨rfl, rfl⟩ := hp
    refine W.widen (k := 0) (n := 0) (Nat.le_of_ble_eq_true rfl) (Nat.le_of_ble_eq_true rfl) ?_
    refine W.eq (g2 := F0 m 18 ls [.int (kb (kIn ct 0 1000)), .ref hm]) rfl ?_
    refine k_ifB_eq (tgt := 25) hx hb dX4_price_18 (by decide) (fun c_5 => ?_) (fun c_5 => ?_)
    · refine lv_iconst (v := 0) hx hb dX4_price_25 (by decide) ?_
      exact J2 0 (by rw [c_1, c_5]; first | done | rfl) _ _ hG
    · refine lv_iconst (v := 1) hx hb dX4_price_21 (by decide) ?_
      refine lv_goto (tgt := 26) hx hb dX4_price_22 (by decide) ?_
      exact J2 1 (by rw [c_1, c_5]; first | done | rfl) _ _ hG

set_option maxHeartbeats 4000000 in
set_option maxRecDepth 100000 in
/-- cents: the price of a rate -/
theorem K_X4_cents (l : Launch) (hfl : l.stackTraces = false) (D : va_G) (cI cJ cZ cO : ClassId) (z mi : Nat) (hm : Nat) (hM : Nat) (hH : Nat) (hA : Nat) (hP : Nat) (hPa : Nat) (hR : Nat) (hW : Nat) (hMe : Nat) (hV : Nat) (hDo : Nat) (hS : Nat) (mk : Nat → Bool) (fH : Nat → Int32) (fA : Nat → Int32) (fP : Nat → Int32) (fPa : Nat → Int32) (fR : Nat → Int32) (fW : Nat → Int32) (fMe : Nat → Int32) (fV : Nat → Int32) (fDo : Nat → Int32) (fS : Nat → Int64) (dr : Bool) (cl : Bool) (bx : Int32) (by9 : Int32) (x : Int32) (y : Int32) (ot : Int32) (tw : Int32) (no : Nat) (lim : Int32) (nr : Nat) (ni : Nat) (ret : Int32) (clm : Int64) (la : Int32) (rest : va_W) (q : Int32) (hq : vp_in q 12) : kM l D (kTy cI cJ cZ cO) z mi yX4_cents wsX4_cents ({ frames := 0, cells := 0, slots := 0, locals := 0 } : Room) [.ref hm, .int q] ((hm, .inr (5, [.ref hM, .int (kb dr), .int (kb cl), .int bx, .int by9, .int x, .int y, .int ot, .int tw, .ref hH, .int (nI no), .int lim, .ref hA, .int (nI nr), .ref hP, .ref hPa, .ref hR, .ref hW, .ref hMe, .ref hV, .ref hDo, .ref hS, .int (nI ni), .int ret, .long clm, .int la])) :: (hM, .inl (cZ, 1681, .inl (fun j9 => kb (mk j9)))) :: (hH, .inl (cI, 10, .inl fH)) :: (hA, .inl (cI, 36, .inl fA)) :: (hP, .inl (cI, 3, .inl fP)) :: (hPa, .inl (cI, 30, .inl fPa)) :: (hR, .inl (cI, 30, .inl fR)) :: (hW, .inl (cI, 30, .inl fW)) :: (hMe, .inl (cI, 30, .inl fMe)) :: (hV, .inl (cI, 30, .inl fV)) :: (hDo, .inl (cI, 30, .inl fDo)) :: (hS, .inl (cJ, 30, .inr (.inl fS))) :: rest) (fun v u => v = some (.int (kCt fA fP q.toNatClampNeg)) ∧ u = (hm, .inr (5, [.ref hM, .int (kb dr), .int (kb cl), .int bx, .int by9, .int x, .int y, .int ot, .int tw, .ref hH, .int (nI no), .int lim, .ref hA, .int (nI nr), .ref hP, .ref hPa, .ref hR, .ref hW, .ref hMe, .ref hV, .ref hDo, .ref hS, .int (nI ni), .int ret, .long clm, .int la])) :: (hM, .inl (cZ, 1681, .inl (fun j9 => kb (mk j9)))) :: (hH, .inl (cI, 10, .inl fH)) :: (hA, .inl (cI, 36, .inl fA)) :: (hP, .inl (cI, 3, .inl fP)) :: (hPa, .inl (cI, 30, .inl fPa)) :: (hR, .inl (cI, 30, .inl fR)) :: (hW, .inl (cI, 30, .inl fW)) :: (hMe, .inl (cI, 30, .inl fMe)) :: (hV, .inl (cI, 30, .inl fV)) :: (hDo, .inl (cI, 30, .inl fDo)) :: (hS, .inl (cJ, 30, .inr (.inl fS))) :: rest) (fun _ _ => False) := by
  refine kM.of hfl (cc := cX4_cents) (maxL := 2) (ret := (some .int)) (by decide) rfl (Nat.le_of_ble_eq_true rfl) ?_
  intro p e s m args below meth c A ls hC hr hmn hG hl
  have hx := hC.x
  have hb := hC.b
  have hl : lv_has ls 2 [(0, .ref hm), (1, .int q)] := hl
  have hi_RX4 : ∀ w ∈ wsX40, w ∈ wsX4_cents := fun w h => List.mem_cons_of_mem _ (List.mem_append_right _ h)
  obtain ⟨j, hj, rfl⟩ := vp_in_of hq (by decide)
  refine lv_aload_n hx hb dX4_cents_0 rfl (lv_at hl 0 rfl) ?_
  refine k_get (C := RX4) (T := TX4) (N := 26) (ci := 5) (v := .ref hA) (fs := [.ref hM, .int (kb dr), .int (kb cl), .int bx, .int by9, .int x, .int y, .int ot, .int tw, .ref hH, .int (nI no), .int lim, .ref hA, .int (nI nr), .ref hP, .ref hPa, .ref hR, .ref hW, .ref hMe, .ref hV, .ref hDo, .ref hS, .int (nI ni), .int ret, .long clm, .int la]) hC hG hi_RX4 0 rfl rfl 12 (by decide) (List.mem_of_getElem? (i := 1) rfl) rfl rfl dX4_cents_1 ?_
  refine lv_iconst (v := 3) hx hb dX4_cents_4 (by decide) ?_
  refine lv_iload_n hx hb dX4_cents_5 rfl (lv_at hl 1 rfl) ?_
  refine lv_imul hx hb dX4_cents_6 ?_
  refine k_topi (y := nI (3 * j)) (pk_mul 3 j) ?_
  refine va_iald (f := fA) hx hb hC.K hG.1 3 0 rfl rfl (vp_in_nI (by omega) (by decide)) dX4_cents_7 ?_
  refine k_topi (y := fA (3 * j)) (congrArg fA (nI_clamp (by omega))) ?_
  refine lv_aload_n hx hb dX4_cents_8 rfl (lv_at hl 0 rfl) ?_
  refine k_get (C := RX4) (T := TX4) (N := 26) (ci := 5) (v := .ref hP) (fs := [.ref hM, .int (kb dr), .int (kb cl), .int bx, .int by9, .int x, .int y, .int ot, .int tw, .ref hH, .int (nI no), .int lim, .ref hA, .int (nI nr), .ref hP, .ref hPa, .ref hR, .ref hW, .ref hMe, .ref hV, .ref hDo, .ref hS, .int (nI ni), .int ret, .long clm, .int la]) hC hG hi_RX4 0 rfl rfl 14 (by decide) (List.mem_of_getElem? (i := 2) rfl) rfl rfl dX4_cents_9 ?_
  refine lv_iconst (v := 0) hx hb dX4_cents_12 (by decide) ?_
  refine va_iald (f := fP) hx hb hC.K hG.1 4 0 rfl rfl (by unfold vp_in; decide) dX4_cents_13 ?_
  refine lv_imul hx hb dX4_cents_14 ?_
  refine lv_aload_n hx hb dX4_cents_15 rfl (lv_at hl 0 rfl) ?_
  refine k_get (C := RX4) (T := TX4) (N := 26) (ci := 5) (v := .ref hA) (fs := [.ref hM, .int (kb dr), .int (kb cl), .int bx, .int by9, .int x, .int y, .int ot, .int tw, .ref hH, .int (nI no), .int lim, .ref hA, .int (nI nr), .ref hP, .ref hPa, .ref hR, .ref hW, .ref hMe, .ref hV, .ref hDo, .ref hS, .int (nI ni), .int ret, .long clm, .int la]) hC hG hi_RX4 0 rfl rfl 12 (by decide) (List.mem_of_getElem? (i := 1) rfl) rfl rfl dX4_cents_16 ?_
  refine lv_iconst (v := 3) hx hb dX4_cents_19 (by decide) ?_
  refine lv_iload_n hx hb dX4_cents_20 rfl (lv_at hl 1 rfl) ?_
  refine lv_imul hx hb dX4_cents_21 ?_
  refine k_topi (y := nI (3 * j)) (pk_mul 3 j) ?_
  refine lv_iconst (v := 1) hx hb dX4_cents_22 (by decide) ?_
  refine lv_iadd hx hb dX4_cents_23 ?_
  refine k_topi (y := nI (3 * j + 1)) (nI_1 (3 * j)) ?_
  refine va_iald (f := fA) hx hb hC.K hG.1 3 0 rfl rfl (vp_in_nI (by omega) (by decide)) dX4_cents_24 ?_
  refine k_topi (y := fA (3 * j + 1)) (congrArg fA (nI_clamp (by omega))) ?_
  refine lv_aload_n hx hb dX4_cents_25 rfl (lv_at hl 0 rfl) ?_
  refine k_get (C := RX4) (T := TX4) (N := 26) (ci := 5) (v := .ref hP) (fs := [.ref hM, .int (kb dr), .int (kb cl), .int bx, .int by9, .int x, .int y, .int ot, .int tw, .ref hH, .int (nI no), .int lim, .ref hA, .int (nI nr), .ref hP, .ref hPa, .ref hR, .ref hW, .ref hMe, .ref hV, .ref hDo, .ref hS, .int (nI ni), .int ret, .long clm, .int la]) hC hG hi_RX4 0 rfl rfl 14 (by decide) (List.mem_of_getElem? (i := 2) rfl) rfl rfl dX4_cents_26 ?_
  refine lv_iconst (v := 1) hx hb dX4_cents_29 (by decide) ?_
  refine va_iald (f := fP) hx hb hC.K hG.1 4 0 rfl rfl (by unfold vp_in; decide) dX4_cents_30 ?_
  refine lv_imul hx hb dX4_cents_31 ?_
  refine lv_iadd hx hb dX4_cents_32 ?_
  refine lv_aload_n hx hb dX4_cents_33 rfl (lv_at hl 0 rfl) ?_
  refine k_get (C := RX4) (T := TX4) (N := 26) (ci := 5) (v := .ref hA) (fs := [.ref hM, .int (kb dr), .int (kb cl), .int bx, .int by9, .int x, .int y, .int ot, .int tw, .ref hH, .int (nI no), .int lim, .ref hA, .int (nI nr), .ref hP, .ref hPa, .ref hR, .ref hW, .ref hMe, .ref hV, .ref hDo, .ref hS, .int (nI ni), .int ret, .long clm, .int la]) hC hG hi_RX4 0 rfl rfl 12 (by decide) (List.mem_of_getElem? (i := 1) rfl) rfl rfl dX4_cents_34 ?_
  refine lv_iconst (v := 3) hx hb dX4_cents_37 (by decide) ?_
  refine lv_iload_n hx hb dX4_cents_38 rfl (lv_at hl 1 rfl) ?_
  refine lv_imul hx hb dX4_cents_39 ?_
  refine k_topi (y := nI (3 * j)) (pk_mul 3 j) ?_
  refine lv_iconst (v := 2) hx hb dX4_cents_40 (by decide) ?_
  refine lv_iadd hx hb dX4_cents_41 ?_
  refine k_topi (y := nI (3 * j + 2)) (nI_add (3 * j) 2) ?_
  refine va_iald (f := fA) hx hb hC.K hG.1 3 0 rfl rfl (vp_in_nI (by omega) (by decide)) dX4_cents_42 ?_
  refine k_topi (y := fA (3 * j + 2)) (congrArg fA (nI_clamp (by omega))) ?_
  refine lv_aload_n hx hb dX4_cents_43 rfl (lv_at hl 0 rfl) ?_
  refine k_get (C := RX4) (T := TX4) (N := 26) (ci := 5) (v := .ref hP) (fs := [.ref hM, .int (kb dr), .int (kb cl), .int bx, .int by9, .int x, .int y, .int ot, .int tw, .ref hH, .int (nI no), .int lim, .ref hA, .int (nI nr), .ref hP, .ref hPa, .ref hR, .ref hW, .ref hMe, .ref hV, .ref hDo, .ref hS, .int (nI ni), .int ret, .long clm, .int la]) hC hG hi_RX4 0 rfl rfl 14 (by decide) (List.mem_of_getElem? (i := 2) rfl) rfl rfl dX4_cents_44 ?_
  refine lv_iconst (v := 2) hx hb dX4_cents_47 (by decide) ?_
  refine va_iald (f := fP) hx hb hC.K hG.1 4 0 rfl rfl (by unfold vp_in; decide) dX4_cents_48 ?_
  refine lv_imul hx hb dX4_cents_49 ?_
  refine lv_iadd hx hb dX4_cents_50 ?_
  exact k_reti hC hr hG ⟨by rw [nI_clamp (by omega)]; rfl, rfl⟩ (Nat.le_of_ble_eq_true rfl) (Nat.le_of_ble_eq_true rfl) dX4_cents_51

set_option maxHeartbeats 4000000 in
set_option maxRecDepth 100000 in
/-- rateOf -/
theorem K_X4_rateOf (l : Launch) (hfl : l.stackTraces = false) (D : va_G) (cI cJ cZ cO : ClassId) (z mi : Nat) (hm : Nat) (hM : Nat) (hH : Nat) (hA : Nat) (hP : Nat) (hPa : Nat) (hR : Nat) (hW : Nat) (hMe : Nat) (hV : Nat) (hDo : Nat) (hS : Nat) (mk : Nat → Bool) (fH : Nat → Int32) (fA : Nat → Int32) (fP : Nat → Int32) (fPa : Nat → Int32) (fR : Nat → Int32) (fW : Nat → Int32) (fMe : Nat → Int32) (fV : Nat → Int32) (fDo : Nat → Int32) (fS : Nat → Int64) (dr : Bool) (cl : Bool) (bx : Int32) (by9 : Int32) (x : Int32) (y : Int32) (ot : Int32) (tw : Int32) (no : Nat) (lim : Int32) (nr : Nat) (ni : Nat) (ret : Int32) (clm : Int64) (la : Int32) (rest : va_W) (q : Int32) (hnr : nr ≤ 12) : kM l D (kTy cI cJ cZ cO) z mi yX4_rateOf wsX4_rateOf ({ frames := 2, cells := 0, slots := 0, locals := 43 } : Room) [.ref hm, .int q] ((hm, .inr (5, [.ref hM, .int (kb dr), .int (kb cl), .int bx, .int by9, .int x, .int y, .int ot, .int tw, .ref hH, .int (nI no), .int lim, .ref hA, .int (nI nr), .ref hP, .ref hPa, .ref hR, .ref hW, .ref hMe, .ref hV, .ref hDo, .ref hS, .int (nI ni), .int ret, .long clm, .int la])) :: (hM, .inl (cZ, 1681, .inl (fun j9 => kb (mk j9)))) :: (hH, .inl (cI, 10, .inl fH)) :: (hA, .inl (cI, 36, .inl fA)) :: (hP, .inl (cI, 3, .inl fP)) :: (hPa, .inl (cI, 30, .inl fPa)) :: (hR, .inl (cI, 30, .inl fR)) :: (hW, .inl (cI, 30, .inl fW)) :: (hMe, .inl (cI, 30, .inl fMe)) :: (hV, .inl (cI, 30, .inl fV)) :: (hDo, .inl (cI, 30, .inl fDo)) :: (hS, .inl (cJ, 30, .inr (.inl fS))) :: rest) (fun v u => v = some (.int (bif kIn q 0 (nI nr - 1) then kCt fA fP q.toNatClampNeg else 0)) ∧ u = (hm, .inr (5, [.ref hM, .int (kb dr), .int (kb cl), .int bx, .int by9, .int x, .int y, .int ot, .int tw, .ref hH, .int (nI no), .int lim, .ref hA, .int (nI nr), .ref hP, .ref hPa, .ref hR, .ref hW, .ref hMe, .ref hV, .ref hDo, .ref hS, .int (nI ni), .int ret, .long clm, .int (kGo (kIn q 0 (nI nr - 1)) true true)])) :: (hM, .inl (cZ, 1681, .inl (fun j9 => kb (mk j9)))) :: (hH, .inl (cI, 10, .inl fH)) :: (hA, .inl (cI, 36, .inl fA)) :: (hP, .inl (cI, 3, .inl fP)) :: (hPa, .inl (cI, 30, .inl fPa)) :: (hR, .inl (cI, 30, .inl fR)) :: (hW, .inl (cI, 30, .inl fW)) :: (hMe, .inl (cI, 30, .inl fMe)) :: (hV, .inl (cI, 30, .inl fV)) :: (hDo, .inl (cI, 30, .inl fDo)) :: (hS, .inl (cJ, 30, .inr (.inl fS))) :: rest) (fun _ _ => False) := by
  refine kM.of hfl (cc := cX4_rateOf) (maxL := 2) (ret := (some .int)) (by decide) rfl (Nat.le_of_ble_eq_true rfl) ?_
  intro p e s m args below meth c A ls hC hr hmn hG hl
  have hx := hC.x
  have hb := hC.b
  have hl : lv_has ls 2 [(0, .ref hm), (1, .int q)] := hl
  refine lv_aload_n hx hb dX4_rateOf_0 rfl (lv_at hl 0 rfl) ?_
  refine lv_aload_n hx hb dX4_rateOf_1 rfl (lv_at hl 0 rfl) ?_
  refine lv_iload_n hx hb dX4_rateOf_2 rfl (lv_at hl 1 rfl) ?_
  refine k_callV (nn := 1) (C := RX4) hC hG 0 rfl (ci := 5) rfl (K_X4_isRate l hfl D cI cJ cZ cO z mi hm hM hH hA hP hPa hR hW hMe hV hDo hS mk fH fA fP fPa fR fW fMe fV fDo fS dr cl bx by9 x y ot tw no lim nr ni ret clm la rest q) gX4_rateOf_X4_isRate rfl rfl (by decide +kernel) ⟨(Nat.le_of_ble_eq_true rfl), (Nat.le_of_ble_eq_true rfl)⟩ hl.1 rfl (Nat.le_of_ble_eq_true rfl) dX4_rateOf_3 ⟨(Nat.le_of_ble_eq_true rfl), (Nat.le_of_ble_eq_true rfl)⟩ (fun _ _ _ _ _ _ hp => hp.elim) (fun v9 u9 H locs hp hG => ?_)
  obtain ⟨rfl, rfl⟩ := hp
  refine W.widen (k := 0) (n := 0) (Nat.le_of_ble_eq_true rfl) (Nat.le_of_ble_eq_true rfl) ?_
  refine W.eq (g2 := F0 m 6 ls [.int (kb (kIn q 0 (nI nr - 1))), .ref hm]) rfl ?_
  refine lv_iconst (v := 1) hx hb dX4_rateOf_6 (by decide) ?_
  refine lv_iconst (v := 1) hx hb dX4_rateOf_7 (by decide) ?_
  refine k_callV (nn := 3) (C := RX4) hC hG 0 rfl (ci := 5) rfl (K_X4_goes l hfl D cI cJ cZ cO z mi hm hM hH hA hP hPa hR hW hMe hV hDo hS mk fH fA fP fPa fR fW fMe fV fDo fS dr cl bx by9 x y ot tw no lim nr ni ret clm la rest (kIn q 0 (nI nr - 1)) true true) gX4_rateOf_X4_goes rfl rfl (by decide +kernel) ⟨(Nat.le_of_ble_eq_true rfl), (Nat.le_of_ble_eq_true rfl)⟩ hl.1 rfl (Nat.le_of_ble_eq_true rfl) dX4_rateOf_8 ⟨(Nat.le_of_ble_eq_true rfl), (Nat.le_of_ble_eq_true rfl)⟩ (fun _ _ _ _ _ _ hp => hp.elim) (fun v9 u9 H locs hp hG => ?_)
  obtain ⟨rfl, rfl⟩ := hp
  have hG : kG D A s ((hm, .inr (5, [.ref hM, .int (kb dr), .int (kb cl), .int bx, .int by9, .int x, .int y, .int ot, .int tw, .ref hH, .int (nI no), .int lim, .ref hA, .int (nI nr), .ref hP, .ref hPa, .ref hR, .ref hW, .ref hMe, .ref hV, .ref hDo, .ref hS, .int (nI ni), .int ret, .long clm, .int (kGo (kIn q 0 (nI nr - 1)) true true)])) :: (hM, .inl (cZ, 1681, .inl (fun j9 => kb (mk j9)))) :: (hH, .inl (cI, 10, .inl fH)) :: (hA, .inl (cI, 36, .inl fA)) :: (hP, .inl (cI, 3, .inl fP)) :: (hPa, .inl (cI, 30, .inl fPa)) :: (hR, .inl (cI, 30, .inl fR)) :: (hW, .inl (cI, 30, .inl fW)) :: (hMe, .inl (cI, 30, .inl fMe)) :: (hV, .inl (cI, 30, .inl fV)) :: (hDo, .inl (cI, 30, .inl fDo)) :: (hS, .inl (cJ, 30, .inr (.inl fS))) :: rest) H locs := hG
  refine W.widen (k := 0) (n := 0) (Nat.le_of_ble_eq_true rfl) (Nat.le_of_ble_eq_true rfl) ?_
  refine W.eq (g2 := F0 m 11 ls [.int (kb (kIn q 0 (nI nr - 1)))]) rfl ?_
  refine k_joinH (D := D) (A := A) (fun v3 : Int32 => F0 m 23 ls (.int v3 :: [])) (fun v3 => v3 = bif kIn q 0 (nI nr - 1) then (kCt fA fP q.toNatClampNeg) else 0) ((hm, .inr (5, [.ref hM, .int (kb dr), .int (kb cl), .int bx, .int by9, .int x, .int y, .int ot, .int tw, .ref hH, .int (nI no), .int lim, .ref hA, .int (nI nr), .ref hP, .ref hPa, .ref hR, .ref hW, .ref hMe, .ref hV, .ref hDo, .ref hS, .int (nI ni), .int ret, .long clm, .int (kGo (kIn q 0 (nI nr - 1)) true true)])) :: (hM, .inl (cZ, 1681, .inl (fun j9 => kb (mk j9)))) :: (hH, .inl (cI, 10, .inl fH)) :: (hA, .inl (cI, 36, .inl fA)) :: (hP, .inl (cI, 3, .inl fP)) :: (hPa, .inl (cI, 30, .inl fPa)) :: (hR, .inl (cI, 30, .inl fR)) :: (hW, .inl (cI, 30, .inl fW)) :: (hMe, .inl (cI, 30, .inl fMe)) :: (hV, .inl (cI, 30, .inl fV)) :: (hDo, .inl (cI, 30, .inl fDo)) :: (hS, .inl (cJ, 30, .inr (.inl fS))) :: rest) ?_ (fun J2 => ?_)
  · intro v3 ev3 H locs hG
    have ev3 : v3 = bif kIn q 0 (nI nr - 1) then (kCt fA fP q.toNatClampNeg) else 0 := ev3
    subst ev3
    exact k_reti hC hr hG ⟨rfl, rfl⟩ (Nat.le_of_ble_eq_true rfl) (Nat.le_of_ble_eq_true rfl) dX4_rateOf_23
  refine k_ifB_eq (tgt := 22) hx hb dX4_rateOf_11 (by decide) (fun c_1 => ?_) (fun c_1 => ?_)
  · refine lv_iconst (v := 0) hx hb dX4_rateOf_22 (by decide) ?_
    exact J2 0 (by rw [c_1]; first | done | rfl) _ _ hG
  · refine lv_aload_n hx hb dX4_rateOf_14 rfl (lv_at hl 0 rfl) ?_
    refine lv_iload_n hx hb dX4_rateOf_15 rfl (lv_at hl 1 rfl) ?_
    refine k_callV (nn := 1) (C := RX4) hC hG 0 rfl (ci := 5) rfl (K_X4_cents l hfl D cI cJ cZ cO z mi hm hM hH hA hP hPa hR hW hMe hV hDo hS mk fH fA fP fPa fR fW fMe fV fDo fS dr cl bx by9 x y ot tw no lim nr ni ret clm (kGo (kIn q 0 (nI nr - 1)) true true) rest q (kIn_in c_1 (by omega) (by decide))) gX4_rateOf_X4_cents rfl rfl (by decide +kernel) ⟨(Nat.le_of_ble_eq_true rfl), (Nat.le_of_ble_eq_true rfl)⟩ hl.1 rfl (Nat.le_of_ble_eq_true rfl) dX4_rateOf_16 ⟨(Nat.le_of_ble_eq_true rfl), (Nat.le_of_ble_eq_true rfl)⟩ (fun _ _ _ _ _ _ hp => hp.elim) (fun v9 u9 H locs hp hG => ?_)
    obtain ⟨rfl, rfl⟩ := hp
    refine W.widen (k := 0) (n := 0) (Nat.le_of_ble_eq_true rfl) (Nat.le_of_ble_eq_true rfl) ?_
    refine W.eq (g2 := F0 m 19 ls [.int (kCt fA fP q.toNatClampNeg)]) rfl ?_
    refine lv_goto (tgt := 23) hx hb dX4_rateOf_19 (by decide) ?_
    exact J2 (kCt fA fP q.toNatClampNeg) (by rw [c_1]; first | done | rfl) _ _ hG

set_option maxHeartbeats 4000000 in
set_option maxRecDepth 100000 in
/-- adds: an item -/
theorem K_X4_adds (l : Launch) (hfl : l.stackTraces = false) (D : va_G) (cI cJ cZ cO : ClassId) (z mi : Nat) (hm : Nat) (hM : Nat) (hH : Nat) (hA : Nat) (hP : Nat) (hPa : Nat) (hR : Nat) (hW : Nat) (hMe : Nat) (hV : Nat) (hDo : Nat) (hS : Nat) (mk : Nat → Bool) (fH : Nat → Int32) (fA : Nat → Int32) (fP : Nat → Int32) (fPa : Nat → Int32) (fR : Nat → Int32) (fW : Nat → Int32) (fMe : Nat → Int32) (fV : Nat → Int32) (fDo : Nat → Int32) (fS : Nat → Int64) (dr : Bool) (cl : Bool) (bx : Int32) (by9 : Int32) (x : Int32) (y : Int32) (ot : Int32) (tw : Int32) (no : Nat) (lim : Int32) (nr : Nat) (ni : Nat) (ret : Int32) (clm : Int64) (la : Int32) (rest : va_W) (pa ra wa : Int32) (hni : ni < 30) : kM l D (kTy cI cJ cZ cO) z mi yX4_adds wsX4_adds ({ frames := 0, cells := 0, slots := 0, locals := 0 } : Room) [.ref hm, .int pa, .int ra, .int wa] ((hm, .inr (5, [.ref hM, .int (kb dr), .int (kb cl), .int bx, .int by9, .int x, .int y, .int ot, .int tw, .ref hH, .int (nI no), .int lim, .ref hA, .int (nI nr), .ref hP, .ref hPa, .ref hR, .ref hW, .ref hMe, .ref hV, .ref hDo, .ref hS, .int (nI ni), .int ret, .long clm, .int la])) :: (hM, .inl (cZ, 1681, .inl (fun j9 => kb (mk j9)))) :: (hH, .inl (cI, 10, .inl fH)) :: (hA, .inl (cI, 36, .inl fA)) :: (hP, .inl (cI, 3, .inl fP)) :: (hPa, .inl (cI, 30, .inl fPa)) :: (hR, .inl (cI, 30, .inl fR)) :: (hW, .inl (cI, 30, .inl fW)) :: (hMe, .inl (cI, 30, .inl fMe)) :: (hV, .inl (cI, 30, .inl fV)) :: (hDo, .inl (cI, 30, .inl fDo)) :: (hS, .inl (cJ, 30, .inr (.inl fS))) :: rest) (fun v u => v = some (.int (nI ni)) ∧ u = (hm, .inr (5, [.ref hM, .int (kb dr), .int (kb cl), .int bx, .int by9, .int x, .int y, .int ot, .int tw, .ref hH, .int (nI no), .int lim, .ref hA, .int (nI nr), .ref hP, .ref hPa, .ref hR, .ref hW, .ref hMe, .ref hV, .ref hDo, .ref hS, .int (nI (ni + 1)), .int ret, .long clm, .int la])) :: (hM, .inl (cZ, 1681, .inl (fun j9 => kb (mk j9)))) :: (hH, .inl (cI, 10, .inl fH)) :: (hA, .inl (cI, 36, .inl fA)) :: (hP, .inl (cI, 3, .inl fP)) :: (hPa, .inl (cI, 30, .inl (upd fPa ni pa))) :: (hR, .inl (cI, 30, .inl (upd fR ni ra))) :: (hW, .inl (cI, 30, .inl (upd fW ni wa))) :: (hMe, .inl (cI, 30, .inl fMe)) :: (hV, .inl (cI, 30, .inl fV)) :: (hDo, .inl (cI, 30, .inl fDo)) :: (hS, .inl (cJ, 30, .inr (.inl fS))) :: rest) (fun _ _ => False) := by
  refine kM.of hfl (cc := cX4_adds) (maxL := 4) (ret := (some .int)) (by decide) rfl (Nat.le_of_ble_eq_true rfl) ?_
  intro p e s m args below meth c A ls hC hr hmn hG hl
  have hx := hC.x
  have hb := hC.b
  have hl : lv_has ls 4 [(0, .ref hm), (1, .int pa), (2, .int ra), (3, .int wa)] := hl
  have hi_RX4 : ∀ w ∈ wsX40, w ∈ wsX4_adds := fun w h => List.mem_cons_of_mem _ (List.mem_append_right _ h)
  refine lv_aload_n hx hb dX4_adds_0 rfl (lv_at hl 0 rfl) ?_
  refine k_get (C := RX4) (T := TX4) (N := 26) (ci := 5) (v := .ref hPa) (fs := [.ref hM, .int (kb dr), .int (kb cl), .int bx, .int by9, .int x, .int y, .int ot, .int tw, .ref hH, .int (nI no), .int lim, .ref hA, .int (nI nr), .ref hP, .ref hPa, .ref hR, .ref hW, .ref hMe, .ref hV, .ref hDo, .ref hS, .int (nI ni), .int ret, .long clm, .int la]) hC hG hi_RX4 0 rfl rfl 15 (by decide) (List.mem_of_getElem? (i := 1) rfl) rfl rfl dX4_adds_1 ?_
  refine lv_aload_n hx hb dX4_adds_4 rfl (lv_at hl 0 rfl) ?_
  refine k_get (C := RX4) (T := TX4) (N := 26) (ci := 5) (v := .int (nI ni)) (fs := [.ref hM, .int (kb dr), .int (kb cl), .int bx, .int by9, .int x, .int y, .int ot, .int tw, .ref hH, .int (nI no), .int lim, .ref hA, .int (nI nr), .ref hP, .ref hPa, .ref hR, .ref hW, .ref hMe, .ref hV, .ref hDo, .ref hS, .int (nI ni), .int ret, .long clm, .int la]) hC hG hi_RX4 0 rfl rfl 22 (by decide) (List.mem_of_getElem? (i := 2) rfl) rfl rfl dX4_adds_5 ?_
  refine lv_iload_n hx hb dX4_adds_8 rfl (lv_at hl 1 rfl) ?_
  refine va_iast (f := fPa) (x := pa) hx hb hC.K hG.1 hG.2.1 hG.2.2 5 0 rfl rfl (vp_in_nI (by omega) (by decide)) dX4_adds_9 (fun H locs h1 h2 h3 => ?_)
  have hG : kG D A s ((hm, .inr (5, [.ref hM, .int (kb dr), .int (kb cl), .int bx, .int by9, .int x, .int y, .int ot, .int tw, .ref hH, .int (nI no), .int lim, .ref hA, .int (nI nr), .ref hP, .ref hPa, .ref hR, .ref hW, .ref hMe, .ref hV, .ref hDo, .ref hS, .int (nI ni), .int ret, .long clm, .int la])) :: (hM, .inl (cZ, 1681, .inl (fun j9 => kb (mk j9)))) :: (hH, .inl (cI, 10, .inl fH)) :: (hA, .inl (cI, 36, .inl fA)) :: (hP, .inl (cI, 3, .inl fP)) :: (hPa, .inl (cI, 30, .inl (upd fPa (nI ni).toNatClampNeg pa))) :: (hR, .inl (cI, 30, .inl fR)) :: (hW, .inl (cI, 30, .inl fW)) :: (hMe, .inl (cI, 30, .inl fMe)) :: (hV, .inl (cI, 30, .inl fV)) :: (hDo, .inl (cI, 30, .inl fDo)) :: (hS, .inl (cJ, 30, .inr (.inl fS))) :: rest) H locs := ⟨h1, h2, h3⟩
  rw [nI_clamp (n := ni) (by omega)] at hG
  refine lv_aload_n hx hb dX4_adds_10 rfl (lv_at hl 0 rfl) ?_
  refine k_get (C := RX4) (T := TX4) (N := 26) (ci := 5) (v := .ref hR) (fs := [.ref hM, .int (kb dr), .int (kb cl), .int bx, .int by9, .int x, .int y, .int ot, .int tw, .ref hH, .int (nI no), .int lim, .ref hA, .int (nI nr), .ref hP, .ref hPa, .ref hR, .ref hW, .ref hMe, .ref hV, .ref hDo, .ref hS, .int (nI ni), .int ret, .long clm, .int la]) hC hG hi_RX4 0 rfl rfl 16 (by decide) (List.mem_of_getElem? (i := 3) rfl) rfl rfl dX4_adds_11 ?_
  refine lv_aload_n hx hb dX4_adds_14 rfl (lv_at hl 0 rfl) ?_
  refine k_get (C := RX4) (T := TX4) (N := 26) (ci := 5) (v := .int (nI ni)) (fs := [.ref hM, .int (kb dr), .int (kb cl), .int bx, .int by9, .int x, .int y, .int ot, .int tw, .ref hH, .int (nI no), .int lim, .ref hA, .int (nI nr), .ref hP, .ref hPa, .ref hR, .ref hW, .ref hMe, .ref hV, .ref hDo, .ref hS, .int (nI ni), .int ret, .long clm, .int la]) hC hG hi_RX4 0 rfl rfl 22 (by decide) (List.mem_of_getElem? (i := 2) rfl) rfl rfl dX4_adds_15 ?_
  refine lv_iload_n hx hb dX4_adds_18 rfl (lv_at hl 2 rfl) ?_
  refine va_iast (f := fR) (x := ra) hx hb hC.K hG.1 hG.2.1 hG.2.2 6 0 rfl rfl (vp_in_nI (by omega) (by decide)) dX4_adds_19 (fun H locs h1 h2 h3 => ?_)
  have hG : kG D A s ((hm, .inr (5, [.ref hM, .int (kb dr), .int (kb cl), .int bx, .int by9, .int x, .int y, .int ot, .int tw, .ref hH, .int (nI no), .int lim, .ref hA, .int (nI nr), .ref hP, .ref hPa, .ref hR, .ref hW, .ref hMe, .ref hV, .ref hDo, .ref hS, .int (nI ni), .int ret, .long clm, .int la])) :: (hM, .inl (cZ, 1681, .inl (fun j9 => kb (mk j9)))) :: (hH, .inl (cI, 10, .inl fH)) :: (hA, .inl (cI, 36, .inl fA)) :: (hP, .inl (cI, 3, .inl fP)) :: (hPa, .inl (cI, 30, .inl (upd fPa ni pa))) :: (hR, .inl (cI, 30, .inl (upd fR (nI ni).toNatClampNeg ra))) :: (hW, .inl (cI, 30, .inl fW)) :: (hMe, .inl (cI, 30, .inl fMe)) :: (hV, .inl (cI, 30, .inl fV)) :: (hDo, .inl (cI, 30, .inl fDo)) :: (hS, .inl (cJ, 30, .inr (.inl fS))) :: rest) H locs := ⟨h1, h2, h3⟩
  rw [nI_clamp (n := ni) (by omega)] at hG
  refine lv_aload_n hx hb dX4_adds_20 rfl (lv_at hl 0 rfl) ?_
  refine k_get (C := RX4) (T := TX4) (N := 26) (ci := 5) (v := .ref hW) (fs := [.ref hM, .int (kb dr), .int (kb cl), .int bx, .int by9, .int x, .int y, .int ot, .int tw, .ref hH, .int (nI no), .int lim, .ref hA, .int (nI nr), .ref hP, .ref hPa, .ref hR, .ref hW, .ref hMe, .ref hV, .ref hDo, .ref hS, .int (nI ni), .int ret, .long clm, .int la]) hC hG hi_RX4 0 rfl rfl 17 (by decide) (List.mem_of_getElem? (i := 4) rfl) rfl rfl dX4_adds_21 ?_
  refine lv_aload_n hx hb dX4_adds_24 rfl (lv_at hl 0 rfl) ?_
  refine k_get (C := RX4) (T := TX4) (N := 26) (ci := 5) (v := .int (nI ni)) (fs := [.ref hM, .int (kb dr), .int (kb cl), .int bx, .int by9, .int x, .int y, .int ot, .int tw, .ref hH, .int (nI no), .int lim, .ref hA, .int (nI nr), .ref hP, .ref hPa, .ref hR, .ref hW, .ref hMe, .ref hV, .ref hDo, .ref hS, .int (nI ni), .int ret, .long clm, .int la]) hC hG hi_RX4 0 rfl rfl 22 (by decide) (List.mem_of_getElem? (i := 2) rfl) rfl rfl dX4_adds_25 ?_
  refine lv_iload_n hx hb dX4_adds_28 rfl (lv_at hl 3 rfl) ?_
  refine va_iast (f := fW) (x := wa) hx hb hC.K hG.1 hG.2.1 hG.2.2 7 0 rfl rfl (vp_in_nI (by omega) (by decide)) dX4_adds_29 (fun H locs h1 h2 h3 => ?_)
  have hG : kG D A s ((hm, .inr (5, [.ref hM, .int (kb dr), .int (kb cl), .int bx, .int by9, .int x, .int y, .int ot, .int tw, .ref hH, .int (nI no), .int lim, .ref hA, .int (nI nr), .ref hP, .ref hPa, .ref hR, .ref hW, .ref hMe, .ref hV, .ref hDo, .ref hS, .int (nI ni), .int ret, .long clm, .int la])) :: (hM, .inl (cZ, 1681, .inl (fun j9 => kb (mk j9)))) :: (hH, .inl (cI, 10, .inl fH)) :: (hA, .inl (cI, 36, .inl fA)) :: (hP, .inl (cI, 3, .inl fP)) :: (hPa, .inl (cI, 30, .inl (upd fPa ni pa))) :: (hR, .inl (cI, 30, .inl (upd fR ni ra))) :: (hW, .inl (cI, 30, .inl (upd fW (nI ni).toNatClampNeg wa))) :: (hMe, .inl (cI, 30, .inl fMe)) :: (hV, .inl (cI, 30, .inl fV)) :: (hDo, .inl (cI, 30, .inl fDo)) :: (hS, .inl (cJ, 30, .inr (.inl fS))) :: rest) H locs := ⟨h1, h2, h3⟩
  rw [nI_clamp (n := ni) (by omega)] at hG
  refine lv_aload_n hx hb dX4_adds_30 rfl (lv_at hl 0 rfl) ?_
  refine lv_dup hx hb dX4_adds_31 rfl ?_
  refine k_get (C := RX4) (T := TX4) (N := 26) (ci := 5) (v := .int (nI ni)) (fs := [.ref hM, .int (kb dr), .int (kb cl), .int bx, .int by9, .int x, .int y, .int ot, .int tw, .ref hH, .int (nI no), .int lim, .ref hA, .int (nI nr), .ref hP, .ref hPa, .ref hR, .ref hW, .ref hMe, .ref hV, .ref hDo, .ref hS, .int (nI ni), .int ret, .long clm, .int la]) hC hG hi_RX4 0 rfl rfl 22 (by decide) (List.mem_of_getElem? (i := 2) rfl) rfl rfl dX4_adds_32 ?_
  refine lv_iconst (v := 1) hx hb dX4_adds_35 (by decide) ?_
  refine lv_iadd hx hb dX4_adds_36 ?_
  refine k_topi (y := nI (ni + 1)) (nI_1 ni) ?_
  refine k_put (C := RX4) (T := TX4) (N := 26) (ci := 5) (v := .int (nI (ni + 1))) (fs := [.ref hM, .int (kb dr), .int (kb cl), .int bx, .int by9, .int x, .int y, .int ot, .int tw, .ref hH, .int (nI no), .int lim, .ref hA, .int (nI nr), .ref hP, .ref hPa, .ref hR, .ref hW, .ref hMe, .ref hV, .ref hDo, .ref hS, .int (nI ni), .int ret, .long clm, .int la]) hC hG hi_RX4 tyX4_ok nmX4 0 rfl rfl 22 (by decide) (List.mem_of_getElem? (i := 2) rfl) rfl rfl rfl rfl (Nat.le_of_ble_eq_true rfl) dX4_adds_37 (fun H locs hG => ?_)
  have hG : kG D A s ((hm, .inr (5, [.ref hM, .int (kb dr), .int (kb cl), .int bx, .int by9, .int x, .int y, .int ot, .int tw, .ref hH, .int (nI no), .int lim, .ref hA, .int (nI nr), .ref hP, .ref hPa, .ref hR, .ref hW, .ref hMe, .ref hV, .ref hDo, .ref hS, .int (nI (ni + 1)), .int ret, .long clm, .int la])) :: (hM, .inl (cZ, 1681, .inl (fun j9 => kb (mk j9)))) :: (hH, .inl (cI, 10, .inl fH)) :: (hA, .inl (cI, 36, .inl fA)) :: (hP, .inl (cI, 3, .inl fP)) :: (hPa, .inl (cI, 30, .inl (upd fPa ni pa))) :: (hR, .inl (cI, 30, .inl (upd fR ni ra))) :: (hW, .inl (cI, 30, .inl (upd fW ni wa))) :: (hMe, .inl (cI, 30, .inl fMe)) :: (hV, .inl (cI, 30, .inl fV)) :: (hDo, .inl (cI, 30, .inl fDo)) :: (hS, .inl (cJ, 30, .inr (.inl fS))) :: rest) H locs := hG
  refine lv_aload_n hx hb dX4_adds_40 rfl (lv_at hl 0 rfl) ?_
  refine k_get (C := RX4) (T := TX4) (N := 26) (ci := 5) (v := .int (nI (ni + 1))) (fs := [.ref hM, .int (kb dr), .int (kb cl), .int bx, .int by9, .int x, .int y, .int ot, .int tw, .ref hH, .int (nI no), .int lim, .ref hA, .int (nI nr), .ref hP, .ref hPa, .ref hR, .ref hW, .ref hMe, .ref hV, .ref hDo, .ref hS, .int (nI (ni + 1)), .int ret, .long clm, .int la]) hC hG hi_RX4 0 rfl rfl 22 (by decide) (List.mem_of_getElem? (i := 2) rfl) rfl rfl dX4_adds_41 ?_
  refine lv_iconst (v := 1) hx hb dX4_adds_44 (by decide) ?_
  refine lv_isub hx hb dX4_adds_45 ?_
  refine k_topi (y := nI ni) (nI_pred ni) ?_
  exact k_reti hC hr hG ⟨rfl, rfl⟩ (Nat.le_of_ble_eq_true rfl) (Nat.le_of_ble_eq_true rfl) dX4_adds_46

set_option maxHeartbeats 4000000 in
set_option maxRecDepth 100000 in
/-- heading -/
theorem K_X4_heading (l : Launch) (hfl : l.stackTraces = false) (D : va_G) (cI cJ cZ cO : ClassId) (z mi : Nat) (hm : Nat) (hM : Nat) (hH : Nat) (hA : Nat) (hP : Nat) (hPa : Nat) (hR : Nat) (hW : Nat) (hMe : Nat) (hV : Nat) (hDo : Nat) (hS : Nat) (mk : Nat → Bool) (fH : Nat → Int32) (fA : Nat → Int32) (fP : Nat → Int32) (fPa : Nat → Int32) (fR : Nat → Int32) (fW : Nat → Int32) (fMe : Nat → Int32) (fV : Nat → Int32) (fDo : Nat → Int32) (fS : Nat → Int64) (dr : Bool) (cl : Bool) (bx : Int32) (by9 : Int32) (x : Int32) (y : Int32) (ot : Int32) (tw : Int32) (no : Nat) (lim : Int32) (nr : Nat) (ni : Nat) (ret : Int32) (clm : Int64) (la : Int32) (rest : va_W) (q : Int32) (hni : ni ≤ 30) : kM l D (kTy cI cJ cZ cO) z mi yX4_heading wsX4_heading ({ frames := 2, cells := 0, slots := 0, locals := 43 } : Room) [.ref hm, .int q] ((hm, .inr (5, [.ref hM, .int (kb dr), .int (kb cl), .int bx, .int by9, .int x, .int y, .int ot, .int tw, .ref hH, .int (nI no), .int lim, .ref hA, .int (nI nr), .ref hP, .ref hPa, .ref hR, .ref hW, .ref hMe, .ref hV, .ref hDo, .ref hS, .int (nI ni), .int ret, .long clm, .int la])) :: (hM, .inl (cZ, 1681, .inl (fun j9 => kb (mk j9)))) :: (hH, .inl (cI, 10, .inl fH)) :: (hA, .inl (cI, 36, .inl fA)) :: (hP, .inl (cI, 3, .inl fP)) :: (hPa, .inl (cI, 30, .inl fPa)) :: (hR, .inl (cI, 30, .inl fR)) :: (hW, .inl (cI, 30, .inl fW)) :: (hMe, .inl (cI, 30, .inl fMe)) :: (hV, .inl (cI, 30, .inl fV)) :: (hDo, .inl (cI, 30, .inl fDo)) :: (hS, .inl (cJ, 30, .inr (.inl fS))) :: rest) (fun v u => v = some (.int (bif (((decide (q = (-1))) || (kIn q 0 (nI ni - 1))) && ((!(kLf fR q)) && (!(decide (30 ≤ (nI ni)))))) && ((decide (q = (-1))) || (kIn q 0 (nI ni - 1))) then nI ni else 0)) ∧ u = (hm, .inr (5, [.ref hM, .int (kb dr), .int (kb cl), .int bx, .int by9, .int x, .int y, .int ot, .int tw, .ref hH, .int (nI no), .int lim, .ref hA, .int (nI nr), .ref hP, .ref hPa, .ref hR, .ref hW, .ref hMe, .ref hV, .ref hDo, .ref hS, .int (nI (bif (((decide (q = (-1))) || (kIn q 0 (nI ni - 1))) && ((!(kLf fR q)) && (!(decide (30 ≤ (nI ni)))))) && ((decide (q = (-1))) || (kIn q 0 (nI ni - 1))) then ni + 1 else ni)), .int ret, .long clm, .int (kGo ((decide (q = (-1))) || (kIn q 0 (nI ni - 1))) (((decide (q = (-1))) || (kIn q 0 (nI ni - 1))) && ((!(kLf fR q)) && (!(decide (30 ≤ (nI ni)))))) true)])) :: (hM, .inl (cZ, 1681, .inl (fun j9 => kb (mk j9)))) :: (hH, .inl (cI, 10, .inl fH)) :: (hA, .inl (cI, 36, .inl fA)) :: (hP, .inl (cI, 3, .inl fP)) :: (hPa, .inl (cI, 30, .inl (bif (((decide (q = (-1))) || (kIn q 0 (nI ni - 1))) && ((!(kLf fR q)) && (!(decide (30 ≤ (nI ni)))))) && ((decide (q = (-1))) || (kIn q 0 (nI ni - 1))) then upd fPa ni q else fPa))) :: (hR, .inl (cI, 30, .inl (bif (((decide (q = (-1))) || (kIn q 0 (nI ni - 1))) && ((!(kLf fR q)) && (!(decide (30 ≤ (nI ni)))))) && ((decide (q = (-1))) || (kIn q 0 (nI ni - 1))) then upd fR ni (-1) else fR))) :: (hW, .inl (cI, 30, .inl (bif (((decide (q = (-1))) || (kIn q 0 (nI ni - 1))) && ((!(kLf fR q)) && (!(decide (30 ≤ (nI ni)))))) && ((decide (q = (-1))) || (kIn q 0 (nI ni - 1))) then upd fW ni 0 else fW))) :: (hMe, .inl (cI, 30, .inl fMe)) :: (hV, .inl (cI, 30, .inl fV)) :: (hDo, .inl (cI, 30, .inl fDo)) :: (hS, .inl (cJ, 30, .inr (.inl fS))) :: rest) (fun _ _ => False) := by
  refine kM.of hfl (cc := cX4_heading) (maxL := 3) (ret := (some .int)) (by decide) rfl (Nat.le_of_ble_eq_true rfl) ?_
  intro p e s m args below meth c A ls hC hr hmn hG hl
  have hx := hC.x
  have hb := hC.b
  have hl : lv_has ls 3 [(0, .ref hm), (1, .int q)] := hl
  have hi_RX4 : ∀ w ∈ wsX40, w ∈ wsX4_heading := fun w h => List.mem_cons_of_mem _ (List.mem_append_right _ h)
  refine lv_iload_n hx hb dX4_heading_0 rfl (lv_at hl 1 rfl) ?_
  refine lv_iconst (v := (-1)) hx hb dX4_heading_1 (by decide) ?_
  refine k_joinH (D := D) (A := A) (fun v3 : Int32 => F0 m 18 ls (.int v3 :: [])) (fun v3 => v3 = kb ((decide (q = (-1))) || (kIn q 0 (nI ni - 1)))) ((hm, .inr (5, [.ref hM, .int (kb dr), .int (kb cl), .int bx, .int by9, .int x, .int y, .int ot, .int tw, .ref hH, .int (nI no), .int lim, .ref hA, .int (nI nr), .ref hP, .ref hPa, .ref hR, .ref hW, .ref hMe, .ref hV, .ref hDo, .ref hS, .int (nI ni), .int ret, .long clm, .int la])) :: (hM, .inl (cZ, 1681, .inl (fun j9 => kb (mk j9)))) :: (hH, .inl (cI, 10, .inl fH)) :: (hA, .inl (cI, 36, .inl fA)) :: (hP, .inl (cI, 3, .inl fP)) :: (hPa, .inl (cI, 30, .inl fPa)) :: (hR, .inl (cI, 30, .inl fR)) :: (hW, .inl (cI, 30, .inl fW)) :: (hMe, .inl (cI, 30, .inl fMe)) :: (hV, .inl (cI, 30, .inl fV)) :: (hDo, .inl (cI, 30, .inl fDo)) :: (hS, .inl (cJ, 30, .inr (.inl fS))) :: rest) ?_ (fun J2 => ?_)
  · intro v3 ev3 H locs hG
    have ev3 : v3 = kb ((decide (q = (-1))) || (kIn q 0 (nI ni - 1))) := ev3
    subst ev3
    refine lv_istore_n (lv' := [(2, .int (kb ((decide (q = (-1))) || (kIn q 0 (nI ni - 1))))), (0, .ref hm), (1, .int q)]) hx hb dX4_heading_18 rfl hl (by decide) rfl (fun ls hl => ?_)
    refine lv_aload_n hx hb dX4_heading_19 rfl (lv_at hl 1 rfl) ?_
    refine lv_iload_n hx hb dX4_heading_20 rfl (lv_at hl 0 rfl) ?_
    refine lv_iload_n hx hb dX4_heading_21 rfl (lv_at hl 0 rfl) ?_
    refine k_joinH (D := D) (A := A) (fun v6 : Int32 => F0 m 47 ls (.int v6 :: [.int (kb ((decide (q = (-1))) || (kIn q 0 (nI ni - 1)))), .ref hm])) (fun v6 => v6 = kb (((decide (q = (-1))) || (kIn q 0 (nI ni - 1))) && (!(kLf fR q) && (!(decide (30 ≤ (nI ni))))))) ((hm, .inr (5, [.ref hM, .int (kb dr), .int (kb cl), .int bx, .int by9, .int x, .int y, .int ot, .int tw, .ref hH, .int (nI no), .int lim, .ref hA, .int (nI nr), .ref hP, .ref hPa, .ref hR, .ref hW, .ref hMe, .ref hV, .ref hDo, .ref hS, .int (nI ni), .int ret, .long clm, .int la])) :: (hM, .inl (cZ, 1681, .inl (fun j9 => kb (mk j9)))) :: (hH, .inl (cI, 10, .inl fH)) :: (hA, .inl (cI, 36, .inl fA)) :: (hP, .inl (cI, 3, .inl fP)) :: (hPa, .inl (cI, 30, .inl fPa)) :: (hR, .inl (cI, 30, .inl fR)) :: (hW, .inl (cI, 30, .inl fW)) :: (hMe, .inl (cI, 30, .inl fMe)) :: (hV, .inl (cI, 30, .inl fV)) :: (hDo, .inl (cI, 30, .inl fDo)) :: (hS, .inl (cJ, 30, .inr (.inl fS))) :: rest) ?_ (fun J5 => ?_)
    · intro v6 ev6 H locs hG
      have ev6 : v6 = kb (((decide (q = (-1))) || (kIn q 0 (nI ni - 1))) && (!(kLf fR q) && (!(decide (30 ≤ (nI ni)))))) := ev6
      subst ev6
      refine lv_iconst (v := 1) hx hb dX4_heading_47 (by decide) ?_
      refine k_callV (nn := 3) (C := RX4) hC hG 0 rfl (ci := 5) rfl (K_X4_goes l hfl D cI cJ cZ cO z mi hm hM hH hA hP hPa hR hW hMe hV hDo hS mk fH fA fP fPa fR fW fMe fV fDo fS dr cl bx by9 x y ot tw no lim nr ni ret clm la rest ((decide (q = (-1))) || (kIn q 0 (nI ni - 1))) (((decide (q = (-1))) || (kIn q 0 (nI ni - 1))) && (!(kLf fR q) && (!(decide (30 ≤ (nI ni)))))) true) gX4_heading_X4_goes rfl rfl (by decide +kernel) ⟨(Nat.le_of_ble_eq_true rfl), (Nat.le_of_ble_eq_true rfl)⟩ hl.1 rfl (Nat.le_of_ble_eq_true rfl) dX4_heading_48 ⟨(Nat.le_of_ble_eq_true rfl), (Nat.le_of_ble_eq_true rfl)⟩ (fun _ _ _ _ _ _ hp => hp.elim) (fun v9 u9 H locs hp hG => ?_)
      obtain ⟨rfl, rfl⟩ := hp
      have hG : kG D A s ((hm, .inr (5, [.ref hM, .int (kb dr), .int (kb cl), .int bx, .int by9, .int x, .int y, .int ot, .int tw, .ref hH, .int (nI no), .int lim, .ref hA, .int (nI nr), .ref hP, .ref hPa, .ref hR, .ref hW, .ref hMe, .ref hV, .ref hDo, .ref hS, .int (nI ni), .int ret, .long clm, .int (kGo ((decide (q = (-1))) || (kIn q 0 (nI ni - 1))) (((decide (q = (-1))) || (kIn q 0 (nI ni - 1))) && (!(kLf fR q) && (!(decide (30 ≤ (nI ni)))))) true)])) :: (hM, .inl (cZ, 1681, .inl (fun j9 => kb (mk j9)))) :: (hH, .inl (cI, 10, .inl fH)) :: (hA, .inl (cI, 36, .inl fA)) :: (hP, .inl (cI, 3, .inl fP)) :: (hPa, .inl (cI, 30, .inl fPa)) :: (hR, .inl (cI, 30, .inl fR)) :: (hW, .inl (cI, 30, .inl fW)) :: (hMe, .inl (cI, 30, .inl fMe)) :: (hV, .inl (cI, 30, .inl fV)) :: (hDo, .inl (cI, 30, .inl fDo)) :: (hS, .inl (cJ, 30, .inr (.inl fS))) :: rest) H locs := hG
      refine W.widen (k := 0) (n := 0) (Nat.le_of_ble_eq_true rfl) (Nat.le_of_ble_eq_true rfl) ?_
      refine W.eq (g2 := F0 m 51 ls [.int (kb ((((decide (q = (-1))) || (kIn q 0 (nI ni - 1))) && (!(kLf fR q) && (!(decide (30 ≤ (nI ni)))))) && ((decide (q = (-1))) || (kIn q 0 (nI ni - 1)))))]) rfl ?_
      refine k_ifB_eq (tgt := 64) hx hb dX4_heading_51 (by decide) (fun c_7 => ?_) (fun c_7 => ?_)
      · refine lv_iconst (v := 0) hx hb dX4_heading_64 (by decide) ?_
        exact k_reti hC hr hG ⟨by rw [c_7]; first | done | rfl, by rw [c_7]; first | done | rfl⟩ (Nat.le_of_ble_eq_true rfl) (Nat.le_of_ble_eq_true rfl) dX4_heading_65
      · refine lv_aload_n hx hb dX4_heading_54 rfl (lv_at hl 1 rfl) ?_
        refine lv_iload_n hx hb dX4_heading_55 rfl (lv_at hl 2 rfl) ?_
        refine lv_iconst (v := (-1)) hx hb dX4_heading_56 (by decide) ?_
        refine lv_iconst (v := 0) hx hb dX4_heading_57 (by decide) ?_
        refine k_callV (nn := 3) (C := RX4) hC hG 0 rfl (ci := 5) rfl (K_X4_adds l hfl D cI cJ cZ cO z mi hm hM hH hA hP hPa hR hW hMe hV hDo hS mk fH fA fP fPa fR fW fMe fV fDo fS dr cl bx by9 x y ot tw no lim nr ni ret clm (kGo ((decide (q = (-1))) || (kIn q 0 (nI ni - 1))) (((decide (q = (-1))) || (kIn q 0 (nI ni - 1))) && (!(kLf fR q) && (!(decide (30 ≤ (nI ni)))))) true) rest q (-1) 0 (kLt 30 rfl (by decide) (by omega) (k_notf (k_andr (k_andr (k_andl c_7)))))) gX4_heading_X4_adds rfl rfl (by decide +kernel) ⟨(Nat.le_of_ble_eq_true rfl), (Nat.le_of_ble_eq_true rfl)⟩ hl.1 rfl (Nat.le_of_ble_eq_true rfl) dX4_heading_58 ⟨(Nat.le_of_ble_eq_true rfl), (Nat.le_of_ble_eq_true rfl)⟩ (fun _ _ _ _ _ _ hp => hp.elim) (fun v9 u9 H locs hp hG => ?_)
        obtain ⟨rfl, rfl⟩ := hp
        have hG : kG D A s ((hm, .inr (5, [.ref hM, .int (kb dr), .int (kb cl), .int bx, .int by9, .int x, .int y, .int ot, .int tw, .ref hH, .int (nI no), .int lim, .ref hA, .int (nI nr), .ref hP, .ref hPa, .ref hR, .ref hW, .ref hMe, .ref hV, .ref hDo, .ref hS, .int (nI (ni + 1)), .int ret, .long clm, .int (kGo ((decide (q = (-1))) || (kIn q 0 (nI ni - 1))) (((decide (q = (-1))) || (kIn q 0 (nI ni - 1))) && (!(kLf fR q) && (!(decide (30 ≤ (nI ni)))))) true)])) :: (hM, .inl (cZ, 1681, .inl (fun j9 => kb (mk j9)))) :: (hH, .inl (cI, 10, .inl fH)) :: (hA, .inl (cI, 36, .inl fA)) :: (hP, .inl (cI, 3, .inl fP)) :: (hPa, .inl (cI, 30, .inl (upd fPa ni q))) :: (hR, .inl (cI, 30, .inl (upd fR ni (-1)))) :: (hW, .inl (cI, 30, .inl (upd fW ni 0))) :: (hMe, .inl (cI, 30, .inl fMe)) :: (hV, .inl (cI, 30, .inl fV)) :: (hDo, .inl (cI, 30, .inl fDo)) :: (hS, .inl (cJ, 30, .inr (.inl fS))) :: rest) H locs := hG
        refine W.widen (k := 0) (n := 0) (Nat.le_of_ble_eq_true rfl) (Nat.le_of_ble_eq_true rfl) ?_
        refine W.eq (g2 := F0 m 61 ls [.int (nI ni)]) rfl ?_
        refine lv_goto (tgt := 65) hx hb dX4_heading_61 (by decide) ?_
        exact k_reti hC hr hG ⟨by rw [c_7]; first | done | rfl, by rw [c_7]; first | done | rfl⟩ (Nat.le_of_ble_eq_true rfl) (Nat.le_of_ble_eq_true rfl) dX4_heading_65
    refine k_ifB_eq (tgt := 46) hx hb dX4_heading_22 (by decide) (fun c_4 => ?_) (fun c_4 => ?_)
    · refine lv_iconst (v := 0) hx hb dX4_heading_46 (by decide) ?_
      exact J5 0 (by rw [c_4]; first | done | rfl) _ _ hG
    · refine lv_aload_n hx hb dX4_heading_25 rfl (lv_at hl 1 rfl) ?_
      refine lv_iload_n hx hb dX4_heading_26 rfl (lv_at hl 2 rfl) ?_
      refine k_callV (nn := 1) (C := RX4) hC hG 0 rfl (ci := 5) rfl (K_X4_isLeaf l hfl D cI cJ cZ cO z mi hm hM hH hA hP hPa hR hW hMe hV hDo hS mk fH fA fP fPa fR fW fMe fV fDo fS dr cl bx by9 x y ot tw no lim nr ni ret clm la rest q (kPar_in c_4 (by omega) (by decide))) gX4_heading_X4_isLeaf rfl rfl (by decide +kernel) ⟨(Nat.le_of_ble_eq_true rfl), (Nat.le_of_ble_eq_true rfl)⟩ hl.1 rfl (Nat.le_of_ble_eq_true rfl) dX4_heading_27 ⟨(Nat.le_of_ble_eq_true rfl), (Nat.le_of_ble_eq_true rfl)⟩ (fun _ _ _ _ _ _ hp => hp.elim) (fun v9 u9 H locs hp hG => ?_)
      obtain ⟨rfl, rfl⟩ := hp
      refine W.widen (k := 0) (n := 0) (Nat.le_of_ble_eq_true rfl) (Nat.le_of_ble_eq_true rfl) ?_
      refine W.eq (g2 := F0 m 30 ls [.int (kb (kLf fR q)), .int (kb ((decide (q = (-1))) || (kIn q 0 (nI ni - 1)))), .ref hm]) rfl ?_
      refine k_ifB_ne (tgt := 46) hx hb dX4_heading_30 (by decide) (fun c_8 => ?_) (fun c_8 => ?_)
      · refine lv_iconst (v := 0) hx hb dX4_heading_46 (by decide) ?_
        exact J5 0 (by rw [c_4, c_8]; first | done | rfl) _ _ hG
      · refine lv_aload_n hx hb dX4_heading_33 rfl (lv_at hl 1 rfl) ?_
        refine k_get (C := RX4) (T := TX4) (N := 26) (ci := 5) (v := .int (nI ni)) (fs := [.ref hM, .int (kb dr), .int (kb cl), .int bx, .int by9, .int x, .int y, .int ot, .int tw, .ref hH, .int (nI no), .int lim, .ref hA, .int (nI nr), .ref hP, .ref hPa, .ref hR, .ref hW, .ref hMe, .ref hV, .ref hDo, .ref hS, .int (nI ni), .int ret, .long clm, .int la]) hC hG hi_RX4 0 rfl rfl 22 (by decide) (List.mem_of_getElem? (i := 1) rfl) rfl rfl dX4_heading_34 ?_
        refine lv_bipush (v := 30) hx hb dX4_heading_37 (by decide) ?_
        refine k_icmp_ge (tgt := 46) hx hb dX4_heading_39 (by decide) (fun c_9 => ?_) (fun c_9 => ?_)
        · refine lv_iconst (v := 0) hx hb dX4_heading_46 (by decide) ?_
          exact J5 0 (by rw [c_4, c_8, c_9]; first | done | rfl) _ _ hG
        · refine lv_iconst (v := 1) hx hb dX4_heading_42 (by decide) ?_
          refine lv_goto (tgt := 47) hx hb dX4_heading_43 (by decide) ?_
          exact J5 1 (by rw [c_4, c_8, c_9]; first | done | rfl) _ _ hG
  refine k_icmp_eq (tgt := 13) hx hb dX4_heading_2 (by decide) (fun c_1 => ?_) (fun c_1 => ?_)
  · refine lv_iconst (v := 1) hx hb dX4_heading_13 (by decide) ?_
    refine lv_goto (tgt := 18) hx hb dX4_heading_14 (by decide) ?_
    exact J2 1 (by rw [c_1]; first | done | rfl) _ _ hG
  · refine lv_aload_n hx hb dX4_heading_5 rfl (lv_at hl 0 rfl) ?_
    refine lv_iload_n hx hb dX4_heading_6 rfl (lv_at hl 1 rfl) ?_
    refine k_callV (nn := 1) (C := RX4) hC hG 0 rfl (ci := 5) rfl (K_X4_isItem l hfl D cI cJ cZ cO z mi hm hM hH hA hP hPa hR hW hMe hV hDo hS mk fH fA fP fPa fR fW fMe fV fDo fS dr cl bx by9 x y ot tw no lim nr ni ret clm la rest q) gX4_heading_X4_isItem rfl rfl (by decide +kernel) ⟨(Nat.le_of_ble_eq_true rfl), (Nat.le_of_ble_eq_true rfl)⟩ hl.1 rfl (Nat.le_of_ble_eq_true rfl) dX4_heading_7 ⟨(Nat.le_of_ble_eq_true rfl), (Nat.le_of_ble_eq_true rfl)⟩ (fun _ _ _ _ _ _ hp => hp.elim) (fun v9 u9 H locs hp hG => ?_)
    obtain ⟨rfl, rfl⟩ := hp
    refine W.widen (k := 0) (n := 0) (Nat.le_of_ble_eq_true rfl) (Nat.le_of_ble_eq_true rfl) ?_
    refine W.eq (g2 := F0 m 10 ls [.int (kb (kIn q 0 (nI ni - 1)))]) rfl ?_
    refine k_ifB_eq (tgt := 17) hx hb dX4_heading_10 (by decide) (fun c_10 => ?_) (fun c_10 => ?_)
    · refine lv_iconst (v := 0) hx hb dX4_heading_17 (by decide) ?_
      exact J2 0 (by rw [c_1, c_10]; first | done | rfl) _ _ hG
    · refine lv_iconst (v := 1) hx hb dX4_heading_13 (by decide) ?_
      refine lv_goto (tgt := 18) hx hb dX4_heading_14 (by decide) ?_
      exact J2 1 (by rw [c_1, c_10]; first | done | rfl) _ _ hG

set_option maxHeartbeats 4000000 in
set_option maxRecDepth 100000 in
/-- leaf -/
theorem K_X4_leaf (l : Launch) (hfl : l.stackTraces = false) (D : va_G) (cI cJ cZ cO : ClassId) (z mi : Nat) (hm : Nat) (hM : Nat) (hH : Nat) (hA : Nat) (hP : Nat) (hPa : Nat) (hR : Nat) (hW : Nat) (hMe : Nat) (hV : Nat) (hDo : Nat) (hS : Nat) (mk : Nat → Bool) (fH : Nat → Int32) (fA : Nat → Int32) (fP : Nat → Int32) (fPa : Nat → Int32) (fR : Nat → Int32) (fW : Nat → Int32) (fMe : Nat → Int32) (fV : Nat → Int32) (fDo : Nat → Int32) (fS : Nat → Int64) (dr : Bool) (cl : Bool) (bx : Int32) (by9 : Int32) (x : Int32) (y : Int32) (ot : Int32) (tw : Int32) (no : Nat) (lim : Int32) (nr : Nat) (ni : Nat) (ret : Int32) (clm : Int64) (la : Int32) (rest : va_W) (q ra wa : Int32) (hni : ni ≤ 30) : kM l D (kTy cI cJ cZ cO) z mi yX4_leaf wsX4_leaf ({ frames := 2, cells := 0, slots := 0, locals := 43 } : Room) [.ref hm, .int q, .int ra, .int wa] ((hm, .inr (5, [.ref hM, .int (kb dr), .int (kb cl), .int bx, .int by9, .int x, .int y, .int ot, .int tw, .ref hH, .int (nI no), .int lim, .ref hA, .int (nI nr), .ref hP, .ref hPa, .ref hR, .ref hW, .ref hMe, .ref hV, .ref hDo, .ref hS, .int (nI ni), .int ret, .long clm, .int la])) :: (hM, .inl (cZ, 1681, .inl (fun j9 => kb (mk j9)))) :: (hH, .inl (cI, 10, .inl fH)) :: (hA, .inl (cI, 36, .inl fA)) :: (hP, .inl (cI, 3, .inl fP)) :: (hPa, .inl (cI, 30, .inl fPa)) :: (hR, .inl (cI, 30, .inl fR)) :: (hW, .inl (cI, 30, .inl fW)) :: (hMe, .inl (cI, 30, .inl fMe)) :: (hV, .inl (cI, 30, .inl fV)) :: (hDo, .inl (cI, 30, .inl fDo)) :: (hS, .inl (cJ, 30, .inr (.inl fS))) :: rest) (fun v u => v = some (.int (bif ((bif decide (q = (-1)) then kIn ra 0 (nI nr - 1) else (kIn q 0 (nI ni - 1)) && (kIn ra 0 (nI nr - 1))) && ((!(kLf fR q)) && (!(decide (30 ≤ (nI ni)))))) && ((kIn wa 0 50) && (bif decide (q = (-1)) then kIn ra 0 (nI nr - 1) else (kIn q 0 (nI ni - 1)) && (kIn ra 0 (nI nr - 1)))) then nI ni else 0)) ∧ u = (hm, .inr (5, [.ref hM, .int (kb dr), .int (kb cl), .int bx, .int by9, .int x, .int y, .int ot, .int tw, .ref hH, .int (nI no), .int lim, .ref hA, .int (nI nr), .ref hP, .ref hPa, .ref hR, .ref hW, .ref hMe, .ref hV, .ref hDo, .ref hS, .int (nI (bif ((bif decide (q = (-1)) then kIn ra 0 (nI nr - 1) else (kIn q 0 (nI ni - 1)) && (kIn ra 0 (nI nr - 1))) && ((!(kLf fR q)) && (!(decide (30 ≤ (nI ni)))))) && ((kIn wa 0 50) && (bif decide (q = (-1)) then kIn ra 0 (nI nr - 1) else (kIn q 0 (nI ni - 1)) && (kIn ra 0 (nI nr - 1)))) then ni + 1 else ni)), .int ret, .long clm, .int (kGo (bif decide (q = (-1)) then kIn ra 0 (nI nr - 1) else (kIn q 0 (nI ni - 1)) && (kIn ra 0 (nI nr - 1))) (kIn wa 0 50) ((bif decide (q = (-1)) then kIn ra 0 (nI nr - 1) else (kIn q 0 (nI ni - 1)) && (kIn ra 0 (nI nr - 1))) && ((!(kLf fR q)) && (!(decide (30 ≤ (nI ni)))))))])) :: (hM, .inl (cZ, 1681, .inl (fun j9 => kb (mk j9)))) :: (hH, .inl (cI, 10, .inl fH)) :: (hA, .inl (cI, 36, .inl fA)) :: (hP, .inl (cI, 3, .inl fP)) :: (hPa, .inl (cI, 30, .inl (bif ((bif decide (q = (-1)) then kIn ra 0 (nI nr - 1) else (kIn q 0 (nI ni - 1)) && (kIn ra 0 (nI nr - 1))) && ((!(kLf fR q)) && (!(decide (30 ≤ (nI ni)))))) && ((kIn wa 0 50) && (bif decide (q = (-1)) then kIn ra 0 (nI nr - 1) else (kIn q 0 (nI ni - 1)) && (kIn ra 0 (nI nr - 1)))) then upd fPa ni q else fPa))) :: (hR, .inl (cI, 30, .inl (bif ((bif decide (q = (-1)) then kIn ra 0 (nI nr - 1) else (kIn q 0 (nI ni - 1)) && (kIn ra 0 (nI nr - 1))) && ((!(kLf fR q)) && (!(decide (30 ≤ (nI ni)))))) && ((kIn wa 0 50) && (bif decide (q = (-1)) then kIn ra 0 (nI nr - 1) else (kIn q 0 (nI ni - 1)) && (kIn ra 0 (nI nr - 1)))) then upd fR ni ra else fR))) :: (hW, .inl (cI, 30, .inl (bif ((bif decide (q = (-1)) then kIn ra 0 (nI nr - 1) else (kIn q 0 (nI ni - 1)) && (kIn ra 0 (nI nr - 1))) && ((!(kLf fR q)) && (!(decide (30 ≤ (nI ni)))))) && ((kIn wa 0 50) && (bif decide (q = (-1)) then kIn ra 0 (nI nr - 1) else (kIn q 0 (nI ni - 1)) && (kIn ra 0 (nI nr - 1)))) then upd fW ni wa else fW))) :: (hMe, .inl (cI, 30, .inl fMe)) :: (hV, .inl (cI, 30, .inl fV)) :: (hDo, .inl (cI, 30, .inl fDo)) :: (hS, .inl (cJ, 30, .inr (.inl fS))) :: rest) (fun _ _ => False) := by
  refine kM.of hfl (cc := cX4_leaf) (maxL := 6) (ret := (some .int)) (by decide) rfl (Nat.le_of_ble_eq_true rfl) ?_
  intro p e s m args below meth c A ls hC hr hmn hG hl
  have hx := hC.x
  have hb := hC.b
  have hl : lv_has ls 6 [(0, .ref hm), (1, .int q), (2, .int ra), (3, .int wa)] := hl
  have hi_RX4 : ∀ w ∈ wsX40, w ∈ wsX4_leaf := fun w h => List.mem_cons_of_mem _ (List.mem_append_right _ h)
  refine lv_iload_n hx hb dX4_leaf_0 rfl (lv_at hl 1 rfl) ?_
  refine lv_iconst (v := (-1)) hx hb dX4_leaf_1 (by decide) ?_
  refine k_joinH (D := D) (A := A) (fun v3 : Int32 => F0 m 26 ls (.int v3 :: [])) (fun v3 => v3 = kb (bif decide (q = (-1)) then kIn ra 0 (nI nr - 1) else (kIn q 0 (nI ni - 1)) && (kIn ra 0 (nI nr - 1)))) ((hm, .inr (5, [.ref hM, .int (kb dr), .int (kb cl), .int bx, .int by9, .int x, .int y, .int ot, .int tw, .ref hH, .int (nI no), .int lim, .ref hA, .int (nI nr), .ref hP, .ref hPa, .ref hR, .ref hW, .ref hMe, .ref hV, .ref hDo, .ref hS, .int (nI ni), .int ret, .long clm, .int la])) :: (hM, .inl (cZ, 1681, .inl (fun j9 => kb (mk j9)))) :: (hH, .inl (cI, 10, .inl fH)) :: (hA, .inl (cI, 36, .inl fA)) :: (hP, .inl (cI, 3, .inl fP)) :: (hPa, .inl (cI, 30, .inl fPa)) :: (hR, .inl (cI, 30, .inl fR)) :: (hW, .inl (cI, 30, .inl fW)) :: (hMe, .inl (cI, 30, .inl fMe)) :: (hV, .inl (cI, 30, .inl fV)) :: (hDo, .inl (cI, 30, .inl fDo)) :: (hS, .inl (cJ, 30, .inr (.inl fS))) :: rest) ?_ (fun J2 => ?_)
  · intro v3 ev3 H locs hG
    have ev3 : v3 = kb (bif decide (q = (-1)) then kIn ra 0 (nI nr - 1) else (kIn q 0 (nI ni - 1)) && (kIn ra 0 (nI nr - 1))) := ev3
    subst ev3
    refine lv_istore (lv' := [(4, .int (kb (bif decide (q = (-1)) then kIn ra 0 (nI nr - 1) else (kIn q 0 (nI ni - 1)) && (kIn ra 0 (nI nr - 1))))), (0, .ref hm), (1, .int q), (2, .int ra), (3, .int wa)]) hx hb dX4_leaf_26 hl (by decide) rfl (fun ls hl => ?_)
    refine lv_iload_n hx hb dX4_leaf_28 rfl (lv_at hl 4 rfl) ?_
    refine lv_iconst (v := 0) hx hb dX4_leaf_29 (by decide) ?_
    refine lv_bipush (v := 50) hx hb dX4_leaf_30 (by decide) ?_
    refine k_callS (nn := 3) hC hG (K_X4_in l hfl D cI cJ cZ cO z mi ((hm, .inr (5, [.ref hM, .int (kb dr), .int (kb cl), .int bx, .int by9, .int x, .int y, .int ot, .int tw, .ref hH, .int (nI no), .int lim, .ref hA, .int (nI nr), .ref hP, .ref hPa, .ref hR, .ref hW, .ref hMe, .ref hV, .ref hDo, .ref hS, .int (nI ni), .int ret, .long clm, .int la])) :: (hM, .inl (cZ, 1681, .inl (fun j9 => kb (mk j9)))) :: (hH, .inl (cI, 10, .inl fH)) :: (hA, .inl (cI, 36, .inl fA)) :: (hP, .inl (cI, 3, .inl fP)) :: (hPa, .inl (cI, 30, .inl fPa)) :: (hR, .inl (cI, 30, .inl fR)) :: (hW, .inl (cI, 30, .inl fW)) :: (hMe, .inl (cI, 30, .inl fMe)) :: (hV, .inl (cI, 30, .inl fV)) :: (hDo, .inl (cI, 30, .inl fDo)) :: (hS, .inl (cJ, 30, .inr (.inl fS))) :: rest) wa 0 50) gX4_leaf_X4_in rfl rfl (by decide +kernel) ⟨(Nat.le_of_ble_eq_true rfl), (Nat.le_of_ble_eq_true rfl)⟩ hl.1 rfl (Nat.le_of_ble_eq_true rfl) dX4_leaf_32 ⟨(Nat.le_of_ble_eq_true rfl), (Nat.le_of_ble_eq_true rfl)⟩ (fun _ _ _ _ _ _ hp => hp.elim) (fun v9 u9 H locs hp hG => ?_)
    obtain ⟨rfl, rfl⟩ := hp
    refine W.widen (k := 0) (n := 0) (Nat.le_of_ble_eq_true rfl) (Nat.le_of_ble_eq_true rfl) ?_
    refine W.eq (g2 := F0 m 35 ls [.int (kb (kIn wa 0 50))]) rfl ?_
    refine lv_istore (lv' := [(5, .int (kb (kIn wa 0 50))), (4, .int (kb (bif decide (q = (-1)) then kIn ra 0 (nI nr - 1) else (kIn q 0 (nI ni - 1)) && (kIn ra 0 (nI nr - 1))))), (0, .ref hm), (1, .int q), (2, .int ra), (3, .int wa)]) hx hb dX4_leaf_35 hl (by decide) rfl (fun ls hl => ?_)
    refine lv_aload_n hx hb dX4_leaf_37 rfl (lv_at hl 2 rfl) ?_
    refine lv_iload hx hb dX4_leaf_38 (lv_at hl 1 rfl) ?_
    refine lv_iload hx hb dX4_leaf_40 (lv_at hl 0 rfl) ?_
    refine lv_iload hx hb dX4_leaf_42 (lv_at hl 1 rfl) ?_
    refine k_joinH (D := D) (A := A) (fun v6 : Int32 => F0 m 69 ls (.int v6 :: [.int (kb (kIn wa 0 50)), .int (kb (bif decide (q = (-1)) then kIn ra 0 (nI nr - 1) else (kIn q 0 (nI ni - 1)) && (kIn ra 0 (nI nr - 1)))), .ref hm])) (fun v6 => v6 = kb ((bif decide (q = (-1)) then kIn ra 0 (nI nr - 1) else (kIn q 0 (nI ni - 1)) && (kIn ra 0 (nI nr - 1))) && (!(kLf fR q) && (!(decide (30 ≤ (nI ni))))))) ((hm, .inr (5, [.ref hM, .int (kb dr), .int (kb cl), .int bx, .int by9, .int x, .int y, .int ot, .int tw, .ref hH, .int (nI no), .int lim, .ref hA, .int (nI nr), .ref hP, .ref hPa, .ref hR, .ref hW, .ref hMe, .ref hV, .ref hDo, .ref hS, .int (nI ni), .int ret, .long clm, .int la])) :: (hM, .inl (cZ, 1681, .inl (fun j9 => kb (mk j9)))) :: (hH, .inl (cI, 10, .inl fH)) :: (hA, .inl (cI, 36, .inl fA)) :: (hP, .inl (cI, 3, .inl fP)) :: (hPa, .inl (cI, 30, .inl fPa)) :: (hR, .inl (cI, 30, .inl fR)) :: (hW, .inl (cI, 30, .inl fW)) :: (hMe, .inl (cI, 30, .inl fMe)) :: (hV, .inl (cI, 30, .inl fV)) :: (hDo, .inl (cI, 30, .inl fDo)) :: (hS, .inl (cJ, 30, .inr (.inl fS))) :: rest) ?_ (fun J5 => ?_)
    · intro v6 ev6 H locs hG
      have ev6 : v6 = kb ((bif decide (q = (-1)) then kIn ra 0 (nI nr - 1) else (kIn q 0 (nI ni - 1)) && (kIn ra 0 (nI nr - 1))) && (!(kLf fR q) && (!(decide (30 ≤ (nI ni)))))) := ev6
      subst ev6
      refine k_callV (nn := 3) (C := RX4) hC hG 0 rfl (ci := 5) rfl (K_X4_goes l hfl D cI cJ cZ cO z mi hm hM hH hA hP hPa hR hW hMe hV hDo hS mk fH fA fP fPa fR fW fMe fV fDo fS dr cl bx by9 x y ot tw no lim nr ni ret clm la rest (bif decide (q = (-1)) then kIn ra 0 (nI nr - 1) else (kIn q 0 (nI ni - 1)) && (kIn ra 0 (nI nr - 1))) (kIn wa 0 50) ((bif decide (q = (-1)) then kIn ra 0 (nI nr - 1) else (kIn q 0 (nI ni - 1)) && (kIn ra 0 (nI nr - 1))) && (!(kLf fR q) && (!(decide (30 ≤ (nI ni))))))) gX4_leaf_X4_goes rfl rfl (by decide +kernel) ⟨(Nat.le_of_ble_eq_true rfl), (Nat.le_of_ble_eq_true rfl)⟩ hl.1 rfl (Nat.le_of_ble_eq_true rfl) dX4_leaf_69 ⟨(Nat.le_of_ble_eq_true rfl), (Nat.le_of_ble_eq_true rfl)⟩ (fun _ _ _ _ _ _ hp => hp.elim) (fun v9 u9 H locs hp hG => ?_)
      obtain ⟨rfl, rfl⟩ := hp
      have hG : kG D A s ((hm, .inr (5, [.ref hM, .int (kb dr), .int (kb cl), .int bx, .int by9, .int x, .int y, .int ot, .int tw, .ref hH, .int (nI no), .int lim, .ref hA, .int (nI nr), .ref hP, .ref hPa, .ref hR, .ref hW, .ref hMe, .ref hV, .ref hDo, .ref hS, .int (nI ni), .int ret, .long clm, .int (kGo (bif decide (q = (-1)) then kIn ra 0 (nI nr - 1) else (kIn q 0 (nI ni - 1)) && (kIn ra 0 (nI nr - 1))) (kIn wa 0 50) ((bif decide (q = (-1)) then kIn ra 0 (nI nr - 1) else (kIn q 0 (nI ni - 1)) && (kIn ra 0 (nI nr - 1))) && (!(kLf fR q) && (!(decide (30 ≤ (nI ni)))))))])) :: (hM, .inl (cZ, 1681, .inl (fun j9 => kb (mk j9)))) :: (hH, .inl (cI, 10, .inl fH)) :: (hA, .inl (cI, 36, .inl fA)) :: (hP, .inl (cI, 3, .inl fP)) :: (hPa, .inl (cI, 30, .inl fPa)) :: (hR, .inl (cI, 30, .inl fR)) :: (hW, .inl (cI, 30, .inl fW)) :: (hMe, .inl (cI, 30, .inl fMe)) :: (hV, .inl (cI, 30, .inl fV)) :: (hDo, .inl (cI, 30, .inl fDo)) :: (hS, .inl (cJ, 30, .inr (.inl fS))) :: rest) H locs := hG
      refine W.widen (k := 0) (n := 0) (Nat.le_of_ble_eq_true rfl) (Nat.le_of_ble_eq_true rfl) ?_
      refine W.eq (g2 := F0 m 72 ls [.int (kb (((bif decide (q = (-1)) then kIn ra 0 (nI nr - 1) else (kIn q 0 (nI ni - 1)) && (kIn ra 0 (nI nr - 1))) && (!(kLf fR q) && (!(decide (30 ≤ (nI ni)))))) && ((kIn wa 0 50) && (bif decide (q = (-1)) then kIn ra 0 (nI nr - 1) else (kIn q 0 (nI ni - 1)) && (kIn ra 0 (nI nr - 1))))))]) rfl ?_
      refine k_ifB_eq (tgt := 85) hx hb dX4_leaf_72 (by decide) (fun c_7 => ?_) (fun c_7 => ?_)
      · refine lv_iconst (v := 0) hx hb dX4_leaf_85 (by decide) ?_
        exact k_reti hC hr hG ⟨by rw [c_7]; first | done | rfl, by rw [c_7]; first | done | rfl⟩ (Nat.le_of_ble_eq_true rfl) (Nat.le_of_ble_eq_true rfl) dX4_leaf_86
      · refine lv_aload_n hx hb dX4_leaf_75 rfl (lv_at hl 2 rfl) ?_
        refine lv_iload_n hx hb dX4_leaf_76 rfl (lv_at hl 3 rfl) ?_
        refine lv_iload_n hx hb dX4_leaf_77 rfl (lv_at hl 4 rfl) ?_
        refine lv_iload_n hx hb dX4_leaf_78 rfl (lv_at hl 5 rfl) ?_
        refine k_callV (nn := 3) (C := RX4) hC hG 0 rfl (ci := 5) rfl (K_X4_adds l hfl D cI cJ cZ cO z mi hm hM hH hA hP hPa hR hW hMe hV hDo hS mk fH fA fP fPa fR fW fMe fV fDo fS dr cl bx by9 x y ot tw no lim nr ni ret clm (kGo (bif decide (q = (-1)) then kIn ra 0 (nI nr - 1) else (kIn q 0 (nI ni - 1)) && (kIn ra 0 (nI nr - 1))) (kIn wa 0 50) ((bif decide (q = (-1)) then kIn ra 0 (nI nr - 1) else (kIn q 0 (nI ni - 1)) && (kIn ra 0 (nI nr - 1))) && (!(kLf fR q) && (!(decide (30 ≤ (nI ni))))))) rest q ra wa (kLt 30 rfl (by decide) (by omega) (k_notf (k_andr (k_andr (k_andl c_7)))))) gX4_leaf_X4_adds rfl rfl (by decide +kernel) ⟨(Nat.le_of_ble_eq_true rfl), (Nat.le_of_ble_eq_true rfl)⟩ hl.1 rfl (Nat.le_of_ble_eq_true rfl) dX4_leaf_79 ⟨(Nat.le_of_ble_eq_true rfl), (Nat.le_of_ble_eq_true rfl)⟩ (fun _ _ _ _ _ _ hp => hp.elim) (fun v9 u9 H locs hp hG => ?_)
        obtain ⟨rfl, rfl⟩ := hp
        have hG : kG D A s ((hm, .inr (5, [.ref hM, .int (kb dr), .int (kb cl), .int bx, .int by9, .int x, .int y, .int ot, .int tw, .ref hH, .int (nI no), .int lim, .ref hA, .int (nI nr), .ref hP, .ref hPa, .ref hR, .ref hW, .ref hMe, .ref hV, .ref hDo, .ref hS, .int (nI (ni + 1)), .int ret, .long clm, .int (kGo (bif decide (q = (-1)) then kIn ra 0 (nI nr - 1) else (kIn q 0 (nI ni - 1)) && (kIn ra 0 (nI nr - 1))) (kIn wa 0 50) ((bif decide (q = (-1)) then kIn ra 0 (nI nr - 1) else (kIn q 0 (nI ni - 1)) && (kIn ra 0 (nI nr - 1))) && (!(kLf fR q) && (!(decide (30 ≤ (nI ni)))))))])) :: (hM, .inl (cZ, 1681, .inl (fun j9 => kb (mk j9)))) :: (hH, .inl (cI, 10, .inl fH)) :: (hA, .inl (cI, 36, .inl fA)) :: (hP, .inl (cI, 3, .inl fP)) :: (hPa, .inl (cI, 30, .inl (upd fPa ni q))) :: (hR, .inl (cI, 30, .inl (upd fR ni ra))) :: (hW, .inl (cI, 30, .inl (upd fW ni wa))) :: (hMe, .inl (cI, 30, .inl fMe)) :: (hV, .inl (cI, 30, .inl fV)) :: (hDo, .inl (cI, 30, .inl fDo)) :: (hS, .inl (cJ, 30, .inr (.inl fS))) :: rest) H locs := hG
        refine W.widen (k := 0) (n := 0) (Nat.le_of_ble_eq_true rfl) (Nat.le_of_ble_eq_true rfl) ?_
        refine W.eq (g2 := F0 m 82 ls [.int (nI ni)]) rfl ?_
        refine lv_goto (tgt := 86) hx hb dX4_leaf_82 (by decide) ?_
        exact k_reti hC hr hG ⟨by rw [c_7]; first | done | rfl, by rw [c_7]; first | done | rfl⟩ (Nat.le_of_ble_eq_true rfl) (Nat.le_of_ble_eq_true rfl) dX4_leaf_86
    refine k_ifB_eq (tgt := 68) hx hb dX4_leaf_44 (by decide) (fun c_4 => ?_) (fun c_4 => ?_)
    · refine lv_iconst (v := 0) hx hb dX4_leaf_68 (by decide) ?_
      exact J5 0 (by rw [c_4]; first | done | rfl) _ _ hG
    · refine lv_aload_n hx hb dX4_leaf_47 rfl (lv_at hl 2 rfl) ?_
      refine lv_iload_n hx hb dX4_leaf_48 rfl (lv_at hl 3 rfl) ?_
      refine k_callV (nn := 1) (C := RX4) hC hG 0 rfl (ci := 5) rfl (K_X4_isLeaf l hfl D cI cJ cZ cO z mi hm hM hH hA hP hPa hR hW hMe hV hDo hS mk fH fA fP fPa fR fW fMe fV fDo fS dr cl bx by9 x y ot tw no lim nr ni ret clm la rest q (kPar_in (k_bifor c_4) (by omega) (by decide))) gX4_leaf_X4_isLeaf rfl rfl (by decide +kernel) ⟨(Nat.le_of_ble_eq_true rfl), (Nat.le_of_ble_eq_true rfl)⟩ hl.1 rfl (Nat.le_of_ble_eq_true rfl) dX4_leaf_49 ⟨(Nat.le_of_ble_eq_true rfl), (Nat.le_of_ble_eq_true rfl)⟩ (fun _ _ _ _ _ _ hp => hp.elim) (fun v9 u9 H locs hp hG => ?_)
      obtain ⟨rfl, rfl⟩ := hp
      refine W.widen (k := 0) (n := 0) (Nat.le_of_ble_eq_true rfl) (Nat.le_of_ble_eq_true rfl) ?_
      refine W.eq (g2 := F0 m 52 ls [.int (kb (kLf fR q)), .int (kb (kIn wa 0 50)), .int (kb (bif decide (q = (-1)) then kIn ra 0 (nI nr - 1) else (kIn q 0 (nI ni - 1)) && (kIn ra 0 (nI nr - 1)))), .ref hm]) rfl ?_
      refine k_ifB_ne (tgt := 68) hx hb dX4_leaf_52 (by decide) (fun c_8 => ?_) (fun c_8 => ?_)
      · refine lv_iconst (v := 0) hx hb dX4_leaf_68 (by decide) ?_
        exact J5 0 (by rw [c_4, c_8]; first | done | rfl) _ _ hG
      · refine lv_aload_n hx hb dX4_leaf_55 rfl (lv_at hl 2 rfl) ?_
        refine k_get (C := RX4) (T := TX4) (N := 26) (ci := 5) (v := .int (nI ni)) (fs := [.ref hM, .int (kb dr), .int (kb cl), .int bx, .int by9, .int x, .int y, .int ot, .int tw, .ref hH, .int (nI no), .int lim, .ref hA, .int (nI nr), .ref hP, .ref hPa, .ref hR, .ref hW, .ref hMe, .ref hV, .ref hDo, .ref hS, .int (nI ni), .int ret, .long clm, .int la]) hC hG hi_RX4 0 rfl rfl 22 (by decide) (List.mem_of_getElem? (i := 1) rfl) rfl rfl dX4_leaf_56 ?_
        refine lv_bipush (v := 30) hx hb dX4_leaf_59 (by decide) ?_
        refine k_icmp_ge (tgt := 68) hx hb dX4_leaf_61 (by decide) (fun c_9 => ?_) (fun c_9 => ?_)
        · refine lv_iconst (v := 0) hx hb dX4_leaf_68 (by decide) ?_
          exact J5 0 (by rw [c_4, c_8, c_9]; first | done | rfl) _ _ hG
        · refine lv_iconst (v := 1) hx hb dX4_leaf_64 (by decide) ?_
          refine lv_goto (tgt := 69) hx hb dX4_leaf_65 (by decide) ?_
          exact J5 1 (by rw [c_4, c_8, c_9]; first | done | rfl) _ _ hG
  refine k_icmp_eq (tgt := 13) hx hb dX4_leaf_2 (by decide) (fun c_1 => ?_) (fun c_1 => ?_)
  · refine lv_aload_n hx hb dX4_leaf_13 rfl (lv_at hl 0 rfl) ?_
    refine lv_iload_n hx hb dX4_leaf_14 rfl (lv_at hl 2 rfl) ?_
    refine k_callV (nn := 1) (C := RX4) hC hG 0 rfl (ci := 5) rfl (K_X4_isRate l hfl D cI cJ cZ cO z mi hm hM hH hA hP hPa hR hW hMe hV hDo hS mk fH fA fP fPa fR fW fMe fV fDo fS dr cl bx by9 x y ot tw no lim nr ni ret clm la rest ra) gX4_leaf_X4_isRate rfl rfl (by decide +kernel) ⟨(Nat.le_of_ble_eq_true rfl), (Nat.le_of_ble_eq_true rfl)⟩ hl.1 rfl (Nat.le_of_ble_eq_true rfl) dX4_leaf_15 ⟨(Nat.le_of_ble_eq_true rfl), (Nat.le_of_ble_eq_true rfl)⟩ (fun _ _ _ _ _ _ hp => hp.elim) (fun v9 u9 H locs hp hG => ?_)
    obtain ⟨rfl, rfl⟩ := hp
    refine W.widen (k := 0) (n := 0) (Nat.le_of_ble_eq_true rfl) (Nat.le_of_ble_eq_true rfl) ?_
    refine W.eq (g2 := F0 m 18 ls [.int (kb (kIn ra 0 (nI nr - 1)))]) rfl ?_
    refine k_ifB_eq (tgt := 25) hx hb dX4_leaf_18 (by decide) (fun c_10 => ?_) (fun c_10 => ?_)
    · refine lv_iconst (v := 0) hx hb dX4_leaf_25 (by decide) ?_
      exact J2 0 (by rw [c_1, c_10]; first | done | rfl) _ _ hG
    · refine lv_iconst (v := 1) hx hb dX4_leaf_21 (by decide) ?_
      refine lv_goto (tgt := 26) hx hb dX4_leaf_22 (by decide) ?_
      exact J2 1 (by rw [c_1, c_10]; first | done | rfl) _ _ hG
  · refine lv_aload_n hx hb dX4_leaf_5 rfl (lv_at hl 0 rfl) ?_
    refine lv_iload_n hx hb dX4_leaf_6 rfl (lv_at hl 1 rfl) ?_
    refine k_callV (nn := 1) (C := RX4) hC hG 0 rfl (ci := 5) rfl (K_X4_isItem l hfl D cI cJ cZ cO z mi hm hM hH hA hP hPa hR hW hMe hV hDo hS mk fH fA fP fPa fR fW fMe fV fDo fS dr cl bx by9 x y ot tw no lim nr ni ret clm la rest q) gX4_leaf_X4_isItem rfl rfl (by decide +kernel) ⟨(Nat.le_of_ble_eq_true rfl), (Nat.le_of_ble_eq_true rfl)⟩ hl.1 rfl (Nat.le_of_ble_eq_true rfl) dX4_leaf_7 ⟨(Nat.le_of_ble_eq_true rfl), (Nat.le_of_ble_eq_true rfl)⟩ (fun _ _ _ _ _ _ hp => hp.elim) (fun v9 u9 H locs hp hG => ?_)
    obtain ⟨rfl, rfl⟩ := hp
    refine W.widen (k := 0) (n := 0) (Nat.le_of_ble_eq_true rfl) (Nat.le_of_ble_eq_true rfl) ?_
    refine W.eq (g2 := F0 m 10 ls [.int (kb (kIn q 0 (nI ni - 1)))]) rfl ?_
    refine k_ifB_eq (tgt := 25) hx hb dX4_leaf_10 (by decide) (fun c_11 => ?_) (fun c_11 => ?_)
    · refine lv_iconst (v := 0) hx hb dX4_leaf_25 (by decide) ?_
      exact J2 0 (by rw [c_1, c_11]; first | done | rfl) _ _ hG
    · refine lv_aload_n hx hb dX4_leaf_13 rfl (lv_at hl 0 rfl) ?_
      refine lv_iload_n hx hb dX4_leaf_14 rfl (lv_at hl 2 rfl) ?_
      refine k_callV (nn := 1) (C := RX4) hC hG 0 rfl (ci := 5) rfl (K_X4_isRate l hfl D cI cJ cZ cO z mi hm hM hH hA hP hPa hR hW hMe hV hDo hS mk fH fA fP fPa fR fW fMe fV fDo fS dr cl bx by9 x y ot tw no lim nr ni ret clm la rest ra) gX4_leaf_X4_isRate rfl rfl (by decide +kernel) ⟨(Nat.le_of_ble_eq_true rfl), (Nat.le_of_ble_eq_true rfl)⟩ hl.1 rfl (Nat.le_of_ble_eq_true rfl) dX4_leaf_15 ⟨(Nat.le_of_ble_eq_true rfl), (Nat.le_of_ble_eq_true rfl)⟩ (fun _ _ _ _ _ _ hp => hp.elim) (fun v9 u9 H locs hp hG => ?_)
      obtain ⟨rfl, rfl⟩ := hp
      refine W.widen (k := 0) (n := 0) (Nat.le_of_ble_eq_true rfl) (Nat.le_of_ble_eq_true rfl) ?_
      refine W.eq (g2 := F0 m 18 ls [.int (kb (kIn ra 0 (nI nr - 1)))]) rfl ?_
      refine k_ifB_eq (tgt := 25) hx hb dX4_leaf_18 (by decide) (fun c_12 => ?_) (fun c_12 => ?_)
      · refine lv_iconst (v := 0) hx hb dX4_leaf_25 (by decide) ?_
        exact J2 0 (by rw [c_1, c_11, c_12]; first | done | rfl) _ _ hG
      · refine lv_iconst (v := 1) hx hb dX4_leaf_21 (by decide) ?_
        refine lv_goto (tgt := 26) hx hb dX4_leaf_22 (by decide) ?_
        exact J2 1 (by rw [c_1, c_11, c_12]; first | done | rfl) _ _ hG

set_option maxHeartbeats 4000000 in
set_option maxRecDepth 100000 in
/-- vary -/
theorem K_X4_vary (l : Launch) (hfl : l.stackTraces = false) (D : va_G) (cI cJ cZ cO : ClassId) (z mi : Nat) (hm : Nat) (hM : Nat) (hH : Nat) (hA : Nat) (hP : Nat) (hPa : Nat) (hR : Nat) (hW : Nat) (hMe : Nat) (hV : Nat) (hDo : Nat) (hS : Nat) (mk : Nat → Bool) (fH : Nat → Int32) (fA : Nat → Int32) (fP : Nat → Int32) (fPa : Nat → Int32) (fR : Nat → Int32) (fW : Nat → Int32) (fMe : Nat → Int32) (fV : Nat → Int32) (fDo : Nat → Int32) (fS : Nat → Int64) (dr : Bool) (cl : Bool) (bx : Int32) (by9 : Int32) (x : Int32) (y : Int32) (ot : Int32) (tw : Int32) (no : Nat) (lim : Int32) (nr : Nat) (ni : Nat) (ret : Int32) (clm : Int64) (la : Int32) (rest : va_W) (q dq : Int32) (hni : ni ≤ 30) : kM l D (kTy cI cJ cZ cO) z mi yX4_vary wsX4_vary ({ frames := 2, cells := 0, slots := 0, locals := 43 } : Room) [.ref hm, .int q, .int dq] ((hm, .inr (5, [.ref hM, .int (kb dr), .int (kb cl), .int bx, .int by9, .int x, .int y, .int ot, .int tw, .ref hH, .int (nI no), .int lim, .ref hA, .int (nI nr), .ref hP, .ref hPa, .ref hR, .ref hW, .ref hMe, .ref hV, .ref hDo, .ref hS, .int (nI ni), .int ret, .long clm, .int la])) :: (hM, .inl (cZ, 1681, .inl (fun j9 => kb (mk j9)))) :: (hH, .inl (cI, 10, .inl fH)) :: (hA, .inl (cI, 36, .inl fA)) :: (hP, .inl (cI, 3, .inl fP)) :: (hPa, .inl (cI, 30, .inl fPa)) :: (hR, .inl (cI, 30, .inl fR)) :: (hW, .inl (cI, 30, .inl fW)) :: (hMe, .inl (cI, 30, .inl fMe)) :: (hV, .inl (cI, 30, .inl fV)) :: (hDo, .inl (cI, 30, .inl fDo)) :: (hS, .inl (cJ, 30, .inr (.inl fS))) :: rest) (fun v u => v = some (.int (bif ((kIn q 0 (nI ni - 1)) && ((kIn dq (-5000) 5000) && ((!(decide ((fR q.toNatClampNeg) = (-1)))) && (kIn ((fV q.toNatClampNeg) + dq) (-20000) 20000)))) && ((kIn dq (-5000) 5000) && (kIn q 0 (nI ni - 1))) then (fV q.toNatClampNeg) + dq else 0)) ∧ u = (hm, .inr (5, [.ref hM, .int (kb dr), .int (kb cl), .int bx, .int by9, .int x, .int y, .int ot, .int tw, .ref hH, .int (nI no), .int lim, .ref hA, .int (nI nr), .ref hP, .ref hPa, .ref hR, .ref hW, .ref hMe, .ref hV, .ref hDo, .ref hS, .int (nI ni), .int ret, .long clm, .int (kGo (kIn q 0 (nI ni - 1)) (kIn dq (-5000) 5000) ((kIn q 0 (nI ni - 1)) && ((kIn dq (-5000) 5000) && ((!(decide ((fR q.toNatClampNeg) = (-1)))) && (kIn ((fV q.toNatClampNeg) + dq) (-20000) 20000)))))])) :: (hM, .inl (cZ, 1681, .inl (fun j9 => kb (mk j9)))) :: (hH, .inl (cI, 10, .inl fH)) :: (hA, .inl (cI, 36, .inl fA)) :: (hP, .inl (cI, 3, .inl fP)) :: (hPa, .inl (cI, 30, .inl fPa)) :: (hR, .inl (cI, 30, .inl fR)) :: (hW, .inl (cI, 30, .inl fW)) :: (hMe, .inl (cI, 30, .inl fMe)) :: (hV, .inl (cI, 30, .inl (bif ((kIn q 0 (nI ni - 1)) && ((kIn dq (-5000) 5000) && ((!(decide ((fR q.toNatClampNeg) = (-1)))) && (kIn ((fV q.toNatClampNeg) + dq) (-20000) 20000)))) && ((kIn dq (-5000) 5000) && (kIn q 0 (nI ni - 1))) then upd fV q.toNatClampNeg ((fV q.toNatClampNeg) + dq) else fV))) :: (hDo, .inl (cI, 30, .inl fDo)) :: (hS, .inl (cJ, 30, .inr (.inl fS))) :: rest) (fun _ _ => False) := by
  refine kM.of hfl (cc := cX4_vary) (maxL := 5) (ret := (some .int)) (by decide) rfl (Nat.le_of_ble_eq_true rfl) ?_
  intro p e s m args below meth c A ls hC hr hmn hG hl
  have hx := hC.x
  have hb := hC.b
  have hl : lv_has ls 5 [(0, .ref hm), (1, .int q), (2, .int dq)] := hl
  have hi_RX4 : ∀ w ∈ wsX40, w ∈ wsX4_vary := fun w h => List.mem_cons_of_mem _ (List.mem_append_right _ h)
  refine lv_aload_n hx hb dX4_vary_0 rfl (lv_at hl 0 rfl) ?_
  refine lv_iload_n hx hb dX4_vary_1 rfl (lv_at hl 1 rfl) ?_
  refine k_callV (nn := 1) (C := RX4) hC hG 0 rfl (ci := 5) rfl (K_X4_isItem l hfl D cI cJ cZ cO z mi hm hM hH hA hP hPa hR hW hMe hV hDo hS mk fH fA fP fPa fR fW fMe fV fDo fS dr cl bx by9 x y ot tw no lim nr ni ret clm la rest q) gX4_vary_X4_isItem rfl rfl (by decide +kernel) ⟨(Nat.le_of_ble_eq_true rfl), (Nat.le_of_ble_eq_true rfl)⟩ hl.1 rfl (Nat.le_of_ble_eq_true rfl) dX4_vary_2 ⟨(Nat.le_of_ble_eq_true rfl), (Nat.le_of_ble_eq_true rfl)⟩ (fun _ _ _ _ _ _ hp => hp.elim) (fun v9 u9 H locs hp hG => ?_)
  obtain ⟨rfl, rfl⟩ := hp
  refine W.widen (k := 0) (n := 0) (Nat.le_of_ble_eq_true rfl) (Nat.le_of_ble_eq_true rfl) ?_
  refine W.eq (g2 := F0 m 5 ls [.int (kb (kIn q 0 (nI ni - 1)))]) rfl ?_
  refine lv_istore_n (lv' := [(3, .int (kb (kIn q 0 (nI ni - 1)))), (0, .ref hm), (1, .int q), (2, .int dq)]) hx hb dX4_vary_5 rfl hl (by decide) rfl (fun ls hl => ?_)
  refine lv_iload_n hx hb dX4_vary_6 rfl (lv_at hl 3 rfl) ?_
  refine lv_sipush (v := (-5000)) hx hb dX4_vary_7 (by decide) ?_
  refine lv_sipush (v := 5000) hx hb dX4_vary_10 (by decide) ?_
  refine k_callS (nn := 3) hC hG (K_X4_in l hfl D cI cJ cZ cO z mi ((hm, .inr (5, [.ref hM, .int (kb dr), .int (kb cl), .int bx, .int by9, .int x, .int y, .int ot, .int tw, .ref hH, .int (nI no), .int lim, .ref hA, .int (nI nr), .ref hP, .ref hPa, .ref hR, .ref hW, .ref hMe, .ref hV, .ref hDo, .ref hS, .int (nI ni), .int ret, .long clm, .int la])) :: (hM, .inl (cZ, 1681, .inl (fun j9 => kb (mk j9)))) :: (hH, .inl (cI, 10, .inl fH)) :: (hA, .inl (cI, 36, .inl fA)) :: (hP, .inl (cI, 3, .inl fP)) :: (hPa, .inl (cI, 30, .inl fPa)) :: (hR, .inl (cI, 30, .inl fR)) :: (hW, .inl (cI, 30, .inl fW)) :: (hMe, .inl (cI, 30, .inl fMe)) :: (hV, .inl (cI, 30, .inl fV)) :: (hDo, .inl (cI, 30, .inl fDo)) :: (hS, .inl (cJ, 30, .inr (.inl fS))) :: rest) dq (-5000) 5000) gX4_vary_X4_in rfl rfl (by decide +kernel) ⟨(Nat.le_of_ble_eq_true rfl), (Nat.le_of_ble_eq_true rfl)⟩ hl.1 rfl (Nat.le_of_ble_eq_true rfl) dX4_vary_13 ⟨(Nat.le_of_ble_eq_true rfl), (Nat.le_of_ble_eq_true rfl)⟩ (fun _ _ _ _ _ _ hp => hp.elim) (fun v9 u9 H locs hp hG => ?_)
  obtain ⟨rfl, rfl⟩ := hp
  refine W.widen (k := 0) (n := 0) (Nat.le_of_ble_eq_true rfl) (Nat.le_of_ble_eq_true rfl) ?_
  refine W.eq (g2 := F0 m 16 ls [.int (kb (kIn dq (-5000) 5000))]) rfl ?_
  refine lv_istore (lv' := [(4, .int (kb (kIn dq (-5000) 5000))), (3, .int (kb (kIn q 0 (nI ni - 1)))), (0, .ref hm), (1, .int q), (2, .int dq)]) hx hb dX4_vary_16 hl (by decide) rfl (fun ls hl => ?_)
  refine lv_aload_n hx hb dX4_vary_18 rfl (lv_at hl 2 rfl) ?_
  refine lv_iload_n hx hb dX4_vary_19 rfl (lv_at hl 1 rfl) ?_
  refine lv_iload hx hb dX4_vary_20 (lv_at hl 0 rfl) ?_
  refine lv_iload_n hx hb dX4_vary_22 rfl (lv_at hl 1 rfl) ?_
  refine k_joinH (D := D) (A := A) (fun v3 : Int32 => F0 m 64 ls (.int v3 :: [.int (kb (kIn dq (-5000) 5000)), .int (kb (kIn q 0 (nI ni - 1))), .ref hm])) (fun v3 => v3 = kb ((kIn q 0 (nI ni - 1)) && ((kIn dq (-5000) 5000) && (!(decide (fR q.toNatClampNeg = (-1))) && (kIn ((fV q.toNatClampNeg) + dq) (-20000) 20000))))) ((hm, .inr (5, [.ref hM, .int (kb dr), .int (kb cl), .int bx, .int by9, .int x, .int y, .int ot, .int tw, .ref hH, .int (nI no), .int lim, .ref hA, .int (nI nr), .ref hP, .ref hPa, .ref hR, .ref hW, .ref hMe, .ref hV, .ref hDo, .ref hS, .int (nI ni), .int ret, .long clm, .int la])) :: (hM, .inl (cZ, 1681, .inl (fun j9 => kb (mk j9)))) :: (hH, .inl (cI, 10, .inl fH)) :: (hA, .inl (cI, 36, .inl fA)) :: (hP, .inl (cI, 3, .inl fP)) :: (hPa, .inl (cI, 30, .inl fPa)) :: (hR, .inl (cI, 30, .inl fR)) :: (hW, .inl (cI, 30, .inl fW)) :: (hMe, .inl (cI, 30, .inl fMe)) :: (hV, .inl (cI, 30, .inl fV)) :: (hDo, .inl (cI, 30, .inl fDo)) :: (hS, .inl (cJ, 30, .inr (.inl fS))) :: rest) ?_ (fun J2 => ?_)
  · intro v3 ev3 H locs hG
    have ev3 : v3 = kb ((kIn q 0 (nI ni - 1)) && ((kIn dq (-5000) 5000) && (!(decide (fR q.toNatClampNeg = (-1))) && (kIn ((fV q.toNatClampNeg) + dq) (-20000) 20000)))) := ev3
    subst ev3
    refine k_callV (nn := 3) (C := RX4) hC hG 0 rfl (ci := 5) rfl (K_X4_goes l hfl D cI cJ cZ cO z mi hm hM hH hA hP hPa hR hW hMe hV hDo hS mk fH fA fP fPa fR fW fMe fV fDo fS dr cl bx by9 x y ot tw no lim nr ni ret clm la rest (kIn q 0 (nI ni - 1)) (kIn dq (-5000) 5000) ((kIn q 0 (nI ni - 1)) && ((kIn dq (-5000) 5000) && (!(decide (fR q.toNatClampNeg = (-1))) && (kIn ((fV q.toNatClampNeg) + dq) (-20000) 20000))))) gX4_vary_X4_goes rfl rfl (by decide +kernel) ⟨(Nat.le_of_ble_eq_true rfl), (Nat.le_of_ble_eq_true rfl)⟩ hl.1 rfl (Nat.le_of_ble_eq_true rfl) dX4_vary_64 ⟨(Nat.le_of_ble_eq_true rfl), (Nat.le_of_ble_eq_true rfl)⟩ (fun _ _ _ _ _ _ hp => hp.elim) (fun v9 u9 H locs hp hG => ?_)
    obtain ⟨rfl, rfl⟩ := hp
    have hG : kG D A s ((hm, .inr (5, [.ref hM, .int (kb dr), .int (kb cl), .int bx, .int by9, .int x, .int y, .int ot, .int tw, .ref hH, .int (nI no), .int lim, .ref hA, .int (nI nr), .ref hP, .ref hPa, .ref hR, .ref hW, .ref hMe, .ref hV, .ref hDo, .ref hS, .int (nI ni), .int ret, .long clm, .int (kGo (kIn q 0 (nI ni - 1)) (kIn dq (-5000) 5000) ((kIn q 0 (nI ni - 1)) && ((kIn dq (-5000) 5000) && (!(decide (fR q.toNatClampNeg = (-1))) && (kIn ((fV q.toNatClampNeg) + dq) (-20000) 20000)))))])) :: (hM, .inl (cZ, 1681, .inl (fun j9 => kb (mk j9)))) :: (hH, .inl (cI, 10, .inl fH)) :: (hA, .inl (cI, 36, .inl fA)) :: (hP, .inl (cI, 3, .inl fP)) :: (hPa, .inl (cI, 30, .inl fPa)) :: (hR, .inl (cI, 30, .inl fR)) :: (hW, .inl (cI, 30, .inl fW)) :: (hMe, .inl (cI, 30, .inl fMe)) :: (hV, .inl (cI, 30, .inl fV)) :: (hDo, .inl (cI, 30, .inl fDo)) :: (hS, .inl (cJ, 30, .inr (.inl fS))) :: rest) H locs := hG
    refine W.widen (k := 0) (n := 0) (Nat.le_of_ble_eq_true rfl) (Nat.le_of_ble_eq_true rfl) ?_
    refine W.eq (g2 := F0 m 67 ls [.int (kb (((kIn q 0 (nI ni - 1)) && ((kIn dq (-5000) 5000) && (!(decide (fR q.toNatClampNeg = (-1))) && (kIn ((fV q.toNatClampNeg) + dq) (-20000) 20000)))) && ((kIn dq (-5000) 5000) && (kIn q 0 (nI ni - 1)))))]) rfl ?_
    refine k_ifB_ne (tgt := 72) hx hb dX4_vary_67 (by decide) (fun c_4 => ?_) (fun c_4 => ?_)
    · refine lv_aload_n hx hb dX4_vary_72 rfl (lv_at hl 2 rfl) ?_
      refine k_get (C := RX4) (T := TX4) (N := 26) (ci := 5) (v := .ref hV) (fs := [.ref hM, .int (kb dr), .int (kb cl), .int bx, .int by9, .int x, .int y, .int ot, .int tw, .ref hH, .int (nI no), .int lim, .ref hA, .int (nI nr), .ref hP, .ref hPa, .ref hR, .ref hW, .ref hMe, .ref hV, .ref hDo, .ref hS, .int (nI ni), .int ret, .long clm, .int (kGo (kIn q 0 (nI ni - 1)) (kIn dq (-5000) 5000) ((kIn q 0 (nI ni - 1)) && ((kIn dq (-5000) 5000) && (!(decide (fR q.toNatClampNeg = (-1))) && (kIn ((fV q.toNatClampNeg) + dq) (-20000) 20000)))))]) hC hG hi_RX4 0 rfl rfl 19 (by decide) (List.mem_of_getElem? (i := 1) rfl) rfl rfl dX4_vary_73 ?_
      refine lv_iload_n hx hb dX4_vary_76 rfl (lv_at hl 3 rfl) ?_
      refine lv_dup2_11 hx hb dX4_vary_77 rfl rfl ?_
      refine va_iald (f := fV) hx hb hC.K hG.1 9 0 rfl rfl (kIn_in (k_andl (k_andl c_4)) (by omega) (by decide)) dX4_vary_78 ?_
      refine lv_iload_n hx hb dX4_vary_79 rfl (lv_at hl 4 rfl) ?_
      refine lv_iadd hx hb dX4_vary_80 ?_
      refine va_iast (f := fV) (x := ((fV q.toNatClampNeg) + dq)) hx hb hC.K hG.1 hG.2.1 hG.2.2 9 0 rfl rfl (kIn_in (k_andl (k_andl c_4)) (by omega) (by decide)) dX4_vary_81 (fun H locs h1 h2 h3 => ?_)
      have hG : kG D A s ((hm, .inr (5, [.ref hM, .int (kb dr), .int (kb cl), .int bx, .int by9, .int x, .int y, .int ot, .int tw, .ref hH, .int (nI no), .int lim, .ref hA, .int (nI nr), .ref hP, .ref hPa, .ref hR, .ref hW, .ref hMe, .ref hV, .ref hDo, .ref hS, .int (nI ni), .int ret, .long clm, .int (kGo (kIn q 0 (nI ni - 1)) (kIn dq (-5000) 5000) ((kIn q 0 (nI ni - 1)) && ((kIn dq (-5000) 5000) && (!(decide (fR q.toNatClampNeg = (-1))) && (kIn ((fV q.toNatClampNeg) + dq) (-20000) 20000)))))])) :: (hM, .inl (cZ, 1681, .inl (fun j9 => kb (mk j9)))) :: (hH, .inl (cI, 10, .inl fH)) :: (hA, .inl (cI, 36, .inl fA)) :: (hP, .inl (cI, 3, .inl fP)) :: (hPa, .inl (cI, 30, .inl fPa)) :: (hR, .inl (cI, 30, .inl fR)) :: (hW, .inl (cI, 30, .inl fW)) :: (hMe, .inl (cI, 30, .inl fMe)) :: (hV, .inl (cI, 30, .inl (upd fV q.toNatClampNeg ((fV q.toNatClampNeg) + dq)))) :: (hDo, .inl (cI, 30, .inl fDo)) :: (hS, .inl (cJ, 30, .inr (.inl fS))) :: rest) H locs := ⟨h1, h2, h3⟩
      refine lv_aload_n hx hb dX4_vary_82 rfl (lv_at hl 2 rfl) ?_
      refine k_get (C := RX4) (T := TX4) (N := 26) (ci := 5) (v := .ref hV) (fs := [.ref hM, .int (kb dr), .int (kb cl), .int bx, .int by9, .int x, .int y, .int ot, .int tw, .ref hH, .int (nI no), .int lim, .ref hA, .int (nI nr), .ref hP, .ref hPa, .ref hR, .ref hW, .ref hMe, .ref hV, .ref hDo, .ref hS, .int (nI ni), .int ret, .long clm, .int (kGo (kIn q 0 (nI ni - 1)) (kIn dq (-5000) 5000) ((kIn q 0 (nI ni - 1)) && ((kIn dq (-5000) 5000) && (!(decide (fR q.toNatClampNeg = (-1))) && (kIn ((fV q.toNatClampNeg) + dq) (-20000) 20000)))))]) hC hG hi_RX4 0 rfl rfl 19 (by decide) (List.mem_of_getElem? (i := 1) rfl) rfl rfl dX4_vary_83 ?_
      refine lv_iload_n hx hb dX4_vary_86 rfl (lv_at hl 3 rfl) ?_
      refine va_iald (f := (upd fV q.toNatClampNeg ((fV q.toNatClampNeg) + dq))) hx hb hC.K hG.1 9 0 rfl rfl (kIn_in (k_andl (k_andl c_4)) (by omega) (by decide)) dX4_vary_87 ?_
      refine k_topi (y := (fV q.toNatClampNeg) + dq) pk_us ?_
      exact k_reti hC hr hG ⟨by rw [c_4]; first | done | rfl, by rw [c_4]; first | done | rfl⟩ (Nat.le_of_ble_eq_true rfl) (Nat.le_of_ble_eq_true rfl) dX4_vary_88
    · refine lv_iconst (v := 0) hx hb dX4_vary_70 (by decide) ?_
      exact k_reti hC hr hG ⟨by rw [c_4]; first | done | rfl, by rw [c_4]; first | done | rfl⟩ (Nat.le_of_ble_eq_true rfl) (Nat.le_of_ble_eq_true rfl) dX4_vary_71
  refine k_ifB_eq (tgt := 63) hx hb dX4_vary_23 (by decide) (fun c_1 => ?_) (fun c_1 => ?_)
  · refine lv_iconst (v := 0) hx hb dX4_vary_63 (by decide) ?_
    exact J2 0 (by rw [c_1]; first | done | rfl) _ _ hG
  · refine lv_iload hx hb dX4_vary_26 (lv_at hl 0 rfl) ?_
    refine k_ifB_eq (tgt := 63) hx hb dX4_vary_28 (by decide) (fun c_5 => ?_) (fun c_5 => ?_)
    · refine lv_iconst (v := 0) hx hb dX4_vary_63 (by decide) ?_
      exact J2 0 (by rw [c_1, c_5]; first | done | rfl) _ _ hG
    · refine lv_aload_n hx hb dX4_vary_31 rfl (lv_at hl 2 rfl) ?_
      refine lv_iload_n hx hb dX4_vary_32 rfl (lv_at hl 3 rfl) ?_
      refine k_callV (nn := 1) (C := RX4) hC hG 0 rfl (ci := 5) rfl (K_X4_isHeading l hfl D cI cJ cZ cO z mi hm hM hH hA hP hPa hR hW hMe hV hDo hS mk fH fA fP fPa fR fW fMe fV fDo fS dr cl bx by9 x y ot tw no lim nr ni ret clm la rest q (kIn_in c_1 (by omega) (by decide))) gX4_vary_X4_isHeading rfl rfl (by decide +kernel) ⟨(Nat.le_of_ble_eq_true rfl), (Nat.le_of_ble_eq_true rfl)⟩ hl.1 rfl (Nat.le_of_ble_eq_true rfl) dX4_vary_33 ⟨(Nat.le_of_ble_eq_true rfl), (Nat.le_of_ble_eq_true rfl)⟩ (fun _ _ _ _ _ _ hp => hp.elim) (fun v9 u9 H locs hp hG => ?_)
      obtain ⟨rfl, rfl⟩ := hp
      refine W.widen (k := 0) (n := 0) (Nat.le_of_ble_eq_true rfl) (Nat.le_of_ble_eq_true rfl) ?_
      refine W.eq (g2 := F0 m 36 ls [.int (kb (decide (fR q.toNatClampNeg = (-1)))), .int (kb (kIn dq (-5000) 5000)), .int (kb (kIn q 0 (nI ni - 1))), .ref hm]) rfl ?_
      refine k_ifB_ne (tgt := 63) hx hb dX4_vary_36 (by decide) (fun c_6 => ?_) (fun c_6 => ?_)
      · refine lv_iconst (v := 0) hx hb dX4_vary_63 (by decide) ?_
        exact J2 0 (by rw [c_1, c_5, c_6]; first | done | rfl) _ _ hG
      · refine lv_aload_n hx hb dX4_vary_39 rfl (lv_at hl 2 rfl) ?_
        refine k_get (C := RX4) (T := TX4) (N := 26) (ci := 5) (v := .ref hV) (fs := [.ref hM, .int (kb dr), .int (kb cl), .int bx, .int by9, .int x, .int y, .int ot, .int tw, .ref hH, .int (nI no), .int lim, .ref hA, .int (nI nr), .ref hP, .ref hPa, .ref hR, .ref hW, .ref hMe, .ref hV, .ref hDo, .ref hS, .int (nI ni), .int ret, .long clm, .int la]) hC hG hi_RX4 0 rfl rfl 19 (by decide) (List.mem_of_getElem? (i := 1) rfl) rfl rfl dX4_vary_40 ?_
        refine lv_iload_n hx hb dX4_vary_43 rfl (lv_at hl 3 rfl) ?_
        refine va_iald (f := fV) hx hb hC.K hG.1 9 0 rfl rfl (kIn_in c_1 (by omega) (by decide)) dX4_vary_44 ?_
        refine lv_iload_n hx hb dX4_vary_45 rfl (lv_at hl 4 rfl) ?_
        refine lv_iadd hx hb dX4_vary_46 ?_
        refine lv_sipush (v := (-20000)) hx hb dX4_vary_47 (by decide) ?_
        refine lv_sipush (v := 20000) hx hb dX4_vary_50 (by decide) ?_
        refine k_callS (nn := 3) hC hG (K_X4_in l hfl D cI cJ cZ cO z mi ((hm, .inr (5, [.ref hM, .int (kb dr), .int (kb cl), .int bx, .int by9, .int x, .int y, .int ot, .int tw, .ref hH, .int (nI no), .int lim, .ref hA, .int (nI nr), .ref hP, .ref hPa, .ref hR, .ref hW, .ref hMe, .ref hV, .ref hDo, .ref hS, .int (nI ni), .int ret, .long clm, .int la])) :: (hM, .inl (cZ, 1681, .inl (fun j9 => kb (mk j9)))) :: (hH, .inl (cI, 10, .inl fH)) :: (hA, .inl (cI, 36, .inl fA)) :: (hP, .inl (cI, 3, .inl fP)) :: (hPa, .inl (cI, 30, .inl fPa)) :: (hR, .inl (cI, 30, .inl fR)) :: (hW, .inl (cI, 30, .inl fW)) :: (hMe, .inl (cI, 30, .inl fMe)) :: (hV, .inl (cI, 30, .inl fV)) :: (hDo, .inl (cI, 30, .inl fDo)) :: (hS, .inl (cJ, 30, .inr (.inl fS))) :: rest) ((fV q.toNatClampNeg) + dq) (-20000) 20000) gX4_vary_X4_in rfl rfl (by decide +kernel) ⟨(Nat.le_of_ble_eq_true rfl), (Nat.le_of_ble_eq_true rfl)⟩ hl.1 rfl (Nat.le_of_ble_eq_true rfl) dX4_vary_53 ⟨(Nat.le_of_ble_eq_true rfl), (Nat.le_of_ble_eq_true rfl)⟩ (fun _ _ _ _ _ _ hp => hp.elim) (fun v9 u9 H locs hp hG => ?_)
        obtain ⟨rfl, rfl⟩ := hp
        refine W.widen (k := 0) (n := 0) (Nat.le_of_ble_eq_true rfl) (Nat.le_of_ble_eq_true rfl) ?_
        refine W.eq (g2 := F0 m 56 ls [.int (kb (kIn ((fV q.toNatClampNeg) + dq) (-20000) 20000)), .int (kb (kIn dq (-5000) 5000)), .int (kb (kIn q 0 (nI ni - 1))), .ref hm]) rfl ?_
        refine k_ifB_eq (tgt := 63) hx hb dX4_vary_56 (by decide) (fun c_7 => ?_) (fun c_7 => ?_)
        · refine lv_iconst (v := 0) hx hb dX4_vary_63 (by decide) ?_
          exact J2 0 (by rw [c_1, c_5, c_6, c_7]; first | done | rfl) _ _ hG
        · refine lv_iconst (v := 1) hx hb dX4_vary_59 (by decide) ?_
          refine lv_goto (tgt := 64) hx hb dX4_vary_60 (by decide) ?_
          exact J2 1 (by rw [c_1, c_5, c_6, c_7]; first | done | rfl) _ _ hG

set_option maxHeartbeats 4000000 in
set_option maxRecDepth 100000 in
/-- done -/
theorem K_X4_done (l : Launch) (hfl : l.stackTraces = false) (D : va_G) (cI cJ cZ cO : ClassId) (z mi : Nat) (hm : Nat) (hM : Nat) (hH : Nat) (hA : Nat) (hP : Nat) (hPa : Nat) (hR : Nat) (hW : Nat) (hMe : Nat) (hV : Nat) (hDo : Nat) (hS : Nat) (mk : Nat → Bool) (fH : Nat → Int32) (fA : Nat → Int32) (fP : Nat → Int32) (fPa : Nat → Int32) (fR : Nat → Int32) (fW : Nat → Int32) (fMe : Nat → Int32) (fV : Nat → Int32) (fDo : Nat → Int32) (fS : Nat → Int64) (dr : Bool) (cl : Bool) (bx : Int32) (by9 : Int32) (x : Int32) (y : Int32) (ot : Int32) (tw : Int32) (no : Nat) (lim : Int32) (nr : Nat) (ni : Nat) (ret : Int32) (clm : Int64) (la : Int32) (rest : va_W) (q dq : Int32) (hni : ni ≤ 30) : kM l D (kTy cI cJ cZ cO) z mi yX4_done wsX4_done ({ frames := 2, cells := 0, slots := 0, locals := 43 } : Room) [.ref hm, .int q, .int dq] ((hm, .inr (5, [.ref hM, .int (kb dr), .int (kb cl), .int bx, .int by9, .int x, .int y, .int ot, .int tw, .ref hH, .int (nI no), .int lim, .ref hA, .int (nI nr), .ref hP, .ref hPa, .ref hR, .ref hW, .ref hMe, .ref hV, .ref hDo, .ref hS, .int (nI ni), .int ret, .long clm, .int la])) :: (hM, .inl (cZ, 1681, .inl (fun j9 => kb (mk j9)))) :: (hH, .inl (cI, 10, .inl fH)) :: (hA, .inl (cI, 36, .inl fA)) :: (hP, .inl (cI, 3, .inl fP)) :: (hPa, .inl (cI, 30, .inl fPa)) :: (hR, .inl (cI, 30, .inl fR)) :: (hW, .inl (cI, 30, .inl fW)) :: (hMe, .inl (cI, 30, .inl fMe)) :: (hV, .inl (cI, 30, .inl fV)) :: (hDo, .inl (cI, 30, .inl fDo)) :: (hS, .inl (cJ, 30, .inr (.inl fS))) :: rest) (fun v u => v = some (.int (bif ((kIn q 0 (nI ni - 1)) && (!(decide ((fR q.toNatClampNeg) = (-1))))) && ((kIn dq 0 100) && (kIn q 0 (nI ni - 1))) then fDo q.toNatClampNeg else 0)) ∧ u = (hm, .inr (5, [.ref hM, .int (kb dr), .int (kb cl), .int bx, .int by9, .int x, .int y, .int ot, .int tw, .ref hH, .int (nI no), .int lim, .ref hA, .int (nI nr), .ref hP, .ref hPa, .ref hR, .ref hW, .ref hMe, .ref hV, .ref hDo, .ref hS, .int (nI ni), .int ret, .long clm, .int (kGo (kIn q 0 (nI ni - 1)) (kIn dq 0 100) ((kIn q 0 (nI ni - 1)) && (!(decide ((fR q.toNatClampNeg) = (-1))))))])) :: (hM, .inl (cZ, 1681, .inl (fun j9 => kb (mk j9)))) :: (hH, .inl (cI, 10, .inl fH)) :: (hA, .inl (cI, 36, .inl fA)) :: (hP, .inl (cI, 3, .inl fP)) :: (hPa, .inl (cI, 30, .inl fPa)) :: (hR, .inl (cI, 30, .inl fR)) :: (hW, .inl (cI, 30, .inl fW)) :: (hMe, .inl (cI, 30, .inl fMe)) :: (hV, .inl (cI, 30, .inl fV)) :: (hDo, .inl (cI, 30, .inl (bif ((kIn q 0 (nI ni - 1)) && (!(decide ((fR q.toNatClampNeg) = (-1))))) && ((kIn dq 0 100) && (kIn q 0 (nI ni - 1))) then upd fDo q.toNatClampNeg dq else fDo))) :: (hS, .inl (cJ, 30, .inr (.inl fS))) :: rest) (fun _ _ => False) := by
  refine kM.of hfl (cc := cX4_done) (maxL := 5) (ret := (some .int)) (by decide) rfl (Nat.le_of_ble_eq_true rfl) ?_
  intro p e s m args below meth c A ls hC hr hmn hG hl
  have hx := hC.x
  have hb := hC.b
  have hl : lv_has ls 5 [(0, .ref hm), (1, .int q), (2, .int dq)] := hl
  have hi_RX4 : ∀ w ∈ wsX40, w ∈ wsX4_done := fun w h => List.mem_cons_of_mem _ (List.mem_append_right _ h)
  refine lv_aload_n hx hb dX4_done_0 rfl (lv_at hl 0 rfl) ?_
  refine lv_iload_n hx hb dX4_done_1 rfl (lv_at hl 1 rfl) ?_
  refine k_callV (nn := 1) (C := RX4) hC hG 0 rfl (ci := 5) rfl (K_X4_isItem l hfl D cI cJ cZ cO z mi hm hM hH hA hP hPa hR hW hMe hV hDo hS mk fH fA fP fPa fR fW fMe fV fDo fS dr cl bx by9 x y ot tw no lim nr ni ret clm la rest q) gX4_done_X4_isItem rfl rfl (by decide +kernel) ⟨(Nat.le_of_ble_eq_true rfl), (Nat.le_of_ble_eq_true rfl)⟩ hl.1 rfl (Nat.le_of_ble_eq_true rfl) dX4_done_2 ⟨(Nat.le_of_ble_eq_true rfl), (Nat.le_of_ble_eq_true rfl)⟩ (fun _ _ _ _ _ _ hp => hp.elim) (fun v9 u9 H locs hp hG => ?_)
  obtain ⟨rfl, rfl⟩ := hp
  refine W.widen (k := 0) (n := 0) (Nat.le_of_ble_eq_true rfl) (Nat.le_of_ble_eq_true rfl) ?_
  refine W.eq (g2 := F0 m 5 ls [.int (kb (kIn q 0 (nI ni - 1)))]) rfl ?_
  refine lv_istore_n (lv' := [(3, .int (kb (kIn q 0 (nI ni - 1)))), (0, .ref hm), (1, .int q), (2, .int dq)]) hx hb dX4_done_5 rfl hl (by decide) rfl (fun ls hl => ?_)
  refine lv_aload_n hx hb dX4_done_6 rfl (lv_at hl 1 rfl) ?_
  refine lv_iload_n hx hb dX4_done_7 rfl (lv_at hl 0 rfl) ?_
  refine lv_iload_n hx hb dX4_done_8 rfl (lv_at hl 3 rfl) ?_
  refine lv_iconst (v := 0) hx hb dX4_done_9 (by decide) ?_
  refine lv_bipush (v := 100) hx hb dX4_done_10 (by decide) ?_
  refine k_callS (nn := 3) hC hG (K_X4_in l hfl D cI cJ cZ cO z mi ((hm, .inr (5, [.ref hM, .int (kb dr), .int (kb cl), .int bx, .int by9, .int x, .int y, .int ot, .int tw, .ref hH, .int (nI no), .int lim, .ref hA, .int (nI nr), .ref hP, .ref hPa, .ref hR, .ref hW, .ref hMe, .ref hV, .ref hDo, .ref hS, .int (nI ni), .int ret, .long clm, .int la])) :: (hM, .inl (cZ, 1681, .inl (fun j9 => kb (mk j9)))) :: (hH, .inl (cI, 10, .inl fH)) :: (hA, .inl (cI, 36, .inl fA)) :: (hP, .inl (cI, 3, .inl fP)) :: (hPa, .inl (cI, 30, .inl fPa)) :: (hR, .inl (cI, 30, .inl fR)) :: (hW, .inl (cI, 30, .inl fW)) :: (hMe, .inl (cI, 30, .inl fMe)) :: (hV, .inl (cI, 30, .inl fV)) :: (hDo, .inl (cI, 30, .inl fDo)) :: (hS, .inl (cJ, 30, .inr (.inl fS))) :: rest) dq 0 100) gX4_done_X4_in rfl rfl (by decide +kernel) ⟨(Nat.le_of_ble_eq_true rfl), (Nat.le_of_ble_eq_true rfl)⟩ hl.1 rfl (Nat.le_of_ble_eq_true rfl) dX4_done_12 ⟨(Nat.le_of_ble_eq_true rfl), (Nat.le_of_ble_eq_true rfl)⟩ (fun _ _ _ _ _ _ hp => hp.elim) (fun v9 u9 H locs hp hG => ?_)
  obtain ⟨rfl, rfl⟩ := hp
  refine W.widen (k := 0) (n := 0) (Nat.le_of_ble_eq_true rfl) (Nat.le_of_ble_eq_true rfl) ?_
  refine W.eq (g2 := F0 m 15 ls [.int (kb (kIn dq 0 100)), .int (kb (kIn q 0 (nI ni - 1))), .ref hm]) rfl ?_
  refine lv_iload_n hx hb dX4_done_15 rfl (lv_at hl 0 rfl) ?_
  refine k_joinH (D := D) (A := A) (fun v3 : Int32 => F0 m 32 ls (.int v3 :: [.int (kb (kIn dq 0 100)), .int (kb (kIn q 0 (nI ni - 1))), .ref hm])) (fun v3 => v3 = kb ((kIn q 0 (nI ni - 1)) && (!(decide (fR q.toNatClampNeg = (-1)))))) ((hm, .inr (5, [.ref hM, .int (kb dr), .int (kb cl), .int bx, .int by9, .int x, .int y, .int ot, .int tw, .ref hH, .int (nI no), .int lim, .ref hA, .int (nI nr), .ref hP, .ref hPa, .ref hR, .ref hW, .ref hMe, .ref hV, .ref hDo, .ref hS, .int (nI ni), .int ret, .long clm, .int la])) :: (hM, .inl (cZ, 1681, .inl (fun j9 => kb (mk j9)))) :: (hH, .inl (cI, 10, .inl fH)) :: (hA, .inl (cI, 36, .inl fA)) :: (hP, .inl (cI, 3, .inl fP)) :: (hPa, .inl (cI, 30, .inl fPa)) :: (hR, .inl (cI, 30, .inl fR)) :: (hW, .inl (cI, 30, .inl fW)) :: (hMe, .inl (cI, 30, .inl fMe)) :: (hV, .inl (cI, 30, .inl fV)) :: (hDo, .inl (cI, 30, .inl fDo)) :: (hS, .inl (cJ, 30, .inr (.inl fS))) :: rest) ?_ (fun J2 => ?_)
  · intro v3 ev3 H locs hG
    have ev3 : v3 = kb ((kIn q 0 (nI ni - 1)) && (!(decide (fR q.toNatClampNeg = (-1))))) := ev3
    subst ev3
    refine k_callV (nn := 3) (C := RX4) hC hG 0 rfl (ci := 5) rfl (K_X4_goes l hfl D cI cJ cZ cO z mi hm hM hH hA hP hPa hR hW hMe hV hDo hS mk fH fA fP fPa fR fW fMe fV fDo fS dr cl bx by9 x y ot tw no lim nr ni ret clm la rest (kIn q 0 (nI ni - 1)) (kIn dq 0 100) ((kIn q 0 (nI ni - 1)) && (!(decide (fR q.toNatClampNeg = (-1)))))) gX4_done_X4_goes rfl rfl (by decide +kernel) ⟨(Nat.le_of_ble_eq_true rfl), (Nat.le_of_ble_eq_true rfl)⟩ hl.1 rfl (Nat.le_of_ble_eq_true rfl) dX4_done_32 ⟨(Nat.le_of_ble_eq_true rfl), (Nat.le_of_ble_eq_true rfl)⟩ (fun _ _ _ _ _ _ hp => hp.elim) (fun v9 u9 H locs hp hG => ?_)
    obtain ⟨rfl, rfl⟩ := hp
    have hG : kG D A s ((hm, .inr (5, [.ref hM, .int (kb dr), .int (kb cl), .int bx, .int by9, .int x, .int y, .int ot, .int tw, .ref hH, .int (nI no), .int lim, .ref hA, .int (nI nr), .ref hP, .ref hPa, .ref hR, .ref hW, .ref hMe, .ref hV, .ref hDo, .ref hS, .int (nI ni), .int ret, .long clm, .int (kGo (kIn q 0 (nI ni - 1)) (kIn dq 0 100) ((kIn q 0 (nI ni - 1)) && (!(decide (fR q.toNatClampNeg = (-1))))))])) :: (hM, .inl (cZ, 1681, .inl (fun j9 => kb (mk j9)))) :: (hH, .inl (cI, 10, .inl fH)) :: (hA, .inl (cI, 36, .inl fA)) :: (hP, .inl (cI, 3, .inl fP)) :: (hPa, .inl (cI, 30, .inl fPa)) :: (hR, .inl (cI, 30, .inl fR)) :: (hW, .inl (cI, 30, .inl fW)) :: (hMe, .inl (cI, 30, .inl fMe)) :: (hV, .inl (cI, 30, .inl fV)) :: (hDo, .inl (cI, 30, .inl fDo)) :: (hS, .inl (cJ, 30, .inr (.inl fS))) :: rest) H locs := hG
    refine W.widen (k := 0) (n := 0) (Nat.le_of_ble_eq_true rfl) (Nat.le_of_ble_eq_true rfl) ?_
    refine W.eq (g2 := F0 m 35 ls [.int (kb (((kIn q 0 (nI ni - 1)) && (!(decide (fR q.toNatClampNeg = (-1))))) && ((kIn dq 0 100) && (kIn q 0 (nI ni - 1)))))]) rfl ?_
    refine k_ifB_ne (tgt := 40) hx hb dX4_done_35 (by decide) (fun c_4 => ?_) (fun c_4 => ?_)
    · refine lv_aload_n hx hb dX4_done_40 rfl (lv_at hl 1 rfl) ?_
      refine k_get (C := RX4) (T := TX4) (N := 26) (ci := 5) (v := .ref hDo) (fs := [.ref hM, .int (kb dr), .int (kb cl), .int bx, .int by9, .int x, .int y, .int ot, .int tw, .ref hH, .int (nI no), .int lim, .ref hA, .int (nI nr), .ref hP, .ref hPa, .ref hR, .ref hW, .ref hMe, .ref hV, .ref hDo, .ref hS, .int (nI ni), .int ret, .long clm, .int (kGo (kIn q 0 (nI ni - 1)) (kIn dq 0 100) ((kIn q 0 (nI ni - 1)) && (!(decide (fR q.toNatClampNeg = (-1))))))]) hC hG hi_RX4 0 rfl rfl 20 (by decide) (List.mem_of_getElem? (i := 1) rfl) rfl rfl dX4_done_41 ?_
      refine lv_iload_n hx hb dX4_done_44 rfl (lv_at hl 2 rfl) ?_
      refine va_iald (f := fDo) hx hb hC.K hG.1 10 0 rfl rfl (kIn_in (k_andl (k_andl c_4)) (by omega) (by decide)) dX4_done_45 ?_
      refine lv_istore (lv' := [(4, .int (fDo q.toNatClampNeg)), (3, .int (kb (kIn q 0 (nI ni - 1)))), (0, .ref hm), (1, .int q), (2, .int dq)]) hx hb dX4_done_46 hl (by decide) rfl (fun ls hl => ?_)
      refine lv_aload_n hx hb dX4_done_48 rfl (lv_at hl 2 rfl) ?_
      refine k_get (C := RX4) (T := TX4) (N := 26) (ci := 5) (v := .ref hDo) (fs := [.ref hM, .int (kb dr), .int (kb cl), .int bx, .int by9, .int x, .int y, .int ot, .int tw, .ref hH, .int (nI no), .int lim, .ref hA, .int (nI nr), .ref hP, .ref hPa, .ref hR, .ref hW, .ref hMe, .ref hV, .ref hDo, .ref hS, .int (nI ni), .int ret, .long clm, .int (kGo (kIn q 0 (nI ni - 1)) (kIn dq 0 100) ((kIn q 0 (nI ni - 1)) && (!(decide (fR q.toNatClampNeg = (-1))))))]) hC hG hi_RX4 0 rfl rfl 20 (by decide) (List.mem_of_getElem? (i := 1) rfl) rfl rfl dX4_done_49 ?_
      refine lv_iload_n hx hb dX4_done_52 rfl (lv_at hl 3 rfl) ?_
      refine lv_iload_n hx hb dX4_done_53 rfl (lv_at hl 4 rfl) ?_
      refine va_iast (f := fDo) (x := dq) hx hb hC.K hG.1 hG.2.1 hG.2.2 10 0 rfl rfl (kIn_in (k_andl (k_andl c_4)) (by omega) (by decide)) dX4_done_54 (fun H locs h1 h2 h3 => ?_)
      have hG : kG D A s ((hm, .inr (5, [.ref hM, .int (kb dr), .int (kb cl), .int bx, .int by9, .int x, .int y, .int ot, .int tw, .ref hH, .int (nI no), .int lim, .ref hA, .int (nI nr), .ref hP, .ref hPa, .ref hR, .ref hW, .ref hMe, .ref hV, .ref hDo, .ref hS, .int (nI ni), .int ret, .long clm, .int (kGo (kIn q 0 (nI ni - 1)) (kIn dq 0 100) ((kIn q 0 (nI ni - 1)) && (!(decide (fR q.toNatClampNeg = (-1))))))])) :: (hM, .inl (cZ, 1681, .inl (fun j9 => kb (mk j9)))) :: (hH, .inl (cI, 10, .inl fH)) :: (hA, .inl (cI, 36, .inl fA)) :: (hP, .inl (cI, 3, .inl fP)) :: (hPa, .inl (cI, 30, .inl fPa)) :: (hR, .inl (cI, 30, .inl fR)) :: (hW, .inl (cI, 30, .inl fW)) :: (hMe, .inl (cI, 30, .inl fMe)) :: (hV, .inl (cI, 30, .inl fV)) :: (hDo, .inl (cI, 30, .inl (upd fDo q.toNatClampNeg dq))) :: (hS, .inl (cJ, 30, .inr (.inl fS))) :: rest) H locs := ⟨h1, h2, h3⟩
      refine lv_iload hx hb dX4_done_55 (lv_at hl 0 rfl) ?_
      exact k_reti hC hr hG ⟨by rw [c_4]; first | done | rfl, by rw [c_4]; first | done | rfl⟩ (Nat.le_of_ble_eq_true rfl) (Nat.le_of_ble_eq_true rfl) dX4_done_57
    · refine lv_iconst (v := 0) hx hb dX4_done_38 (by decide) ?_
      exact k_reti hC hr hG ⟨by rw [c_4]; first | done | rfl, by rw [c_4]; first | done | rfl⟩ (Nat.le_of_ble_eq_true rfl) (Nat.le_of_ble_eq_true rfl) dX4_done_39
  refine k_ifB_eq (tgt := 31) hx hb dX4_done_16 (by decide) (fun c_1 => ?_) (fun c_1 => ?_)
  · refine lv_iconst (v := 0) hx hb dX4_done_31 (by decide) ?_
    exact J2 0 (by rw [c_1]; first | done | rfl) _ _ hG
  · refine lv_aload_n hx hb dX4_done_19 rfl (lv_at hl 1 rfl) ?_
    refine lv_iload_n hx hb dX4_done_20 rfl (lv_at hl 2 rfl) ?_
    refine k_callV (nn := 1) (C := RX4) hC hG 0 rfl (ci := 5) rfl (K_X4_isHeading l hfl D cI cJ cZ cO z mi hm hM hH hA hP hPa hR hW hMe hV hDo hS mk fH fA fP fPa fR fW fMe fV fDo fS dr cl bx by9 x y ot tw no lim nr ni ret clm la rest q (kIn_in c_1 (by omega) (by decide))) gX4_done_X4_isHeading rfl rfl (by decide +kernel) ⟨(Nat.le_of_ble_eq_true rfl), (Nat.le_of_ble_eq_true rfl)⟩ hl.1 rfl (Nat.le_of_ble_eq_true rfl) dX4_done_21 ⟨(Nat.le_of_ble_eq_true rfl), (Nat.le_of_ble_eq_true rfl)⟩ (fun _ _ _ _ _ _ hp => hp.elim) (fun v9 u9 H locs hp hG => ?_)
    obtain ⟨rfl, rfl⟩ := hp
    refine W.widen (k := 0) (n := 0) (Nat.le_of_ble_eq_true rfl) (Nat.le_of_ble_eq_true rfl) ?_
    refine W.eq (g2 := F0 m 24 ls [.int (kb (decide (fR q.toNatClampNeg = (-1)))), .int (kb (kIn dq 0 100)), .int (kb (kIn q 0 (nI ni - 1))), .ref hm]) rfl ?_
    refine k_ifB_ne (tgt := 31) hx hb dX4_done_24 (by decide) (fun c_5 => ?_) (fun c_5 => ?_)
    · refine lv_iconst (v := 0) hx hb dX4_done_31 (by decide) ?_
      exact J2 0 (by rw [c_1, c_5]; first | done | rfl) _ _ hG
    · refine lv_iconst (v := 1) hx hb dX4_done_27 (by decide) ?_
      refine lv_goto (tgt := 32) hx hb dX4_done_28 (by decide) ?_
      exact J2 1 (by rw [c_1, c_5]; first | done | rfl) _ _ hG

set_option maxHeartbeats 4000000 in
set_option maxRecDepth 100000 in
/-- net: the area less the openings -/
theorem K_X4_net (l : Launch) (hfl : l.stackTraces = false) (D : va_G) (cI cJ cZ cO : ClassId) (z mi : Nat) (hm : Nat) (hM : Nat) (hH : Nat) (hA : Nat) (hP : Nat) (hPa : Nat) (hR : Nat) (hW : Nat) (hMe : Nat) (hV : Nat) (hDo : Nat) (hS : Nat) (mk : Nat → Bool) (fH : Nat → Int32) (fA : Nat → Int32) (fP : Nat → Int32) (fPa : Nat → Int32) (fR : Nat → Int32) (fW : Nat → Int32) (fMe : Nat → Int32) (fV : Nat → Int32) (fDo : Nat → Int32) (fS : Nat → Int64) (dr : Bool) (cl : Bool) (bx : Int32) (by9 : Int32) (x : Int32) (y : Int32) (ot : Int32) (tw : Int32) (no : Nat) (lim : Int32) (nr : Nat) (ni : Nat) (ret : Int32) (clm : Int64) (la : Int32) (rest : va_W) (hno : no ≤ 10) : kM l D (kTy cI cJ cZ cO) z mi yX4_net wsX4_net ({ frames := 1, cells := 0, slots := 0, locals := 20 } : Room) [.ref hm] ((hm, .inr (5, [.ref hM, .int (kb dr), .int (kb cl), .int bx, .int by9, .int x, .int y, .int ot, .int tw, .ref hH, .int (nI no), .int lim, .ref hA, .int (nI nr), .ref hP, .ref hPa, .ref hR, .ref hW, .ref hMe, .ref hV, .ref hDo, .ref hS, .int (nI ni), .int ret, .long clm, .int la])) :: (hM, .inl (cZ, 1681, .inl (fun j9 => kb (mk j9)))) :: (hH, .inl (cI, 10, .inl fH)) :: (hA, .inl (cI, 36, .inl fA)) :: (hP, .inl (cI, 3, .inl fP)) :: (hPa, .inl (cI, 30, .inl fPa)) :: (hR, .inl (cI, 30, .inl fR)) :: (hW, .inl (cI, 30, .inl fW)) :: (hMe, .inl (cI, 30, .inl fMe)) :: (hV, .inl (cI, 30, .inl fV)) :: (hDo, .inl (cI, 30, .inl fDo)) :: (hS, .inl (cJ, 30, .inr (.inl fS))) :: rest) (fun v u => v = some (.int (kNet fH lim tw no)) ∧ u = (hm, .inr (5, [.ref hM, .int (kb dr), .int (kb cl), .int bx, .int by9, .int x, .int y, .int ot, .int tw, .ref hH, .int (nI no), .int lim, .ref hA, .int (nI nr), .ref hP, .ref hPa, .ref hR, .ref hW, .ref hMe, .ref hV, .ref hDo, .ref hS, .int (nI ni), .int ret, .long clm, .int la])) :: (hM, .inl (cZ, 1681, .inl (fun j9 => kb (mk j9)))) :: (hH, .inl (cI, 10, .inl fH)) :: (hA, .inl (cI, 36, .inl fA)) :: (hP, .inl (cI, 3, .inl fP)) :: (hPa, .inl (cI, 30, .inl fPa)) :: (hR, .inl (cI, 30, .inl fR)) :: (hW, .inl (cI, 30, .inl fW)) :: (hMe, .inl (cI, 30, .inl fMe)) :: (hV, .inl (cI, 30, .inl fV)) :: (hDo, .inl (cI, 30, .inl fDo)) :: (hS, .inl (cJ, 30, .inr (.inl fS))) :: rest) (fun _ _ => False) := by
  refine kM.of hfl (cc := cX4_net) (maxL := 3) (ret := (some .int)) (by decide) rfl (Nat.le_of_ble_eq_true rfl) ?_
  intro p e s m args below meth c A ls hC hr hmn hG hl
  have hx := hC.x
  have hb := hC.b
  have hl : lv_has ls 3 [(0, .ref hm)] := hl
  have hi_RX4 : ∀ w ∈ wsX40, w ∈ wsX4_net := fun w h => List.mem_cons_of_mem _ (List.mem_append_right _ h)
  refine lv_aload_n hx hb dX4_net_0 rfl (lv_at hl 0 rfl) ?_
  refine k_callV (nn := 0) (C := RX4) hC hG 0 rfl (ci := 5) rfl (K_X4_whole l hfl D cI cJ cZ cO z mi hm hM hH hA hP hPa hR hW hMe hV hDo hS mk fH fA fP fPa fR fW fMe fV fDo fS dr cl bx by9 x y ot tw no lim nr ni ret clm la rest ) gX4_net_X4_whole rfl rfl (by decide +kernel) ⟨(Nat.le_of_ble_eq_true rfl), (Nat.le_of_ble_eq_true rfl)⟩ hl.1 rfl (Nat.le_of_ble_eq_true rfl) dX4_net_1 ⟨(Nat.le_of_ble_eq_true rfl), (Nat.le_of_ble_eq_true rfl)⟩ (fun _ _ _ _ _ _ hp => hp.elim) (fun v9 u9 H locs hp hG => ?_)
  obtain ⟨rfl, rfl⟩ := hp
  refine W.widen (k := 0) (n := 0) (Nat.le_of_ble_eq_true rfl) (Nat.le_of_ble_eq_true rfl) ?_
  refine W.eq (g2 := F0 m 4 ls [.int ((bif decide ((0 : Int32) ≤ tw) then tw else -tw) / 2)]) rfl ?_
  refine lv_istore_n (lv' := [(1, .int ((bif decide ((0 : Int32) ≤ tw) then tw else -tw) / 2)), (0, .ref hm)]) hx hb dX4_net_4 rfl hl (by decide) rfl (fun ls hl => ?_)
  refine lv_iconst (v := 0) hx hb dX4_net_5 (by decide) ?_
  refine lv_istore_n (lv' := [(2, .int 0), (1, .int ((bif decide ((0 : Int32) ≤ tw) then tw else -tw) / 2)), (0, .ref hm)]) hx hb dX4_net_6 rfl hl (by decide) rfl (fun ls hl => ?_)
  refine k_loop (σ := Nat) (fun q9 => q9 ≤ no) (fun q9 => no - q9) (fun q9 => (hm, .inr (5, [.ref hM, .int (kb dr), .int (kb cl), .int bx, .int by9, .int x, .int y, .int ot, .int tw, .ref hH, .int (nI no), .int lim, .ref hA, .int (nI nr), .ref hP, .ref hPa, .ref hR, .ref hW, .ref hMe, .ref hV, .ref hDo, .ref hS, .int (nI ni), .int ret, .long clm, .int la])) :: (hM, .inl (cZ, 1681, .inl (fun j9 => kb (mk j9)))) :: (hH, .inl (cI, 10, .inl fH)) :: (hA, .inl (cI, 36, .inl fA)) :: (hP, .inl (cI, 3, .inl fP)) :: (hPa, .inl (cI, 30, .inl fPa)) :: (hR, .inl (cI, 30, .inl fR)) :: (hW, .inl (cI, 30, .inl fW)) :: (hMe, .inl (cI, 30, .inl fMe)) :: (hV, .inl (cI, 30, .inl fV)) :: (hDo, .inl (cI, 30, .inl fDo)) :: (hS, .inl (cJ, 30, .inr (.inl fS))) :: rest) (fun q9 => [(0, .ref hm), (1, .int (kNs fH lim (kWh tw) q9)), (2, .int (nI q9))]) 7 [] ?_ 0 (Nat.zero_le _) hG (lv_sub hl [2, 1, 0] rfl)
  intro q9
  obtain ⟨k, rfl⟩ : ∃ z9, z9 = q9 := ⟨_, rfl⟩
  intro hI ih H locs ls hG hl
  have hI : k ≤ no := hI
  have hG : kG D A s ((hm, .inr (5, [.ref hM, .int (kb dr), .int (kb cl), .int bx, .int by9, .int x, .int y, .int ot, .int tw, .ref hH, .int (nI no), .int lim, .ref hA, .int (nI nr), .ref hP, .ref hPa, .ref hR, .ref hW, .ref hMe, .ref hV, .ref hDo, .ref hS, .int (nI ni), .int ret, .long clm, .int la])) :: (hM, .inl (cZ, 1681, .inl (fun j9 => kb (mk j9)))) :: (hH, .inl (cI, 10, .inl fH)) :: (hA, .inl (cI, 36, .inl fA)) :: (hP, .inl (cI, 3, .inl fP)) :: (hPa, .inl (cI, 30, .inl fPa)) :: (hR, .inl (cI, 30, .inl fR)) :: (hW, .inl (cI, 30, .inl fW)) :: (hMe, .inl (cI, 30, .inl fMe)) :: (hV, .inl (cI, 30, .inl fV)) :: (hDo, .inl (cI, 30, .inl fDo)) :: (hS, .inl (cJ, 30, .inr (.inl fS))) :: rest) H locs := hG
  have hl : lv_has ls 3 [(0, .ref hm), (1, .int (kNs fH lim (kWh tw) k)), (2, .int (nI k))] := hl
  refine lv_iload_n hx hb dX4_net_7 rfl (lv_at hl 2 rfl) ?_
  refine lv_aload_n hx hb dX4_net_8 rfl (lv_at hl 0 rfl) ?_
  refine k_get (C := RX4) (T := TX4) (N := 26) (ci := 5) (v := .int (nI no)) (fs := [.ref hM, .int (kb dr), .int (kb cl), .int bx, .int by9, .int x, .int y, .int ot, .int tw, .ref hH, .int (nI no), .int lim, .ref hA, .int (nI nr), .ref hP, .ref hPa, .ref hR, .ref hW, .ref hMe, .ref hV, .ref hDo, .ref hS, .int (nI ni), .int ret, .long clm, .int la]) hC hG hi_RX4 0 rfl rfl 10 (by decide) (List.mem_of_getElem? (i := 1) rfl) rfl rfl dX4_net_9 ?_
  refine k_icmp_ge (tgt := 47) hx hb dX4_net_12 (by decide) (fun c_1 => ?_) (fun c_1 => ?_)
  · have hk : k = no := by
      rcases Nat.lt_or_ge k no with h9 | h9
      · exact absurd (of_decide_eq_true c_1) (nI_ge h9 (by omega))
      · omega
    refine lv_iload_n hx hb dX4_net_47 rfl (lv_at hl 1 rfl) ?_
    refine k_joinH (D := D) (A := A) (fun v4 : Int32 => F0 m 56 ls (.int v4 :: [])) (fun v4 => v4 = bif decide ((0 : Int32) ≤ (kNs fH lim (kWh tw) k)) then (kNs fH lim (kWh tw) k) else 0) ((hm, .inr (5, [.ref hM, .int (kb dr), .int (kb cl), .int bx, .int by9, .int x, .int y, .int ot, .int tw, .ref hH, .int (nI no), .int lim, .ref hA, .int (nI nr), .ref hP, .ref hPa, .ref hR, .ref hW, .ref hMe, .ref hV, .ref hDo, .ref hS, .int (nI ni), .int ret, .long clm, .int la])) :: (hM, .inl (cZ, 1681, .inl (fun j9 => kb (mk j9)))) :: (hH, .inl (cI, 10, .inl fH)) :: (hA, .inl (cI, 36, .inl fA)) :: (hP, .inl (cI, 3, .inl fP)) :: (hPa, .inl (cI, 30, .inl fPa)) :: (hR, .inl (cI, 30, .inl fR)) :: (hW, .inl (cI, 30, .inl fW)) :: (hMe, .inl (cI, 30, .inl fMe)) :: (hV, .inl (cI, 30, .inl fV)) :: (hDo, .inl (cI, 30, .inl fDo)) :: (hS, .inl (cJ, 30, .inr (.inl fS))) :: rest) ?_ (fun J3 => ?_)
    · intro v4 ev4 H locs hG
      have ev4 : v4 = bif decide ((0 : Int32) ≤ (kNs fH lim (kWh tw) k)) then (kNs fH lim (kWh tw) k) else 0 := ev4
      subst ev4
      exact k_reti hC hr hG ⟨by rw [hk]; rfl, rfl⟩ (Nat.le_of_ble_eq_true rfl) (Nat.le_of_ble_eq_true rfl) dX4_net_56
    refine k_if_ge (tgt := 55) hx hb dX4_net_48 (by decide) (fun c_2 => ?_) (fun c_2 => ?_)
    · refine lv_iload_n hx hb dX4_net_55 rfl (lv_at hl 1 rfl) ?_
      exact J3 (kNs fH lim (kWh tw) k) (by rw [c_2]; first | done | rfl) _ _ hG
    · refine lv_iconst (v := 0) hx hb dX4_net_51 (by decide) ?_
      refine lv_goto (tgt := 56) hx hb dX4_net_52 (by decide) ?_
      exact J3 0 (by rw [c_2]; first | done | rfl) _ _ hG
  · have hk : k < no := by
      rcases Nat.lt_or_ge k no with h9 | h9
      · exact h9
      · exact absurd ((of_decide_eq_false c_1)) (fun z => z (nI_le h9 (by omega)))
    refine lv_iload_n hx hb dX4_net_15 rfl (lv_at hl 1 rfl) ?_
    refine lv_aload_n hx hb dX4_net_16 rfl (lv_at hl 0 rfl) ?_
    refine k_get (C := RX4) (T := TX4) (N := 26) (ci := 5) (v := .ref hH) (fs := [.ref hM, .int (kb dr), .int (kb cl), .int bx, .int by9, .int x, .int y, .int ot, .int tw, .ref hH, .int (nI no), .int lim, .ref hA, .int (nI nr), .ref hP, .ref hPa, .ref hR, .ref hW, .ref hMe, .ref hV, .ref hDo, .ref hS, .int (nI ni), .int ret, .long clm, .int la]) hC hG hi_RX4 0 rfl rfl 9 (by decide) (List.mem_of_getElem? (i := 2) rfl) rfl rfl dX4_net_17 ?_
    refine lv_iload_n hx hb dX4_net_20 rfl (lv_at hl 2 rfl) ?_
    refine va_iald (f := fH) hx hb hC.K hG.1 2 0 rfl rfl (vp_in_nI (by omega) (by decide)) dX4_net_21 ?_
    refine k_topi (y := fH k) (congrArg fH (nI_clamp (by omega))) ?_
    refine lv_aload_n hx hb dX4_net_22 rfl (lv_at hl 0 rfl) ?_
    refine k_get (C := RX4) (T := TX4) (N := 26) (ci := 5) (v := .int lim) (fs := [.ref hM, .int (kb dr), .int (kb cl), .int bx, .int by9, .int x, .int y, .int ot, .int tw, .ref hH, .int (nI no), .int lim, .ref hA, .int (nI nr), .ref hP, .ref hPa, .ref hR, .ref hW, .ref hMe, .ref hV, .ref hDo, .ref hS, .int (nI ni), .int ret, .long clm, .int la]) hC hG hi_RX4 0 rfl rfl 11 (by decide) (List.mem_of_getElem? (i := 3) rfl) rfl rfl dX4_net_23 ?_
    refine k_joinH (D := D) (A := A) (fun v7 : Int32 => F0 m 39 ls (.int v7 :: [.int (kNs fH lim (kWh tw) k)])) (fun v7 => v7 = bif decide ((fH k) ≤ lim) then 0 else (fH k)) ((hm, .inr (5, [.ref hM, .int (kb dr), .int (kb cl), .int bx, .int by9, .int x, .int y, .int ot, .int tw, .ref hH, .int (nI no), .int lim, .ref hA, .int (nI nr), .ref hP, .ref hPa, .ref hR, .ref hW, .ref hMe, .ref hV, .ref hDo, .ref hS, .int (nI ni), .int ret, .long clm, .int la])) :: (hM, .inl (cZ, 1681, .inl (fun j9 => kb (mk j9)))) :: (hH, .inl (cI, 10, .inl fH)) :: (hA, .inl (cI, 36, .inl fA)) :: (hP, .inl (cI, 3, .inl fP)) :: (hPa, .inl (cI, 30, .inl fPa)) :: (hR, .inl (cI, 30, .inl fR)) :: (hW, .inl (cI, 30, .inl fW)) :: (hMe, .inl (cI, 30, .inl fMe)) :: (hV, .inl (cI, 30, .inl fV)) :: (hDo, .inl (cI, 30, .inl fDo)) :: (hS, .inl (cJ, 30, .inr (.inl fS))) :: rest) ?_ (fun J6 => ?_)
    · intro v7 ev7 H locs hG
      have ev7 : v7 = bif decide ((fH k) ≤ lim) then 0 else (fH k) := ev7
      subst ev7
      refine lv_isub hx hb dX4_net_39 ?_
      refine lv_istore_n (lv' := [(1, .int ((kNs fH lim (kWh tw) k) - (bif decide ((fH k) ≤ lim) then 0 else (fH k)))), (0, .ref hm), (2, .int (nI k))]) hx hb dX4_net_40 rfl hl (by decide) rfl (fun ls hl => ?_)
      refine lv_iinc (v := (nI k) + 1) (lv' := [(2, .int ((nI k) + 1)), (1, .int ((kNs fH lim (kWh tw) k) - (bif decide ((fH k) ≤ lim) then 0 else (fH k)))), (0, .ref hm)]) hx hb dX4_net_41 hl (k := 2) rfl rfl (by decide) rfl (fun ls hl => ?_)
      refine lv_goto (tgt := 7) hx hb dX4_net_44 (by decide) ?_
      rw [nI_1] at hl
      exact ih (k + 1) (show k + 1 ≤ no from hk) (by show no - (k + 1) < no - k; omega) _ _ _ hG (lv_sub hl [2, 1, 0] rfl)
    refine k_icmp_le (tgt := 38) hx hb dX4_net_26 (by decide) (fun c_5 => ?_) (fun c_5 => ?_)
    · refine lv_iconst (v := 0) hx hb dX4_net_38 (by decide) ?_
      exact J6 0 (by rw [c_5]; first | done | rfl) _ _ hG
    · refine lv_aload_n hx hb dX4_net_29 rfl (lv_at hl 0 rfl) ?_
      refine k_get (C := RX4) (T := TX4) (N := 26) (ci := 5) (v := .ref hH) (fs := [.ref hM, .int (kb dr), .int (kb cl), .int bx, .int by9, .int x, .int y, .int ot, .int tw, .ref hH, .int (nI no), .int lim, .ref hA, .int (nI nr), .ref hP, .ref hPa, .ref hR, .ref hW, .ref hMe, .ref hV, .ref hDo, .ref hS, .int (nI ni), .int ret, .long clm, .int la]) hC hG hi_RX4 0 rfl rfl 9 (by decide) (List.mem_of_getElem? (i := 2) rfl) rfl rfl dX4_net_30 ?_
      refine lv_iload_n hx hb dX4_net_33 rfl (lv_at hl 2 rfl) ?_
      refine va_iald (f := fH) hx hb hC.K hG.1 2 0 rfl rfl (vp_in_nI (by omega) (by decide)) dX4_net_34 ?_
      refine k_topi (y := fH k) (congrArg fH (nI_clamp (by omega))) ?_
      refine lv_goto (tgt := 39) hx hb dX4_net_35 (by decide) ?_
      exact J6 (fH k) (by rw [c_5]; first | done | rfl) _ _ hG

