set_option maxHeartbeats 4000000 in
set_option maxRecDepth 100000 in
/-- canGo: whether a wall goes over places that it may go over alone -/
theorem K_X4_canGo (l : Launch) (hfl : l.stackTraces = false) (D : va_G) (cI cJ cZ cO : ClassId) (z mi : Nat) (hm : Nat) (hM : Nat) (hH : Nat) (hA : Nat) (hP : Nat) (hPa : Nat) (hR : Nat) (hW : Nat) (hMe : Nat) (hV : Nat) (hDo : Nat) (hS : Nat) (mk : Nat → Bool) (fH : Nat → Int32) (fA : Nat → Int32) (fP : Nat → Int32) (fPa : Nat → Int32) (fR : Nat → Int32) (fW : Nat → Int32) (fMe : Nat → Int32) (fV : Nat → Int32) (fDo : Nat → Int32) (fS : Nat → Int64) (dr : Bool) (cl : Bool) (bx : Int32) (by9 : Int32) (x : Int32) (y : Int32) (ot : Int32) (tw : Int32) (no : Nat) (lim : Int32) (nr : Nat) (ni : Nat) (ret : Int32) (clm : Int64) (la : Int32) (rest : va_W) (dx dy q : Int32) (hq : kIn q 1 40 = true) : kM l D (kTy cI cJ cZ cO) z mi yX4_canGo wsX4_canGo ({ frames := 1, cells := 0, slots := 0, locals := 22 } : Room) [.ref hm, .int dx, .int dy, .int q] ((hm, .inr (5, [.ref hM, .int (kb dr), .int (kb cl), .int bx, .int by9, .int x, .int y, .int ot, .int tw, .ref hH, .int (nI no), .int lim, .ref hA, .int (nI nr), .ref hP, .ref hPa, .ref hR, .ref hW, .ref hMe, .ref hV, .ref hDo, .ref hS, .int (nI ni), .int ret, .long clm, .int la])) :: (hM, .inl (cZ, 1681, .inl (fun j9 => kb (mk j9)))) :: (hH, .inl (cI, 10, .inl fH)) :: (hA, .inl (cI, 36, .inl fA)) :: (hP, .inl (cI, 3, .inl fP)) :: (hPa, .inl (cI, 30, .inl fPa)) :: (hR, .inl (cI, 30, .inl fR)) :: (hW, .inl (cI, 30, .inl fW)) :: (hMe, .inl (cI, 30, .inl fMe)) :: (hV, .inl (cI, 30, .inl fV)) :: (hDo, .inl (cI, 30, .inl fDo)) :: (hS, .inl (cJ, 30, .inr (.inl fS))) :: rest) (fun v u => v = some (.int (kb (kCg mk x y bx by9 ot dx dy q q.toNatClampNeg))) ∧ u = (hm, .inr (5, [.ref hM, .int (kb dr), .int (kb cl), .int bx, .int by9, .int x, .int y, .int ot, .int tw, .ref hH, .int (nI no), .int lim, .ref hA, .int (nI nr), .ref hP, .ref hPa, .ref hR, .ref hW, .ref hMe, .ref hV, .ref hDo, .ref hS, .int (nI ni), .int ret, .long clm, .int la])) :: (hM, .inl (cZ, 1681, .inl (fun j9 => kb (mk j9)))) :: (hH, .inl (cI, 10, .inl fH)) :: (hA, .inl (cI, 36, .inl fA)) :: (hP, .inl (cI, 3, .inl fP)) :: (hPa, .inl (cI, 30, .inl fPa)) :: (hR, .inl (cI, 30, .inl fR)) :: (hW, .inl (cI, 30, .inl fW)) :: (hMe, .inl (cI, 30, .inl fMe)) :: (hV, .inl (cI, 30, .inl fV)) :: (hDo, .inl (cI, 30, .inl fDo)) :: (hS, .inl (cJ, 30, .inr (.inl fS))) :: rest) (fun _ _ => False) := by
  refine kM.of hfl (cc := cX4_canGo) (maxL := 9) (ret := (some .boolean)) (by decide) rfl (Nat.le_of_ble_eq_true rfl) ?_
  intro p e s m args below meth c A ls hC hr hmn hG hl
  have hx := hC.x
  have hb := hC.b
  have hl : lv_has ls 9 [(0, .ref hm), (1, .int dx), (2, .int dy), (3, .int q)] := hl
  have hi_RX4 : ∀ w ∈ wsX40, w ∈ wsX4_canGo := fun w h => List.mem_cons_of_mem _ (List.mem_append_right _ h)
  obtain ⟨st, hst1, hst2, rfl⟩ := kIn_1 hq
  refine lv_iconst (v := 1) hx hb dX4_canGo_0 (by decide) ?_
  refine lv_istore (lv' := [(4, .int 1), (0, .ref hm), (1, .int dx), (2, .int dy), (3, .int (nI st))]) hx hb dX4_canGo_1 hl (by decide) rfl (fun ls hl => ?_)
  refine k_loop (σ := Nat) (fun q9 => q9 ≤ st ∧ kCg mk x y bx by9 ot dx dy (nI st) q9 = true) (fun q9 => st + 1 - q9) (fun q9 => (hm, .inr (5, [.ref hM, .int (kb dr), .int (kb cl), .int bx, .int by9, .int x, .int y, .int ot, .int tw, .ref hH, .int (nI no), .int lim, .ref hA, .int (nI nr), .ref hP, .ref hPa, .ref hR, .ref hW, .ref hMe, .ref hV, .ref hDo, .ref hS, .int (nI ni), .int ret, .long clm, .int la])) :: (hM, .inl (cZ, 1681, .inl (fun j9 => kb (mk j9)))) :: (hH, .inl (cI, 10, .inl fH)) :: (hA, .inl (cI, 36, .inl fA)) :: (hP, .inl (cI, 3, .inl fP)) :: (hPa, .inl (cI, 30, .inl fPa)) :: (hR, .inl (cI, 30, .inl fR)) :: (hW, .inl (cI, 30, .inl fW)) :: (hMe, .inl (cI, 30, .inl fMe)) :: (hV, .inl (cI, 30, .inl fV)) :: (hDo, .inl (cI, 30, .inl fDo)) :: (hS, .inl (cJ, 30, .inr (.inl fS))) :: rest) (fun q9 => [(0, .ref hm), (1, .int dx), (2, .int dy), (3, .int (nI st)), (4, .int (nI (q9 + 1)))]) 3 [] ?_ 0 (⟨Nat.zero_le _, rfl⟩) hG (lv_sub hl [1, 2, 3, 4, 0] rfl)
  intro q9
  obtain ⟨j, rfl⟩ : ∃ z9, z9 = q9 := ⟨_, rfl⟩
  intro hI ih H locs ls hG hl
  have hI : j ≤ st ∧ kCg mk x y bx by9 ot dx dy (nI st) j = true := hI
  have hG : kG D A s ((hm, .inr (5, [.ref hM, .int (kb dr), .int (kb cl), .int bx, .int by9, .int x, .int y, .int ot, .int tw, .ref hH, .int (nI no), .int lim, .ref hA, .int (nI nr), .ref hP, .ref hPa, .ref hR, .ref hW, .ref hMe, .ref hV, .ref hDo, .ref hS, .int (nI ni), .int ret, .long clm, .int la])) :: (hM, .inl (cZ, 1681, .inl (fun j9 => kb (mk j9)))) :: (hH, .inl (cI, 10, .inl fH)) :: (hA, .inl (cI, 36, .inl fA)) :: (hP, .inl (cI, 3, .inl fP)) :: (hPa, .inl (cI, 30, .inl fPa)) :: (hR, .inl (cI, 30, .inl fR)) :: (hW, .inl (cI, 30, .inl fW)) :: (hMe, .inl (cI, 30, .inl fMe)) :: (hV, .inl (cI, 30, .inl fV)) :: (hDo, .inl (cI, 30, .inl fDo)) :: (hS, .inl (cJ, 30, .inr (.inl fS))) :: rest) H locs := hG
  have hl : lv_has ls 9 [(0, .ref hm), (1, .int dx), (2, .int dy), (3, .int (nI st)), (4, .int (nI (j + 1)))] := hl
  refine lv_iload hx hb dX4_canGo_3 (lv_at hl 4 rfl) ?_
  refine lv_iload_n hx hb dX4_canGo_5 rfl (lv_at hl 3 rfl) ?_
  refine k_icmp_gt (tgt := 133) hx hb dX4_canGo_6 (by decide) (fun c_1 => ?_) (fun c_1 => ?_)
  · have hj : st < j + 1 := by
      rcases Nat.lt_or_ge st (j + 1) with h9 | h9
      · exact h9
      · exact absurd (of_decide_eq_true c_1) (nI_nlt h9 (by omega))
    refine lv_iconst (v := 1) hx hb dX4_canGo_133 (by decide) ?_
    exact k_retz hC hr hG rfl ⟨by rw [nI_clamp (by omega), show kCg mk x y bx by9 ot dx dy (nI st) st = true from (show j = st by omega) ▸ hI.2]; rfl, rfl⟩ (Nat.le_of_ble_eq_true rfl) (Nat.le_of_ble_eq_true rfl) dX4_canGo_134
  · have hj : j + 1 ≤ st := by
      rcases Nat.lt_or_ge st (j + 1) with h9 | h9
      · exact absurd (nI_lt h9 (by omega)) (of_decide_eq_false c_1)
      · exact h9
    refine lv_aload_n hx hb dX4_canGo_9 rfl (lv_at hl 0 rfl) ?_
    refine k_get (C := RX4) (T := TX4) (N := 26) (ci := 5) (v := .int x) (fs := [.ref hM, .int (kb dr), .int (kb cl), .int bx, .int by9, .int x, .int y, .int ot, .int tw, .ref hH, .int (nI no), .int lim, .ref hA, .int (nI nr), .ref hP, .ref hPa, .ref hR, .ref hW, .ref hMe, .ref hV, .ref hDo, .ref hS, .int (nI ni), .int ret, .long clm, .int la]) hC hG hi_RX4 0 rfl rfl 5 (by decide) (List.mem_of_getElem? (i := 1) rfl) rfl rfl dX4_canGo_10 ?_
    refine lv_iload hx hb dX4_canGo_13 (lv_at hl 4 rfl) ?_
    refine lv_iload_n hx hb dX4_canGo_15 rfl (lv_at hl 1 rfl) ?_
    refine lv_imul hx hb dX4_canGo_16 ?_
    refine lv_iadd hx hb dX4_canGo_17 ?_
    refine lv_istore (lv' := [(5, .int (x + ((nI (j + 1)) * dx))), (0, .ref hm), (1, .int dx), (2, .int dy), (3, .int (nI st)), (4, .int (nI (j + 1)))]) hx hb dX4_canGo_18 hl (by decide) rfl (fun ls hl => ?_)
    refine lv_aload_n hx hb dX4_canGo_20 rfl (lv_at hl 1 rfl) ?_
    refine k_get (C := RX4) (T := TX4) (N := 26) (ci := 5) (v := .int y) (fs := [.ref hM, .int (kb dr), .int (kb cl), .int bx, .int by9, .int x, .int y, .int ot, .int tw, .ref hH, .int (nI no), .int lim, .ref hA, .int (nI nr), .ref hP, .ref hPa, .ref hR, .ref hW, .ref hMe, .ref hV, .ref hDo, .ref hS, .int (nI ni), .int ret, .long clm, .int la]) hC hG hi_RX4 0 rfl rfl 6 (by decide) (List.mem_of_getElem? (i := 2) rfl) rfl rfl dX4_canGo_21 ?_
    refine lv_iload hx hb dX4_canGo_24 (lv_at hl 5 rfl) ?_
    refine lv_iload_n hx hb dX4_canGo_26 rfl (lv_at hl 3 rfl) ?_
    refine lv_imul hx hb dX4_canGo_27 ?_
    refine lv_iadd hx hb dX4_canGo_28 ?_
    refine lv_istore (lv' := [(6, .int (y + ((nI (j + 1)) * dy))), (5, .int (x + ((nI (j + 1)) * dx))), (0, .ref hm), (1, .int dx), (2, .int dy), (3, .int (nI st)), (4, .int (nI (j + 1)))]) hx hb dX4_canGo_29 hl (by decide) rfl (fun ls hl => ?_)
    refine lv_iload hx hb dX4_canGo_31 (lv_at hl 1 rfl) ?_
    refine lv_iconst (v := 0) hx hb dX4_canGo_33 (by decide) ?_
    refine lv_bipush (v := 40) hx hb dX4_canGo_34 (by decide) ?_
    refine k_callS (nn := 3) hC hG (K_X4_in l hfl D cI cJ cZ cO z mi ((hm, .inr (5, [.ref hM, .int (kb dr), .int (kb cl), .int bx, .int by9, .int x, .int y, .int ot, .int tw, .ref hH, .int (nI no), .int lim, .ref hA, .int (nI nr), .ref hP, .ref hPa, .ref hR, .ref hW, .ref hMe, .ref hV, .ref hDo, .ref hS, .int (nI ni), .int ret, .long clm, .int la])) :: (hM, .inl (cZ, 1681, .inl (fun j9 => kb (mk j9)))) :: (hH, .inl (cI, 10, .inl fH)) :: (hA, .inl (cI, 36, .inl fA)) :: (hP, .inl (cI, 3, .inl fP)) :: (hPa, .inl (cI, 30, .inl fPa)) :: (hR, .inl (cI, 30, .inl fR)) :: (hW, .inl (cI, 30, .inl fW)) :: (hMe, .inl (cI, 30, .inl fMe)) :: (hV, .inl (cI, 30, .inl fV)) :: (hDo, .inl (cI, 30, .inl fDo)) :: (hS, .inl (cJ, 30, .inr (.inl fS))) :: rest) (x + ((nI (j + 1)) * dx)) 0 40) gX4_canGo_X4_in rfl rfl (by decide +kernel) ⟨(Nat.le_of_ble_eq_true rfl), (Nat.le_of_ble_eq_true rfl)⟩ hl.1 rfl (Nat.le_of_ble_eq_true rfl) dX4_canGo_36 ⟨(Nat.le_of_ble_eq_true rfl), (Nat.le_of_ble_eq_true rfl)⟩ (fun _ _ _ _ _ _ hp => hp.elim) (fun v9 u9 H locs hp hG => ?_)
    obtain ⟨rfl, rfl⟩ := hp
    refine W.widen (k := 0) (n := 0) (Nat.le_of_ble_eq_true rfl) (Nat.le_of_ble_eq_true rfl) ?_
    refine W.eq (g2 := F0 m 39 ls [.int (kb (kIn (x + ((nI (j + 1)) * dx)) 0 40))]) rfl ?_
    refine k_joinH (D := D) (A := A) (fun v4 : Int32 => F0 m 58 ls (.int v4 :: [])) (fun v4 => v4 = kb ((kIn (x + ((nI (j + 1)) * dx)) 0 40) && (kIn (y + ((nI (j + 1)) * dy)) 0 40))) ((hm, .inr (5, [.ref hM, .int (kb dr), .int (kb cl), .int bx, .int by9, .int x, .int y, .int ot, .int tw, .ref hH, .int (nI no), .int lim, .ref hA, .int (nI nr), .ref hP, .ref hPa, .ref hR, .ref hW, .ref hMe, .ref hV, .ref hDo, .ref hS, .int (nI ni), .int ret, .long clm, .int la])) :: (hM, .inl (cZ, 1681, .inl (fun j9 => kb (mk j9)))) :: (hH, .inl (cI, 10, .inl fH)) :: (hA, .inl (cI, 36, .inl fA)) :: (hP, .inl (cI, 3, .inl fP)) :: (hPa, .inl (cI, 30, .inl fPa)) :: (hR, .inl (cI, 30, .inl fR)) :: (hW, .inl (cI, 30, .inl fW)) :: (hMe, .inl (cI, 30, .inl fMe)) :: (hV, .inl (cI, 30, .inl fV)) :: (hDo, .inl (cI, 30, .inl fDo)) :: (hS, .inl (cJ, 30, .inr (.inl fS))) :: rest) ?_ (fun J3 => ?_)
    · intro v4 ev4 H locs hG
      have ev4 : v4 = kb ((kIn (x + ((nI (j + 1)) * dx)) 0 40) && (kIn (y + ((nI (j + 1)) * dy)) 0 40)) := ev4
      subst ev4
      refine lv_istore (lv' := [(7, .int (kb ((kIn (x + ((nI (j + 1)) * dx)) 0 40) && (kIn (y + ((nI (j + 1)) * dy)) 0 40)))), (6, .int (y + ((nI (j + 1)) * dy))), (5, .int (x + ((nI (j + 1)) * dx))), (0, .ref hm), (1, .int dx), (2, .int dy), (3, .int (nI st)), (4, .int (nI (j + 1)))]) hx hb dX4_canGo_58 hl (by decide) rfl (fun ls hl => ?_)
      refine lv_iload hx hb dX4_canGo_60 (lv_at hl 7 rfl) ?_
      refine lv_iload_n hx hb dX4_canGo_62 rfl (lv_at hl 6 rfl) ?_
      refine k_joinH (D := D) (A := A) (fun v7 : Int32 => F0 m 97 ls (.int v7 :: [])) (fun v7 => v7 = kb ((decide ((nI (j + 1)) = (nI st))) && ((decide ((x + ((nI (j + 1)) * dx)) = bx)) && ((decide ((y + ((nI (j + 1)) * dy)) = by9)) && (!(decide (ot < 3))))))) ((hm, .inr (5, [.ref hM, .int (kb dr), .int (kb cl), .int bx, .int by9, .int x, .int y, .int ot, .int tw, .ref hH, .int (nI no), .int lim, .ref hA, .int (nI nr), .ref hP, .ref hPa, .ref hR, .ref hW, .ref hMe, .ref hV, .ref hDo, .ref hS, .int (nI ni), .int ret, .long clm, .int la])) :: (hM, .inl (cZ, 1681, .inl (fun j9 => kb (mk j9)))) :: (hH, .inl (cI, 10, .inl fH)) :: (hA, .inl (cI, 36, .inl fA)) :: (hP, .inl (cI, 3, .inl fP)) :: (hPa, .inl (cI, 30, .inl fPa)) :: (hR, .inl (cI, 30, .inl fR)) :: (hW, .inl (cI, 30, .inl fW)) :: (hMe, .inl (cI, 30, .inl fMe)) :: (hV, .inl (cI, 30, .inl fV)) :: (hDo, .inl (cI, 30, .inl fDo)) :: (hS, .inl (cJ, 30, .inr (.inl fS))) :: rest) ?_ (fun J6 => ?_)
      · intro v7 ev7 H locs hG
        have ev7 : v7 = kb ((decide ((nI (j + 1)) = (nI st))) && ((decide ((x + ((nI (j + 1)) * dx)) = bx)) && ((decide ((y + ((nI (j + 1)) * dy)) = by9)) && (!(decide (ot < 3)))))) := ev7
        subst ev7
        refine lv_istore (lv' := [(8, .int (kb ((decide ((nI (j + 1)) = (nI st))) && ((decide ((x + ((nI (j + 1)) * dx)) = bx)) && ((decide ((y + ((nI (j + 1)) * dy)) = by9)) && (!(decide (ot < 3)))))))), (7, .int (kb ((kIn (x + ((nI (j + 1)) * dx)) 0 40) && (kIn (y + ((nI (j + 1)) * dy)) 0 40)))), (6, .int (y + ((nI (j + 1)) * dy))), (5, .int (x + ((nI (j + 1)) * dx))), (0, .ref hm), (1, .int dx), (2, .int dy), (3, .int (nI st)), (4, .int (nI (j + 1)))]) hx hb dX4_canGo_97 hl (by decide) rfl (fun ls hl => ?_)
        refine lv_iload hx hb dX4_canGo_99 (lv_at hl 1 rfl) ?_
        refine k_ifB_eq (tgt := 125) hx hb dX4_canGo_101 (by decide) (fun c_8 => ?_) (fun c_8 => ?_)
        · refine lv_iconst (v := 0) hx hb dX4_canGo_125 (by decide) ?_
          exact k_retz hC hr hG rfl ⟨by rw [nI_clamp (by omega), kCg_no (k := j + 1) (by omega) (by omega) (by unfold kOk; rw [c_8]; first | done | rfl)]; rfl, rfl⟩ (Nat.le_of_ble_eq_true rfl) (Nat.le_of_ble_eq_true rfl) dX4_canGo_126
        · have hix : kXi x y dx dy (j + 1) < 1681 := kIxb (k_andl c_8) (k_andr c_8)
          refine lv_aload_n hx hb dX4_canGo_104 rfl (lv_at hl 4 rfl) ?_
          refine k_get (C := RX4) (T := TX4) (N := 26) (ci := 5) (v := .ref hM) (fs := [.ref hM, .int (kb dr), .int (kb cl), .int bx, .int by9, .int x, .int y, .int ot, .int tw, .ref hH, .int (nI no), .int lim, .ref hA, .int (nI nr), .ref hP, .ref hPa, .ref hR, .ref hW, .ref hMe, .ref hV, .ref hDo, .ref hS, .int (nI ni), .int ret, .long clm, .int la]) hC hG hi_RX4 0 rfl rfl 0 (by decide) (List.mem_of_getElem? (i := 6) rfl) rfl rfl dX4_canGo_105 ?_
          refine lv_bipush (v := 41) hx hb dX4_canGo_108 (by decide) ?_
          refine lv_iload hx hb dX4_canGo_110 (lv_at hl 3 rfl) ?_
          refine lv_imul hx hb dX4_canGo_112 ?_
          refine lv_iload hx hb dX4_canGo_113 (lv_at hl 2 rfl) ?_
          refine lv_iadd hx hb dX4_canGo_115 ?_
          refine k_topi (y := nI (kXi x y dx dy (j + 1))) (kIx (k_andl c_8) (k_andr c_8)) ?_
          refine va_zald (f := (fun j9 => kb (mk j9))) hx hb hC.K hG.1 1 2 rfl rfl (vp_in_nI (by omega) (by decide)) dX4_canGo_116 ?_
          refine k_topi (y := kb (mk (kXi x y dx dy (j + 1)))) (congrArg (fun j9 => kb (mk j9)) (nI_clamp (by omega))) ?_
          refine k_ifB_eq (tgt := 127) hx hb dX4_canGo_117 (by decide) (fun c_9 => ?_) (fun c_9 => ?_)
          · refine lv_iinc (v := (nI (j + 1)) + 1) (lv' := [(4, .int ((nI (j + 1)) + 1)), (8, .int (kb ((decide ((nI (j + 1)) = (nI st))) && ((decide ((x + ((nI (j + 1)) * dx)) = bx)) && ((decide ((y + ((nI (j + 1)) * dy)) = by9)) && (!(decide (ot < 3)))))))), (7, .int (kb ((kIn (x + ((nI (j + 1)) * dx)) 0 40) && (kIn (y + ((nI (j + 1)) * dy)) 0 40)))), (6, .int (y + ((nI (j + 1)) * dy))), (5, .int (x + ((nI (j + 1)) * dx))), (0, .ref hm), (1, .int dx), (2, .int dy), (3, .int (nI st))]) hx hb dX4_canGo_127 hl (k := 8) rfl rfl (by decide) rfl (fun ls hl => ?_)
            refine lv_goto (tgt := 3) hx hb dX4_canGo_130 (by decide) ?_
            rw [nI_1] at hl
            exact ih (j + 1) (⟨by omega, by
                      show (kCg mk x y bx by9 ot dx dy (nI st) j && kOk mk x y bx by9 ot dx dy (nI st) (j + 1)) = true
                      rw [hI.2]; unfold kOk; rw [c_8, c_9]; first | done | rfl⟩) (by show st + 1 - (j + 1) < st + 1 - j; omega) _ _ _ hG (lv_sub hl [5, 6, 7, 8, 0] rfl)
          · refine lv_iload hx hb dX4_canGo_120 (lv_at hl 0 rfl) ?_
            refine k_ifB_ne (tgt := 127) hx hb dX4_canGo_122 (by decide) (fun c_10 => ?_) (fun c_10 => ?_)
            · refine lv_iinc (v := (nI (j + 1)) + 1) (lv' := [(4, .int ((nI (j + 1)) + 1)), (8, .int (kb ((decide ((nI (j + 1)) = (nI st))) && ((decide ((x + ((nI (j + 1)) * dx)) = bx)) && ((decide ((y + ((nI (j + 1)) * dy)) = by9)) && (!(decide (ot < 3)))))))), (7, .int (kb ((kIn (x + ((nI (j + 1)) * dx)) 0 40) && (kIn (y + ((nI (j + 1)) * dy)) 0 40)))), (6, .int (y + ((nI (j + 1)) * dy))), (5, .int (x + ((nI (j + 1)) * dx))), (0, .ref hm), (1, .int dx), (2, .int dy), (3, .int (nI st))]) hx hb dX4_canGo_127 hl (k := 8) rfl rfl (by decide) rfl (fun ls hl => ?_)
              refine lv_goto (tgt := 3) hx hb dX4_canGo_130 (by decide) ?_
              rw [nI_1] at hl
              exact ih (j + 1) (⟨by omega, by
                        show (kCg mk x y bx by9 ot dx dy (nI st) j && kOk mk x y bx by9 ot dx dy (nI st) (j + 1)) = true
                        rw [hI.2]; unfold kOk; rw [c_8, c_9, c_10]; first | done | rfl⟩) (by show st + 1 - (j + 1) < st + 1 - j; omega) _ _ _ hG (lv_sub hl [5, 6, 7, 8, 0] rfl)
            · refine lv_iconst (v := 0) hx hb dX4_canGo_125 (by decide) ?_
              exact k_retz hC hr hG rfl ⟨by rw [nI_clamp (by omega), kCg_no (k := j + 1) (by omega) (by omega) (by unfold kOk; rw [c_8, c_9, c_10]; first | done | rfl)]; rfl, rfl⟩ (Nat.le_of_ble_eq_true rfl) (Nat.le_of_ble_eq_true rfl) dX4_canGo_126
      refine k_icmp_ne (tgt := 96) hx hb dX4_canGo_63 (by decide) (fun c_5 => ?_) (fun c_5 => ?_)
      · refine lv_iconst (v := 0) hx hb dX4_canGo_96 (by decide) ?_
        exact J6 0 (by rw [c_5]; first | done | rfl) _ _ hG
      · refine lv_iload hx hb dX4_canGo_66 (lv_at hl 2 rfl) ?_
        refine lv_aload_n hx hb dX4_canGo_68 rfl (lv_at hl 3 rfl) ?_
        refine k_get (C := RX4) (T := TX4) (N := 26) (ci := 5) (v := .int bx) (fs := [.ref hM, .int (kb dr), .int (kb cl), .int bx, .int by9, .int x, .int y, .int ot, .int tw, .ref hH, .int (nI no), .int lim, .ref hA, .int (nI nr), .ref hP, .ref hPa, .ref hR, .ref hW, .ref hMe, .ref hV, .ref hDo, .ref hS, .int (nI ni), .int ret, .long clm, .int la]) hC hG hi_RX4 0 rfl rfl 3 (by decide) (List.mem_of_getElem? (i := 3) rfl) rfl rfl dX4_canGo_69 ?_
        refine k_icmp_ne (tgt := 96) hx hb dX4_canGo_72 (by decide) (fun c_11 => ?_) (fun c_11 => ?_)
        · refine lv_iconst (v := 0) hx hb dX4_canGo_96 (by decide) ?_
          exact J6 0 (by rw [c_5, c_11]; first | done | rfl) _ _ hG
        · refine lv_iload hx hb dX4_canGo_75 (lv_at hl 1 rfl) ?_
          refine lv_aload_n hx hb dX4_canGo_77 rfl (lv_at hl 3 rfl) ?_
          refine k_get (C := RX4) (T := TX4) (N := 26) (ci := 5) (v := .int by9) (fs := [.ref hM, .int (kb dr), .int (kb cl), .int bx, .int by9, .int x, .int y, .int ot, .int tw, .ref hH, .int (nI no), .int lim, .ref hA, .int (nI nr), .ref hP, .ref hPa, .ref hR, .ref hW, .ref hMe, .ref hV, .ref hDo, .ref hS, .int (nI ni), .int ret, .long clm, .int la]) hC hG hi_RX4 0 rfl rfl 4 (by decide) (List.mem_of_getElem? (i := 4) rfl) rfl rfl dX4_canGo_78 ?_
          refine k_icmp_ne (tgt := 96) hx hb dX4_canGo_81 (by decide) (fun c_12 => ?_) (fun c_12 => ?_)
          · refine lv_iconst (v := 0) hx hb dX4_canGo_96 (by decide) ?_
            exact J6 0 (by rw [c_5, c_11, c_12]; first | done | rfl) _ _ hG
          · refine lv_aload_n hx hb dX4_canGo_84 rfl (lv_at hl 3 rfl) ?_
            refine k_get (C := RX4) (T := TX4) (N := 26) (ci := 5) (v := .int ot) (fs := [.ref hM, .int (kb dr), .int (kb cl), .int bx, .int by9, .int x, .int y, .int ot, .int tw, .ref hH, .int (nI no), .int lim, .ref hA, .int (nI nr), .ref hP, .ref hPa, .ref hR, .ref hW, .ref hMe, .ref hV, .ref hDo, .ref hS, .int (nI ni), .int ret, .long clm, .int la]) hC hG hi_RX4 0 rfl rfl 7 (by decide) (List.mem_of_getElem? (i := 5) rfl) rfl rfl dX4_canGo_85 ?_
            refine lv_iconst (v := 3) hx hb dX4_canGo_88 (by decide) ?_
            refine k_icmp_lt (tgt := 96) hx hb dX4_canGo_89 (by decide) (fun c_13 => ?_) (fun c_13 => ?_)
            · refine lv_iconst (v := 0) hx hb dX4_canGo_96 (by decide) ?_
              exact J6 0 (by rw [c_5, c_11, c_12, c_13]; first | done | rfl) _ _ hG
            · refine lv_iconst (v := 1) hx hb dX4_canGo_92 (by decide) ?_
              refine lv_goto (tgt := 97) hx hb dX4_canGo_93 (by decide) ?_
              exact J6 1 (by rw [c_5, c_11, c_12, c_13]; first | done | rfl) _ _ hG
    refine k_ifB_eq (tgt := 57) hx hb dX4_canGo_39 (by decide) (fun c_2 => ?_) (fun c_2 => ?_)
    · refine lv_iconst (v := 0) hx hb dX4_canGo_57 (by decide) ?_
      exact J3 0 (by rw [c_2]; first | done | rfl) _ _ hG
    · refine lv_iload hx hb dX4_canGo_42 (lv_at hl 0 rfl) ?_
      refine lv_iconst (v := 0) hx hb dX4_canGo_44 (by decide) ?_
      refine lv_bipush (v := 40) hx hb dX4_canGo_45 (by decide) ?_
      refine k_callS (nn := 3) hC hG (K_X4_in l hfl D cI cJ cZ cO z mi ((hm, .inr (5, [.ref hM, .int (kb dr), .int (kb cl), .int bx, .int by9, .int x, .int y, .int ot, .int tw, .ref hH, .int (nI no), .int lim, .ref hA, .int (nI nr), .ref hP, .ref hPa, .ref hR, .ref hW, .ref hMe, .ref hV, .ref hDo, .ref hS, .int (nI ni), .int ret, .long clm, .int la])) :: (hM, .inl (cZ, 1681, .inl (fun j9 => kb (mk j9)))) :: (hH, .inl (cI, 10, .inl fH)) :: (hA, .inl (cI, 36, .inl fA)) :: (hP, .inl (cI, 3, .inl fP)) :: (hPa, .inl (cI, 30, .inl fPa)) :: (hR, .inl (cI, 30, .inl fR)) :: (hW, .inl (cI, 30, .inl fW)) :: (hMe, .inl (cI, 30, .inl fMe)) :: (hV, .inl (cI, 30, .inl fV)) :: (hDo, .inl (cI, 30, .inl fDo)) :: (hS, .inl (cJ, 30, .inr (.inl fS))) :: rest) (y + ((nI (j + 1)) * dy)) 0 40) gX4_canGo_X4_in rfl rfl (by decide +kernel) ⟨(Nat.le_of_ble_eq_true rfl), (Nat.le_of_ble_eq_true rfl)⟩ hl.1 rfl (Nat.le_of_ble_eq_true rfl) dX4_canGo_47 ⟨(Nat.le_of_ble_eq_true rfl), (Nat.le_of_ble_eq_true rfl)⟩ (fun _ _ _ _ _ _ hp => hp.elim) (fun v9 u9 H locs hp hG => ?_)
      obtain ⟨rfl, rfl⟩ := hp
      refine W.widen (k := 0) (n := 0) (Nat.le_of_ble_eq_true rfl) (Nat.le_of_ble_eq_true rfl) ?_
      refine W.eq (g2 := F0 m 50 ls [.int (kb (kIn (y + ((nI (j + 1)) * dy)) 0 40))]) rfl ?_
      refine k_ifB_eq (tgt := 57) hx hb dX4_canGo_50 (by decide) (fun c_14 => ?_) (fun c_14 => ?_)
      · refine lv_iconst (v := 0) hx hb dX4_canGo_57 (by decide) ?_
        exact J3 0 (by rw [c_2, c_14]; first | done | rfl) _ _ hG
      · refine lv_iconst (v := 1) hx hb dX4_canGo_53 (by decide) ?_
        refine lv_goto (tgt := 58) hx hb dX4_canGo_54 (by decide) ?_
        exact J3 1 (by rw [c_2, c_14]; first | done | rfl) _ _ hG

