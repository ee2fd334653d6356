set_option maxHeartbeats 4000000 in
set_option maxRecDepth 100000 in
/-- fills: the sums of all items -/
theorem K_X4_fills (l : Launch) (hfl : l.stackTraces = false) (D : va_G) (cI cJ cZ cO : ClassId) (z mi : Nat) (hm : Nat) (hM : Nat) (hH : Nat) (hA : Nat) (hP : Nat) (hPa : Nat) (hR : Nat) (hW : Nat) (hMe : Nat) (hV : Nat) (hDo : Nat) (hS : Nat) (mk : Nat → Bool) (fH : Nat → Int32) (fA : Nat → Int32) (fP : Nat → Int32) (fPa : Nat → Int32) (fR : Nat → Int32) (fW : Nat → Int32) (fMe : Nat → Int32) (fV : Nat → Int32) (fDo : Nat → Int32) (fS : Nat → Int64) (dr : Bool) (cl : Bool) (bx : Int32) (by9 : Int32) (x : Int32) (y : Int32) (ot : Int32) (tw : Int32) (no : Nat) (lim : Int32) (nr : Nat) (ni : Nat) (ret : Int32) (clm : Int64) (la : Int32) (rest : va_W) (hni : ni ≤ 30) (hit : kIt fPa fR ni) : kM l D (kTy cI cJ cZ cO) z mi yX4_fills wsX4_fills ({ frames := 1, cells := 0, slots := 0, locals := 21 } : Room) [.ref hm] ((hm, .inr (5, [.ref hM, .int (kb dr), .int (kb cl), .int bx, .int by9, .int x, .int y, .int ot, .int tw, .ref hH, .int (nI no), .int lim, .ref hA, .int (nI nr), .ref hP, .ref hPa, .ref hR, .ref hW, .ref hMe, .ref hV, .ref hDo, .ref hS, .int (nI ni), .int ret, .long clm, .int la])) :: (hM, .inl (cZ, 1681, .inl (fun j9 => kb (mk j9)))) :: (hH, .inl (cI, 10, .inl fH)) :: (hA, .inl (cI, 36, .inl fA)) :: (hP, .inl (cI, 3, .inl fP)) :: (hPa, .inl (cI, 30, .inl fPa)) :: (hR, .inl (cI, 30, .inl fR)) :: (hW, .inl (cI, 30, .inl fW)) :: (hMe, .inl (cI, 30, .inl fMe)) :: (hV, .inl (cI, 30, .inl fV)) :: (hDo, .inl (cI, 30, .inl fDo)) :: (hS, .inl (cJ, 30, .inr (.inl fS))) :: rest) (fun v u => v = none ∧ u = (hm, .inr (5, [.ref hM, .int (kb dr), .int (kb cl), .int bx, .int by9, .int x, .int y, .int ot, .int tw, .ref hH, .int (nI no), .int lim, .ref hA, .int (nI nr), .ref hP, .ref hPa, .ref hR, .ref hW, .ref hMe, .ref hV, .ref hDo, .ref hS, .int (nI ni), .int ret, .long clm, .int la])) :: (hM, .inl (cZ, 1681, .inl (fun j9 => kb (mk j9)))) :: (hH, .inl (cI, 10, .inl fH)) :: (hA, .inl (cI, 36, .inl fA)) :: (hP, .inl (cI, 3, .inl fP)) :: (hPa, .inl (cI, 30, .inl fPa)) :: (hR, .inl (cI, 30, .inl fR)) :: (hW, .inl (cI, 30, .inl fW)) :: (hMe, .inl (cI, 30, .inl fMe)) :: (hV, .inl (cI, 30, .inl fV)) :: (hDo, .inl (cI, 30, .inl fDo)) :: (hS, .inl (cJ, 30, .inr (.inl (kFl fPa fR fW fMe fV fA fP ni fS)))) :: rest) (fun _ _ => False) := by
  refine kM.of hfl (cc := cX4_fills) (maxL := 4) (ret := none) (by decide) rfl (Nat.le_of_ble_eq_true rfl) ?_
  intro p e s m args below meth c A ls hC hr hmn hG hl
  have hx := hC.x
  have hb := hC.b
  have hl : lv_has ls 4 [(0, .ref hm)] := hl
  have hi_RX4 : ∀ w ∈ wsX40, w ∈ wsX4_fills := fun w h => List.mem_cons_of_mem _ (List.mem_append_right _ h)
  refine lv_iconst (v := 0) hx hb dX4_fills_0 (by decide) ?_
  refine lv_istore_n (lv' := [(1, .int 0), (0, .ref hm)]) hx hb dX4_fills_1 rfl hl (by decide) rfl (fun ls hl => ?_)
  rw [← kZr0 fS] at hG
  refine k_loop (σ := Nat) (fun q9 => q9 ≤ ni) (fun q9 => ni - q9) (fun q9 => (hm, .inr (5, [.ref hM, .int (kb dr), .int (kb cl), .int bx, .int by9, .int x, .int y, .int ot, .int tw, .ref hH, .int (nI no), .int lim, .ref hA, .int (nI nr), .ref hP, .ref hPa, .ref hR, .ref hW, .ref hMe, .ref hV, .ref hDo, .ref hS, .int (nI ni), .int ret, .long clm, .int la])) :: (hM, .inl (cZ, 1681, .inl (fun j9 => kb (mk j9)))) :: (hH, .inl (cI, 10, .inl fH)) :: (hA, .inl (cI, 36, .inl fA)) :: (hP, .inl (cI, 3, .inl fP)) :: (hPa, .inl (cI, 30, .inl fPa)) :: (hR, .inl (cI, 30, .inl fR)) :: (hW, .inl (cI, 30, .inl fW)) :: (hMe, .inl (cI, 30, .inl fMe)) :: (hV, .inl (cI, 30, .inl fV)) :: (hDo, .inl (cI, 30, .inl fDo)) :: (hS, .inl (cJ, 30, .inr (.inl (kZr fS q9)))) :: rest) (fun q9 => [(0, .ref hm), (1, .int (nI q9))]) 2 [] ?_ 0 (Nat.zero_le _) hG (lv_sub hl [1, 0] rfl)
  intro q9
  obtain ⟨k, rfl⟩ : ∃ z9, z9 = q9 := ⟨_, rfl⟩
  intro hI ih H locs ls hG hl
  have hI : k ≤ ni := hI
  have hG : kG D A s ((hm, .inr (5, [.ref hM, .int (kb dr), .int (kb cl), .int bx, .int by9, .int x, .int y, .int ot, .int tw, .ref hH, .int (nI no), .int lim, .ref hA, .int (nI nr), .ref hP, .ref hPa, .ref hR, .ref hW, .ref hMe, .ref hV, .ref hDo, .ref hS, .int (nI ni), .int ret, .long clm, .int la])) :: (hM, .inl (cZ, 1681, .inl (fun j9 => kb (mk j9)))) :: (hH, .inl (cI, 10, .inl fH)) :: (hA, .inl (cI, 36, .inl fA)) :: (hP, .inl (cI, 3, .inl fP)) :: (hPa, .inl (cI, 30, .inl fPa)) :: (hR, .inl (cI, 30, .inl fR)) :: (hW, .inl (cI, 30, .inl fW)) :: (hMe, .inl (cI, 30, .inl fMe)) :: (hV, .inl (cI, 30, .inl fV)) :: (hDo, .inl (cI, 30, .inl fDo)) :: (hS, .inl (cJ, 30, .inr (.inl (kZr fS k)))) :: rest) H locs := hG
  have hl : lv_has ls 4 [(0, .ref hm), (1, .int (nI k))] := hl
  refine lv_iload_n hx hb dX4_fills_2 rfl (lv_at hl 1 rfl) ?_
  refine lv_aload_n hx hb dX4_fills_3 rfl (lv_at hl 0 rfl) ?_
  refine k_get (C := RX4) (T := TX4) (N := 26) (ci := 5) (v := .int (nI ni)) (fs := [.ref hM, .int (kb dr), .int (kb cl), .int bx, .int by9, .int x, .int y, .int ot, .int tw, .ref hH, .int (nI no), .int lim, .ref hA, .int (nI nr), .ref hP, .ref hPa, .ref hR, .ref hW, .ref hMe, .ref hV, .ref hDo, .ref hS, .int (nI ni), .int ret, .long clm, .int la]) hC hG hi_RX4 0 rfl rfl 22 (by decide) (List.mem_of_getElem? (i := 1) rfl) rfl rfl dX4_fills_4 ?_
  refine k_icmp_ge (tgt := 23) hx hb dX4_fills_7 (by decide) (fun c_1 => ?_) (fun c_1 => ?_)
  · have hk : k = ni := by
      rcases Nat.lt_or_ge k ni with h9 | h9
      · exact absurd (of_decide_eq_true c_1) (nI_ge h9 (by omega))
      · omega
    rw [hk] at hG
    refine lv_aload_n hx hb dX4_fills_23 rfl (lv_at hl 0 rfl) ?_
    refine k_get (C := RX4) (T := TX4) (N := 26) (ci := 5) (v := .int (nI ni)) (fs := [.ref hM, .int (kb dr), .int (kb cl), .int bx, .int by9, .int x, .int y, .int ot, .int tw, .ref hH, .int (nI no), .int lim, .ref hA, .int (nI nr), .ref hP, .ref hPa, .ref hR, .ref hW, .ref hMe, .ref hV, .ref hDo, .ref hS, .int (nI ni), .int ret, .long clm, .int la]) hC hG hi_RX4 0 rfl rfl 22 (by decide) (List.mem_of_getElem? (i := 1) rfl) rfl rfl dX4_fills_24 ?_
    refine lv_iconst (v := 1) hx hb dX4_fills_27 (by decide) ?_
    refine lv_isub hx hb dX4_fills_28 ?_
    refine lv_istore_n (lv' := [(1, .int ((nI ni) - 1)), (0, .ref hm)]) hx hb dX4_fills_29 rfl hl (by decide) rfl (fun ls hl => ?_)
    refine k_loop (σ := Nat × (Nat → Int64)) (fun q9 => q9.1 ≤ ni ∧ kFd fPa fR fW fMe fV fA fP q9.1 q9.2 = kFd fPa fR fW fMe fV fA fP ni (kZr fS ni)) (fun q9 => q9.1) (fun q9 => (hm, .inr (5, [.ref hM, .int (kb dr), .int (kb cl), .int bx, .int by9, .int x, .int y, .int ot, .int tw, .ref hH, .int (nI no), .int lim, .ref hA, .int (nI nr), .ref hP, .ref hPa, .ref hR, .ref hW, .ref hMe, .ref hV, .ref hDo, .ref hS, .int (nI ni), .int ret, .long clm, .int la])) :: (hM, .inl (cZ, 1681, .inl (fun j9 => kb (mk j9)))) :: (hH, .inl (cI, 10, .inl fH)) :: (hA, .inl (cI, 36, .inl fA)) :: (hP, .inl (cI, 3, .inl fP)) :: (hPa, .inl (cI, 30, .inl fPa)) :: (hR, .inl (cI, 30, .inl fR)) :: (hW, .inl (cI, 30, .inl fW)) :: (hMe, .inl (cI, 30, .inl fMe)) :: (hV, .inl (cI, 30, .inl fV)) :: (hDo, .inl (cI, 30, .inl fDo)) :: (hS, .inl (cJ, 30, .inr (.inl q9.2))) :: rest) (fun q9 => [(0, .ref hm), (1, .int (nI q9.1 - 1))]) 30 [] ?_ ⟨ni, kZr fS ni⟩ (⟨Nat.le_refl _, rfl⟩) hG (lv_sub hl [1, 0] rfl)
    intro q9
    obtain ⟨j, S⟩ := q9
    intro hI ih H locs ls hG hl
    have hI : j ≤ ni ∧ kFd fPa fR fW fMe fV fA fP j S = kFd fPa fR fW fMe fV fA fP ni (kZr fS ni) := hI
    have hG : kG D A s ((hm, .inr (5, [.ref hM, .int (kb dr), .int (kb cl), .int bx, .int by9, .int x, .int y, .int ot, .int tw, .ref hH, .int (nI no), .int lim, .ref hA, .int (nI nr), .ref hP, .ref hPa, .ref hR, .ref hW, .ref hMe, .ref hV, .ref hDo, .ref hS, .int (nI ni), .int ret, .long clm, .int la])) :: (hM, .inl (cZ, 1681, .inl (fun j9 => kb (mk j9)))) :: (hH, .inl (cI, 10, .inl fH)) :: (hA, .inl (cI, 36, .inl fA)) :: (hP, .inl (cI, 3, .inl fP)) :: (hPa, .inl (cI, 30, .inl fPa)) :: (hR, .inl (cI, 30, .inl fR)) :: (hW, .inl (cI, 30, .inl fW)) :: (hMe, .inl (cI, 30, .inl fMe)) :: (hV, .inl (cI, 30, .inl fV)) :: (hDo, .inl (cI, 30, .inl fDo)) :: (hS, .inl (cJ, 30, .inr (.inl S))) :: rest) H locs := hG
    have hl : lv_has ls 4 [(0, .ref hm), (1, .int (nI j - 1))] := hl
    refine lv_iload_n hx hb dX4_fills_30 rfl (lv_at hl 1 rfl) ?_
    refine k_if_lt (tgt := 122) hx hb dX4_fills_31 (by decide) (fun c_2 => ?_) (fun c_2 => ?_)
    · obtain rfl := k_zero (by omega) c_2
      exact k_retv hC hr hG ⟨rfl, by unfold kFl; rw [← hI.2]; rfl⟩ (Nat.le_of_ble_eq_true rfl) (Nat.le_of_ble_eq_true rfl) dX4_fills_122
    · obtain ⟨k, rfl⟩ := k_succ (by omega) c_2
      rw [nI_pred] at hl
      refine lv_aload_n hx hb dX4_fills_34 rfl (lv_at hl 0 rfl) ?_
      refine lv_iload_n hx hb dX4_fills_35 rfl (lv_at hl 1 rfl) ?_
      refine k_callV (nn := 1) (C := RX4) hC hG 0 rfl (ci := 5) rfl (K_X4_isHeading l hfl D cI cJ cZ cO z mi hm hM hH hA hP hPa hR hW hMe hV hDo hS mk fH fA fP fPa fR fW fMe fV fDo S dr cl bx by9 x y ot tw no lim nr ni ret clm la rest (nI k) (vp_in_nI (by omega) (by decide))) gX4_fills_X4_isHeading rfl rfl (by decide +kernel) ⟨(Nat.le_of_ble_eq_true rfl), (Nat.le_of_ble_eq_true rfl)⟩ hl.1 rfl (Nat.le_of_ble_eq_true rfl) dX4_fills_36 ⟨(Nat.le_of_ble_eq_true rfl), (Nat.le_of_ble_eq_true rfl)⟩ (fun _ _ _ _ _ _ hp => hp.elim) (fun v9 u9 H locs hp hG => ?_)
      obtain ⟨rfl, rfl⟩ := hp
      refine W.widen (k := 0) (n := 0) (Nat.le_of_ble_eq_true rfl) (Nat.le_of_ble_eq_true rfl) ?_
      refine W.eq (g2 := F0 m 39 ls [.int (kb (decide (fR (nI k).toNatClampNeg = (-1))))]) rfl ?_
      refine k_topi (y := kb (decide ((fR k) = (-1)))) (by rw [nI_clamp (by omega)]) ?_
      refine k_ifB_ne (tgt := 86) hx hb dX4_fills_39 (by decide) (fun c_3 => ?_) (fun c_3 => ?_)
      · refine lv_aload_n hx hb dX4_fills_86 rfl (lv_at hl 0 rfl) ?_
        refine k_get (C := RX4) (T := TX4) (N := 26) (ci := 5) (v := .ref hPa) (fs := [.ref hM, .int (kb dr), .int (kb cl), .int bx, .int by9, .int x, .int y, .int ot, .int tw, .ref hH, .int (nI no), .int lim, .ref hA, .int (nI nr), .ref hP, .ref hPa, .ref hR, .ref hW, .ref hMe, .ref hV, .ref hDo, .ref hS, .int (nI ni), .int ret, .long clm, .int la]) hC hG hi_RX4 0 rfl rfl 15 (by decide) (List.mem_of_getElem? (i := 5) rfl) rfl rfl dX4_fills_87 ?_
        refine lv_iload_n hx hb dX4_fills_90 rfl (lv_at hl 1 rfl) ?_
        refine va_iald (f := fPa) hx hb hC.K hG.1 5 0 rfl rfl (vp_in_nI (by omega) (by decide)) dX4_fills_91 ?_
        refine k_topi (y := fPa k) (congrArg fPa (nI_clamp (by omega))) ?_
        refine lv_iconst (v := (-1)) hx hb dX4_fills_92 (by decide) ?_
        refine k_icmp_eq (tgt := 116) hx hb dX4_fills_93 (by decide) (fun c_4 => ?_) (fun c_4 => ?_)
        · refine lv_iinc (v := (nI k) + (-1)) (lv' := [(1, .int ((nI k) + (-1))), (0, .ref hm)]) hx hb dX4_fills_116 hl (k := 1) rfl rfl (by decide) rfl (fun ls hl => ?_)
          refine lv_goto (tgt := 30) hx hb dX4_fills_119 (by decide) ?_
          rw [k_m1] at hl
          exact ih ⟨k, S⟩ (⟨by omega, by
                              have e9 : kFp fPa k (kFs fPa fR fW fMe fV fA fP k S) = S := by unfold kFp kFs; rw [c_3, c_4]; rfl
                              rw [← e9]; exact hI.2⟩) (Nat.lt_succ_self k) _ _ _ hG (lv_sub hl [1, 0] rfl)
        · refine lv_aload_n hx hb dX4_fills_96 rfl (lv_at hl 0 rfl) ?_
          refine k_get (C := RX4) (T := TX4) (N := 26) (ci := 5) (v := .ref hS) (fs := [.ref hM, .int (kb dr), .int (kb cl), .int bx, .int by9, .int x, .int y, .int ot, .int tw, .ref hH, .int (nI no), .int lim, .ref hA, .int (nI nr), .ref hP, .ref hPa, .ref hR, .ref hW, .ref hMe, .ref hV, .ref hDo, .ref hS, .int (nI ni), .int ret, .long clm, .int la]) hC hG hi_RX4 0 rfl rfl 21 (by decide) (List.mem_of_getElem? (i := 2) rfl) rfl rfl dX4_fills_97 ?_
          refine lv_aload_n hx hb dX4_fills_100 rfl (lv_at hl 0 rfl) ?_
          refine k_get (C := RX4) (T := TX4) (N := 26) (ci := 5) (v := .ref hPa) (fs := [.ref hM, .int (kb dr), .int (kb cl), .int bx, .int by9, .int x, .int y, .int ot, .int tw, .ref hH, .int (nI no), .int lim, .ref hA, .int (nI nr), .ref hP, .ref hPa, .ref hR, .ref hW, .ref hMe, .ref hV, .ref hDo, .ref hS, .int (nI ni), .int ret, .long clm, .int la]) hC hG hi_RX4 0 rfl rfl 15 (by decide) (List.mem_of_getElem? (i := 5) rfl) rfl rfl dX4_fills_101 ?_
          refine lv_iload_n hx hb dX4_fills_104 rfl (lv_at hl 1 rfl) ?_
          refine va_iald (f := fPa) hx hb hC.K hG.1 5 0 rfl rfl (vp_in_nI (by omega) (by decide)) dX4_fills_105 ?_
          refine k_topi (y := fPa k) (congrArg fPa (nI_clamp (by omega))) ?_
          refine lv_dup2_11 hx hb dX4_fills_106 rfl rfl ?_
          refine va_lald (f := S) hx hb hC.K hG.1 11 1 rfl rfl (kIt_par hit hni (by omega) c_4) dX4_fills_107 ?_
          refine lv_aload_n hx hb dX4_fills_108 rfl (lv_at hl 0 rfl) ?_
          refine k_get (C := RX4) (T := TX4) (N := 26) (ci := 5) (v := .ref hS) (fs := [.ref hM, .int (kb dr), .int (kb cl), .int bx, .int by9, .int x, .int y, .int ot, .int tw, .ref hH, .int (nI no), .int lim, .ref hA, .int (nI nr), .ref hP, .ref hPa, .ref hR, .ref hW, .ref hMe, .ref hV, .ref hDo, .ref hS, .int (nI ni), .int ret, .long clm, .int la]) hC hG hi_RX4 0 rfl rfl 21 (by decide) (List.mem_of_getElem? (i := 2) rfl) rfl rfl dX4_fills_109 ?_
          refine lv_iload_n hx hb dX4_fills_112 rfl (lv_at hl 1 rfl) ?_
          refine va_lald (f := S) hx hb hC.K hG.1 11 1 rfl rfl (vp_in_nI (by omega) (by decide)) dX4_fills_113 ?_
          refine k_topl (y := S k) (congrArg S (nI_clamp (by omega))) ?_
          refine lv_ladd hx hb dX4_fills_114 ?_
          refine va_last (f := S) (x := ((S (fPa k).toNatClampNeg) + (S k))) hx hb hC.K hG.1 hG.2.1 hG.2.2 11 1 rfl rfl (kIt_par hit hni (by omega) c_4) dX4_fills_115 (fun H locs h1 h2 h3 => ?_)
          have hG : kG D A s ((hm, .inr (5, [.ref hM, .int (kb dr), .int (kb cl), .int bx, .int by9, .int x, .int y, .int ot, .int tw, .ref hH, .int (nI no), .int lim, .ref hA, .int (nI nr), .ref hP, .ref hPa, .ref hR, .ref hW, .ref hMe, .ref hV, .ref hDo, .ref hS, .int (nI ni), .int ret, .long clm, .int la])) :: (hM, .inl (cZ, 1681, .inl (fun j9 => kb (mk j9)))) :: (hH, .inl (cI, 10, .inl fH)) :: (hA, .inl (cI, 36, .inl fA)) :: (hP, .inl (cI, 3, .inl fP)) :: (hPa, .inl (cI, 30, .inl fPa)) :: (hR, .inl (cI, 30, .inl fR)) :: (hW, .inl (cI, 30, .inl fW)) :: (hMe, .inl (cI, 30, .inl fMe)) :: (hV, .inl (cI, 30, .inl fV)) :: (hDo, .inl (cI, 30, .inl fDo)) :: (hS, .inl (cJ, 30, .inr (.inl (vp_updL S (fPa k).toNatClampNeg ((S (fPa k).toNatClampNeg) + (S k)))))) :: rest) H locs := ⟨h1, h2, h3⟩
          refine lv_iinc (v := (nI k) + (-1)) (lv' := [(1, .int ((nI k) + (-1))), (0, .ref hm)]) hx hb dX4_fills_116 hl (k := 1) rfl rfl (by decide) rfl (fun ls hl => ?_)
          refine lv_goto (tgt := 30) hx hb dX4_fills_119 (by decide) ?_
          rw [k_m1] at hl
          exact ih ⟨k, (vp_updL S (fPa k).toNatClampNeg ((S (fPa k).toNatClampNeg) + (S k)))⟩ (⟨by omega, by
                              have e9 : kFp fPa k (kFs fPa fR fW fMe fV fA fP k S) = vp_updL S (fPa k).toNatClampNeg ((S (fPa k).toNatClampNeg) + (S k)) := by unfold kFp kFs; rw [c_3, c_4]; rfl
                              rw [← e9]; exact hI.2⟩) (Nat.lt_succ_self k) _ _ _ hG (lv_sub hl [1, 0] rfl)
      · refine lv_aload_n hx hb dX4_fills_42 rfl (lv_at hl 0 rfl) ?_
        refine lv_iload_n hx hb dX4_fills_43 rfl (lv_at hl 1 rfl) ?_
        refine k_callV (nn := 1) (C := RX4) hC hG 0 rfl (ci := 5) rfl (K_X4_quantities l hfl D cI cJ cZ cO z mi hm hM hH hA hP hPa hR hW hMe hV hDo hS mk fH fA fP fPa fR fW fMe fV fDo S dr cl bx by9 x y ot tw no lim nr ni ret clm la rest (nI k) (vp_in_nI (by omega) (by decide))) gX4_fills_X4_quantities rfl rfl (by decide +kernel) ⟨(Nat.le_of_ble_eq_true rfl), (Nat.le_of_ble_eq_true rfl)⟩ hl.1 rfl (Nat.le_of_ble_eq_true rfl) dX4_fills_44 ⟨(Nat.le_of_ble_eq_true rfl), (Nat.le_of_ble_eq_true rfl)⟩ (fun _ _ _ _ _ _ hp => hp.elim) (fun v9 u9 H locs hp hG => ?_)
        obtain ⟨rfl, rfl⟩ := hp
        refine W.widen (k := 0) (n := 0) (Nat.le_of_ble_eq_true rfl) (Nat.le_of_ble_eq_true rfl) ?_
        refine W.eq (g2 := F0 m 47 ls [.int (kQt (fMe (nI k).toNatClampNeg) (fW (nI k).toNatClampNeg))]) rfl ?_
        refine k_topi (y := kQt (fMe k) (fW k)) (by rw [nI_clamp (by omega)]) ?_
        refine lv_i2l hx hb dX4_fills_47 rfl ?_
        refine lv_aload_n hx hb dX4_fills_48 rfl (lv_at hl 0 rfl) ?_
        refine k_get (C := RX4) (T := TX4) (N := 26) (ci := 5) (v := .ref hV) (fs := [.ref hM, .int (kb dr), .int (kb cl), .int bx, .int by9, .int x, .int y, .int ot, .int tw, .ref hH, .int (nI no), .int lim, .ref hA, .int (nI nr), .ref hP, .ref hPa, .ref hR, .ref hW, .ref hMe, .ref hV, .ref hDo, .ref hS, .int (nI ni), .int ret, .long clm, .int la]) hC hG hi_RX4 0 rfl rfl 19 (by decide) (List.mem_of_getElem? (i := 3) rfl) rfl rfl dX4_fills_49 ?_
        refine lv_iload_n hx hb dX4_fills_52 rfl (lv_at hl 1 rfl) ?_
        refine va_iald (f := fV) hx hb hC.K hG.1 9 0 rfl rfl (vp_in_nI (by omega) (by decide)) dX4_fills_53 ?_
        refine k_topi (y := fV k) (congrArg fV (nI_clamp (by omega))) ?_
        refine lv_i2l hx hb dX4_fills_54 rfl ?_
        refine lv_ladd hx hb dX4_fills_55 ?_
        refine lv_lstore_n (lv' := [(2, .long (((kQt (fMe k) (fW k)).toInt64) + ((fV k).toInt64))), (0, .ref hm), (1, .int (nI k))]) hx hb dX4_fills_56 rfl hl (by decide) rfl (fun ls hl => ?_)
        refine lv_aload_n hx hb dX4_fills_57 rfl (lv_at hl 1 rfl) ?_
        refine k_get (C := RX4) (T := TX4) (N := 26) (ci := 5) (v := .ref hS) (fs := [.ref hM, .int (kb dr), .int (kb cl), .int bx, .int by9, .int x, .int y, .int ot, .int tw, .ref hH, .int (nI no), .int lim, .ref hA, .int (nI nr), .ref hP, .ref hPa, .ref hR, .ref hW, .ref hMe, .ref hV, .ref hDo, .ref hS, .int (nI ni), .int ret, .long clm, .int la]) hC hG hi_RX4 0 rfl rfl 21 (by decide) (List.mem_of_getElem? (i := 2) rfl) rfl rfl dX4_fills_58 ?_
        refine lv_iload_n hx hb dX4_fills_61 rfl (lv_at hl 2 rfl) ?_
        refine lv_lload_n hx hb dX4_fills_62 rfl (lv_at hl 0 rfl) ?_
        refine lv_lconst (v := 0) hx hb dX4_fills_63 (by decide) ?_
        refine W.lcmp hx hb dX4_fills_64 ?_
        refine k_joinH (D := D) (A := A) (fun v7 : Int64 => F0 m 85 ls (.long v7 :: [.int (nI k), .ref hS])) (fun v7 => v7 = bif decide ((0 : Int32) ≤ (lg_cmp (((kQt (fMe k) (fW k)).toInt64) + ((fV k).toInt64)) 0)) then ((((kQt (fMe k) (fW k)).toInt64) + ((fV k).toInt64)) * ((kCt fA fP (fR k).toNatClampNeg).toInt64)) else 0) ((hm, .inr (5, [.ref hM, .int (kb dr), .int (kb cl), .int bx, .int by9, .int x, .int y, .int ot, .int tw, .ref hH, .int (nI no), .int lim, .ref hA, .int (nI nr), .ref hP, .ref hPa, .ref hR, .ref hW, .ref hMe, .ref hV, .ref hDo, .ref hS, .int (nI ni), .int ret, .long clm, .int la])) :: (hM, .inl (cZ, 1681, .inl (fun j9 => kb (mk j9)))) :: (hH, .inl (cI, 10, .inl fH)) :: (hA, .inl (cI, 36, .inl fA)) :: (hP, .inl (cI, 3, .inl fP)) :: (hPa, .inl (cI, 30, .inl fPa)) :: (hR, .inl (cI, 30, .inl fR)) :: (hW, .inl (cI, 30, .inl fW)) :: (hMe, .inl (cI, 30, .inl fMe)) :: (hV, .inl (cI, 30, .inl fV)) :: (hDo, .inl (cI, 30, .inl fDo)) :: (hS, .inl (cJ, 30, .inr (.inl S))) :: rest) ?_ (fun J6 => ?_)
        · intro v7 ev7 H locs hG
          have ev7 : v7 = bif decide ((0 : Int32) ≤ (lg_cmp (((kQt (fMe k) (fW k)).toInt64) + ((fV k).toInt64)) 0)) then ((((kQt (fMe k) (fW k)).toInt64) + ((fV k).toInt64)) * ((kCt fA fP (fR k).toNatClampNeg).toInt64)) else 0 := ev7
          subst ev7
          refine va_last (f := S) (x := (bif decide ((0 : Int32) ≤ (lg_cmp (((kQt (fMe k) (fW k)).toInt64) + ((fV k).toInt64)) 0)) then ((((kQt (fMe k) (fW k)).toInt64) + ((fV k).toInt64)) * ((kCt fA fP (fR k).toNatClampNeg).toInt64)) else 0)) hx hb hC.K hG.1 hG.2.1 hG.2.2 11 1 rfl rfl (vp_in_nI (by omega) (by decide)) dX4_fills_85 (fun H locs h1 h2 h3 => ?_)
          have hG : kG D A s ((hm, .inr (5, [.ref hM, .int (kb dr), .int (kb cl), .int bx, .int by9, .int x, .int y, .int ot, .int tw, .ref hH, .int (nI no), .int lim, .ref hA, .int (nI nr), .ref hP, .ref hPa, .ref hR, .ref hW, .ref hMe, .ref hV, .ref hDo, .ref hS, .int (nI ni), .int ret, .long clm, .int la])) :: (hM, .inl (cZ, 1681, .inl (fun j9 => kb (mk j9)))) :: (hH, .inl (cI, 10, .inl fH)) :: (hA, .inl (cI, 36, .inl fA)) :: (hP, .inl (cI, 3, .inl fP)) :: (hPa, .inl (cI, 30, .inl fPa)) :: (hR, .inl (cI, 30, .inl fR)) :: (hW, .inl (cI, 30, .inl fW)) :: (hMe, .inl (cI, 30, .inl fMe)) :: (hV, .inl (cI, 30, .inl fV)) :: (hDo, .inl (cI, 30, .inl fDo)) :: (hS, .inl (cJ, 30, .inr (.inl (vp_updL S (nI k).toNatClampNeg (bif decide ((0 : Int32) ≤ (lg_cmp (((kQt (fMe k) (fW k)).toInt64) + ((fV k).toInt64)) 0)) then ((((kQt (fMe k) (fW k)).toInt64) + ((fV k).toInt64)) * ((kCt fA fP (fR k).toNatClampNeg).toInt64)) else 0))))) :: rest) H locs := ⟨h1, h2, h3⟩
          rw [nI_clamp (n := k) (by omega)] at hG
          refine lv_aload_n hx hb dX4_fills_86 rfl (lv_at hl 1 rfl) ?_
          refine k_get (C := RX4) (T := TX4) (N := 26) (ci := 5) (v := .ref hPa) (fs := [.ref hM, .int (kb dr), .int (kb cl), .int bx, .int by9, .int x, .int y, .int ot, .int tw, .ref hH, .int (nI no), .int lim, .ref hA, .int (nI nr), .ref hP, .ref hPa, .ref hR, .ref hW, .ref hMe, .ref hV, .ref hDo, .ref hS, .int (nI ni), .int ret, .long clm, .int la]) hC hG hi_RX4 0 rfl rfl 15 (by decide) (List.mem_of_getElem? (i := 5) rfl) rfl rfl dX4_fills_87 ?_
          refine lv_iload_n hx hb dX4_fills_90 rfl (lv_at hl 2 rfl) ?_
          refine va_iald (f := fPa) hx hb hC.K hG.1 5 0 rfl rfl (vp_in_nI (by omega) (by decide)) dX4_fills_91 ?_
          refine k_topi (y := fPa k) (congrArg fPa (nI_clamp (by omega))) ?_
          refine lv_iconst (v := (-1)) hx hb dX4_fills_92 (by decide) ?_
          refine k_icmp_eq (tgt := 116) hx hb dX4_fills_93 (by decide) (fun c_8 => ?_) (fun c_8 => ?_)
          · refine lv_iinc (v := (nI k) + (-1)) (lv' := [(1, .int ((nI k) + (-1))), (2, .long (((kQt (fMe k) (fW k)).toInt64) + ((fV k).toInt64))), (0, .ref hm)]) hx hb dX4_fills_116 hl (k := 2) rfl rfl (by decide) rfl (fun ls hl => ?_)
            refine lv_goto (tgt := 30) hx hb dX4_fills_119 (by decide) ?_
            rw [k_m1] at hl
            exact ih ⟨k, (vp_updL S k (bif decide ((0 : Int32) ≤ (lg_cmp (((kQt (fMe k) (fW k)).toInt64) + ((fV k).toInt64)) 0)) then ((((kQt (fMe k) (fW k)).toInt64) + ((fV k).toInt64)) * ((kCt fA fP (fR k).toNatClampNeg).toInt64)) else 0))⟩ (⟨by omega, by
                                have e9 : kFp fPa k (kFs fPa fR fW fMe fV fA fP k S) = vp_updL S k (bif decide ((0 : Int32) ≤ (lg_cmp (((kQt (fMe k) (fW k)).toInt64) + ((fV k).toInt64)) 0)) then ((((kQt (fMe k) (fW k)).toInt64) + ((fV k).toInt64)) * ((kCt fA fP (fR k).toNatClampNeg).toInt64)) else 0) := by unfold kFp kFs; rw [c_3, c_8]; rfl
                                rw [← e9]; exact hI.2⟩) (Nat.lt_succ_self k) _ _ _ hG (lv_sub hl [2, 0] rfl)
          · refine lv_aload_n hx hb dX4_fills_96 rfl (lv_at hl 1 rfl) ?_
            refine k_get (C := RX4) (T := TX4) (N := 26) (ci := 5) (v := .ref hS) (fs := [.ref hM, .int (kb dr), .int (kb cl), .int bx, .int by9, .int x, .int y, .int ot, .int tw, .ref hH, .int (nI no), .int lim, .ref hA, .int (nI nr), .ref hP, .ref hPa, .ref hR, .ref hW, .ref hMe, .ref hV, .ref hDo, .ref hS, .int (nI ni), .int ret, .long clm, .int la]) hC hG hi_RX4 0 rfl rfl 21 (by decide) (List.mem_of_getElem? (i := 2) rfl) rfl rfl dX4_fills_97 ?_
            refine lv_aload_n hx hb dX4_fills_100 rfl (lv_at hl 1 rfl) ?_
            refine k_get (C := RX4) (T := TX4) (N := 26) (ci := 5) (v := .ref hPa) (fs := [.ref hM, .int (kb dr), .int (kb cl), .int bx, .int by9, .int x, .int y, .int ot, .int tw, .ref hH, .int (nI no), .int lim, .ref hA, .int (nI nr), .ref hP, .ref hPa, .ref hR, .ref hW, .ref hMe, .ref hV, .ref hDo, .ref hS, .int (nI ni), .int ret, .long clm, .int la]) hC hG hi_RX4 0 rfl rfl 15 (by decide) (List.mem_of_getElem? (i := 5) rfl) rfl rfl dX4_fills_101 ?_
            refine lv_iload_n hx hb dX4_fills_104 rfl (lv_at hl 2 rfl) ?_
            refine va_iald (f := fPa) hx hb hC.K hG.1 5 0 rfl rfl (vp_in_nI (by omega) (by decide)) dX4_fills_105 ?_
            refine k_topi (y := fPa k) (congrArg fPa (nI_clamp (by omega))) ?_
            refine lv_dup2_11 hx hb dX4_fills_106 rfl rfl ?_
            refine va_lald (f := (vp_updL S k (bif decide ((0 : Int32) ≤ (lg_cmp (((kQt (fMe k) (fW k)).toInt64) + ((fV k).toInt64)) 0)) then ((((kQt (fMe k) (fW k)).toInt64) + ((fV k).toInt64)) * ((kCt fA fP (fR k).toNatClampNeg).toInt64)) else 0))) hx hb hC.K hG.1 11 1 rfl rfl (kIt_par hit hni (by omega) c_8) dX4_fills_107 ?_
            refine lv_aload_n hx hb dX4_fills_108 rfl (lv_at hl 1 rfl) ?_
            refine k_get (C := RX4) (T := TX4) (N := 26) (ci := 5) (v := .ref hS) (fs := [.ref hM, .int (kb dr), .int (kb cl), .int bx, .int by9, .int x, .int y, .int ot, .int tw, .ref hH, .int (nI no), .int lim, .ref hA, .int (nI nr), .ref hP, .ref hPa, .ref hR, .ref hW, .ref hMe, .ref hV, .ref hDo, .ref hS, .int (nI ni), .int ret, .long clm, .int la]) hC hG hi_RX4 0 rfl rfl 21 (by decide) (List.mem_of_getElem? (i := 2) rfl) rfl rfl dX4_fills_109 ?_
            refine lv_iload_n hx hb dX4_fills_112 rfl (lv_at hl 2 rfl) ?_
            refine va_lald (f := (vp_updL S k (bif decide ((0 : Int32) ≤ (lg_cmp (((kQt (fMe k) (fW k)).toInt64) + ((fV k).toInt64)) 0)) then ((((kQt (fMe k) (fW k)).toInt64) + ((fV k).toInt64)) * ((kCt fA fP (fR k).toNatClampNeg).toInt64)) else 0))) hx hb hC.K hG.1 11 1 rfl rfl (vp_in_nI (by omega) (by decide)) dX4_fills_113 ?_
            refine k_topl (y := (vp_updL S k (bif decide ((0 : Int32) ≤ (lg_cmp (((kQt (fMe k) (fW k)).toInt64) + ((fV k).toInt64)) 0)) then ((((kQt (fMe k) (fW k)).toInt64) + ((fV k).toInt64)) * ((kCt fA fP (fR k).toNatClampNeg).toInt64)) else 0)) k) (congrArg (vp_updL S k (bif decide ((0 : Int32) ≤ (lg_cmp (((kQt (fMe k) (fW k)).toInt64) + ((fV k).toInt64)) 0)) then ((((kQt (fMe k) (fW k)).toInt64) + ((fV k).toInt64)) * ((kCt fA fP (fR k).toNatClampNeg).toInt64)) else 0)) (nI_clamp (by omega))) ?_
            refine lv_ladd hx hb dX4_fills_114 ?_
            refine va_last (f := (vp_updL S k (bif decide ((0 : Int32) ≤ (lg_cmp (((kQt (fMe k) (fW k)).toInt64) + ((fV k).toInt64)) 0)) then ((((kQt (fMe k) (fW k)).toInt64) + ((fV k).toInt64)) * ((kCt fA fP (fR k).toNatClampNeg).toInt64)) else 0))) (x := (((vp_updL S k (bif decide ((0 : Int32) ≤ (lg_cmp (((kQt (fMe k) (fW k)).toInt64) + ((fV k).toInt64)) 0)) then ((((kQt (fMe k) (fW k)).toInt64) + ((fV k).toInt64)) * ((kCt fA fP (fR k).toNatClampNeg).toInt64)) else 0)) (fPa k).toNatClampNeg) + ((vp_updL S k (bif decide ((0 : Int32) ≤ (lg_cmp (((kQt (fMe k) (fW k)).toInt64) + ((fV k).toInt64)) 0)) then ((((kQt (fMe k) (fW k)).toInt64) + ((fV k).toInt64)) * ((kCt fA fP (fR k).toNatClampNeg).toInt64)) else 0)) k))) hx hb hC.K hG.1 hG.2.1 hG.2.2 11 1 rfl rfl (kIt_par hit hni (by omega) c_8) dX4_fills_115 (fun H locs h1 h2 h3 => ?_)
            have hG : kG D A s ((hm, .inr (5, [.ref hM, .int (kb dr), .int (kb cl), .int bx, .int by9, .int x, .int y, .int ot, .int tw, .ref hH, .int (nI no), .int lim, .ref hA, .int (nI nr), .ref hP, .ref hPa, .ref hR, .ref hW, .ref hMe, .ref hV, .ref hDo, .ref hS, .int (nI ni), .int ret, .long clm, .int la])) :: (hM, .inl (cZ, 1681, .inl (fun j9 => kb (mk j9)))) :: (hH, .inl (cI, 10, .inl fH)) :: (hA, .inl (cI, 36, .inl fA)) :: (hP, .inl (cI, 3, .inl fP)) :: (hPa, .inl (cI, 30, .inl fPa)) :: (hR, .inl (cI, 30, .inl fR)) :: (hW, .inl (cI, 30, .inl fW)) :: (hMe, .inl (cI, 30, .inl fMe)) :: (hV, .inl (cI, 30, .inl fV)) :: (hDo, .inl (cI, 30, .inl fDo)) :: (hS, .inl (cJ, 30, .inr (.inl (vp_updL (vp_updL S k (bif decide ((0 : Int32) ≤ (lg_cmp (((kQt (fMe k) (fW k)).toInt64) + ((fV k).toInt64)) 0)) then ((((kQt (fMe k) (fW k)).toInt64) + ((fV k).toInt64)) * ((kCt fA fP (fR k).toNatClampNeg).toInt64)) else 0)) (fPa k).toNatClampNeg (((vp_updL S k (bif decide ((0 : Int32) ≤ (lg_cmp (((kQt (fMe k) (fW k)).toInt64) + ((fV k).toInt64)) 0)) then ((((kQt (fMe k) (fW k)).toInt64) + ((fV k).toInt64)) * ((kCt fA fP (fR k).toNatClampNeg).toInt64)) else 0)) (fPa k).toNatClampNeg) + ((vp_updL S k (bif decide ((0 : Int32) ≤ (lg_cmp (((kQt (fMe k) (fW k)).toInt64) + ((fV k).toInt64)) 0)) then ((((kQt (fMe k) (fW k)).toInt64) + ((fV k).toInt64)) * ((kCt fA fP (fR k).toNatClampNeg).toInt64)) else 0)) k)))))) :: rest) H locs := ⟨h1, h2, h3⟩
            refine lv_iinc (v := (nI k) + (-1)) (lv' := [(1, .int ((nI k) + (-1))), (2, .long (((kQt (fMe k) (fW k)).toInt64) + ((fV k).toInt64))), (0, .ref hm)]) hx hb dX4_fills_116 hl (k := 2) rfl rfl (by decide) rfl (fun ls hl => ?_)
            refine lv_goto (tgt := 30) hx hb dX4_fills_119 (by decide) ?_
            rw [k_m1] at hl
            exact ih ⟨k, (vp_updL (vp_updL S k (bif decide ((0 : Int32) ≤ (lg_cmp (((kQt (fMe k) (fW k)).toInt64) + ((fV k).toInt64)) 0)) then ((((kQt (fMe k) (fW k)).toInt64) + ((fV k).toInt64)) * ((kCt fA fP (fR k).toNatClampNeg).toInt64)) else 0)) (fPa k).toNatClampNeg (((vp_updL S k (bif decide ((0 : Int32) ≤ (lg_cmp (((kQt (fMe k) (fW k)).toInt64) + ((fV k).toInt64)) 0)) then ((((kQt (fMe k) (fW k)).toInt64) + ((fV k).toInt64)) * ((kCt fA fP (fR k).toNatClampNeg).toInt64)) else 0)) (fPa k).toNatClampNeg) + ((vp_updL S k (bif decide ((0 : Int32) ≤ (lg_cmp (((kQt (fMe k) (fW k)).toInt64) + ((fV k).toInt64)) 0)) then ((((kQt (fMe k) (fW k)).toInt64) + ((fV k).toInt64)) * ((kCt fA fP (fR k).toNatClampNeg).toInt64)) else 0)) k)))⟩ (⟨by omega, by
                                have e9 : kFp fPa k (kFs fPa fR fW fMe fV fA fP k S) = vp_updL (vp_updL S k (bif decide ((0 : Int32) ≤ (lg_cmp (((kQt (fMe k) (fW k)).toInt64) + ((fV k).toInt64)) 0)) then ((((kQt (fMe k) (fW k)).toInt64) + ((fV k).toInt64)) * ((kCt fA fP (fR k).toNatClampNeg).toInt64)) else 0)) (fPa k).toNatClampNeg (((vp_updL S k (bif decide ((0 : Int32) ≤ (lg_cmp (((kQt (fMe k) (fW k)).toInt64) + ((fV k).toInt64)) 0)) then ((((kQt (fMe k) (fW k)).toInt64) + ((fV k).toInt64)) * ((kCt fA fP (fR k).toNatClampNeg).toInt64)) else 0)) (fPa k).toNatClampNeg) + ((vp_updL S k (bif decide ((0 : Int32) ≤ (lg_cmp (((kQt (fMe k) (fW k)).toInt64) + ((fV k).toInt64)) 0)) then ((((kQt (fMe k) (fW k)).toInt64) + ((fV k).toInt64)) * ((kCt fA fP (fR k).toNatClampNeg).toInt64)) else 0)) k)) := by unfold kFp kFs; rw [c_3, c_8]; rfl
                                rw [← e9]; exact hI.2⟩) (Nat.lt_succ_self k) _ _ _ hG (lv_sub hl [2, 0] rfl)
        refine k_if_ge (tgt := 72) hx hb dX4_fills_65 (by decide) (fun c_5 => ?_) (fun c_5 => ?_)
        · refine lv_lload_n hx hb dX4_fills_72 rfl (lv_at hl 0 rfl) ?_
          refine lv_aload_n hx hb dX4_fills_73 rfl (lv_at hl 1 rfl) ?_
          refine lv_aload_n hx hb dX4_fills_74 rfl (lv_at hl 1 rfl) ?_
          refine k_get (C := RX4) (T := TX4) (N := 26) (ci := 5) (v := .ref hR) (fs := [.ref hM, .int (kb dr), .int (kb cl), .int bx, .int by9, .int x, .int y, .int ot, .int tw, .ref hH, .int (nI no), .int lim, .ref hA, .int (nI nr), .ref hP, .ref hPa, .ref hR, .ref hW, .ref hMe, .ref hV, .ref hDo, .ref hS, .int (nI ni), .int ret, .long clm, .int la]) hC hG hi_RX4 0 rfl rfl 16 (by decide) (List.mem_of_getElem? (i := 4) rfl) rfl rfl dX4_fills_75 ?_
          refine lv_iload_n hx hb dX4_fills_78 rfl (lv_at hl 2 rfl) ?_
          refine va_iald (f := fR) hx hb hC.K hG.1 6 0 rfl rfl (vp_in_nI (by omega) (by decide)) dX4_fills_79 ?_
          refine k_topi (y := fR k) (congrArg fR (nI_clamp (by omega))) ?_
          refine k_callV (nn := 1) (C := RX4) hC hG 0 rfl (ci := 5) rfl (K_X4_cents l hfl D cI cJ cZ cO z mi hm hM hH hA hP hPa hR hW hMe hV hDo hS mk fH fA fP fPa fR fW fMe fV fDo S dr cl bx by9 x y ot tw no lim nr ni ret clm la rest (fR k) (kIt_rate hit (by omega) c_3)) gX4_fills_X4_cents rfl rfl (by decide +kernel) ⟨(Nat.le_of_ble_eq_true rfl), (Nat.le_of_ble_eq_true rfl)⟩ hl.1 rfl (Nat.le_of_ble_eq_true rfl) dX4_fills_80 ⟨(Nat.le_of_ble_eq_true rfl), (Nat.le_of_ble_eq_true rfl)⟩ (fun _ _ _ _ _ _ hp => hp.elim) (fun v9 u9 H locs hp hG => ?_)
          obtain ⟨rfl, rfl⟩ := hp
          refine W.widen (k := 0) (n := 0) (Nat.le_of_ble_eq_true rfl) (Nat.le_of_ble_eq_true rfl) ?_
          refine W.eq (g2 := F0 m 83 ls [.int (kCt fA fP (fR k).toNatClampNeg), .long (((kQt (fMe k) (fW k)).toInt64) + ((fV k).toInt64)), .int (nI k), .ref hS]) rfl ?_
          refine lv_i2l hx hb dX4_fills_83 rfl ?_
          refine lv_lmul hx hb dX4_fills_84 ?_
          exact J6 ((((kQt (fMe k) (fW k)).toInt64) + ((fV k).toInt64)) * ((kCt fA fP (fR k).toNatClampNeg).toInt64)) (by rw [c_5]; first | done | rfl) _ _ hG
        · refine lv_lconst (v := 0) hx hb dX4_fills_68 (by decide) ?_
          refine lv_goto (tgt := 85) hx hb dX4_fills_69 (by decide) ?_
          exact J6 0 (by rw [c_5]; first | done | rfl) _ _ hG
  · have hk : k < ni := by
      rcases Nat.lt_or_ge k ni with h9 | h9
      · exact h9
      · exact absurd ((of_decide_eq_false c_1)) (fun z => z (nI_le h9 (by omega)))
    refine lv_aload_n hx hb dX4_fills_10 rfl (lv_at hl 0 rfl) ?_
    refine k_get (C := RX4) (T := TX4) (N := 26) (ci := 5) (v := .ref hS) (fs := [.ref hM, .int (kb dr), .int (kb cl), .int bx, .int by9, .int x, .int y, .int ot, .int tw, .ref hH, .int (nI no), .int lim, .ref hA, .int (nI nr), .ref hP, .ref hPa, .ref hR, .ref hW, .ref hMe, .ref hV, .ref hDo, .ref hS, .int (nI ni), .int ret, .long clm, .int la]) hC hG hi_RX4 0 rfl rfl 21 (by decide) (List.mem_of_getElem? (i := 2) rfl) rfl rfl dX4_fills_11 ?_
    refine lv_iload_n hx hb dX4_fills_14 rfl (lv_at hl 1 rfl) ?_
    refine lv_lconst (v := 0) hx hb dX4_fills_15 (by decide) ?_
    refine va_last (f := (kZr fS k)) (x := 0) hx hb hC.K hG.1 hG.2.1 hG.2.2 11 1 rfl rfl (vp_in_nI (by omega) (by decide)) dX4_fills_16 (fun H locs h1 h2 h3 => ?_)
    have hG : kG D A s ((hm, .inr (5, [.ref hM, .int (kb dr), .int (kb cl), .int bx, .int by9, .int x, .int y, .int ot, .int tw, .ref hH, .int (nI no), .int lim, .ref hA, .int (nI nr), .ref hP, .ref hPa, .ref hR, .ref hW, .ref hMe, .ref hV, .ref hDo, .ref hS, .int (nI ni), .int ret, .long clm, .int la])) :: (hM, .inl (cZ, 1681, .inl (fun j9 => kb (mk j9)))) :: (hH, .inl (cI, 10, .inl fH)) :: (hA, .inl (cI, 36, .inl fA)) :: (hP, .inl (cI, 3, .inl fP)) :: (hPa, .inl (cI, 30, .inl fPa)) :: (hR, .inl (cI, 30, .inl fR)) :: (hW, .inl (cI, 30, .inl fW)) :: (hMe, .inl (cI, 30, .inl fMe)) :: (hV, .inl (cI, 30, .inl fV)) :: (hDo, .inl (cI, 30, .inl fDo)) :: (hS, .inl (cJ, 30, .inr (.inl (vp_updL (kZr fS k) (nI k).toNatClampNeg 0)))) :: rest) H locs := ⟨h1, h2, h3⟩
    rw [nI_clamp (n := k) (by omega)] at hG
    refine lv_iinc (v := (nI k) + 1) (lv' := [(1, .int ((nI k) + 1)), (0, .ref hm)]) hx hb dX4_fills_17 hl (k := 1) rfl rfl (by decide) rfl (fun ls hl => ?_)
    refine lv_goto (tgt := 2) hx hb dX4_fills_20 (by decide) ?_
    rw [nI_1] at hl
    rw [kZrS] at hG
    exact ih (k + 1) (show k + 1 ≤ ni from hk) (by show ni - (k + 1) < ni - k; omega) _ _ _ hG (lv_sub hl [1, 0] rfl)

