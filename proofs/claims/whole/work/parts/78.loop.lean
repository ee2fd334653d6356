/-! ===== the law's switch and loop ===== -/
theorem kJ.up {cI cJ cZ cO : ClassId} {z hs hm k : Nat} {wc wm : va_W} (h : kJ cI cJ cZ cO z hs hm k wc wm) : kJ cI cJ cZ cO z hs hm (k + 1) wc wm := by
  obtain ⟨hd, ho, hwn, hq, BO, BW, fQ, oc, bx, by9, x, y, ot, tw, bg, cl, lr, li, hpr, lim, ret, clm, fP, rest, ni, ia, pi, par, rt, ra, wa, me, va, dn, nr, pr, fA, kli, kei, edi, leni, mci, gi, klr, ker, edr, lenr, mcr, gr, hM, hH, hA, hP, hPa, hR, hW, hMe, hV, hDo, hS, mk, fH, fS, cl2, ot2, la, h1, h2, h3, h4, h5, h6⟩ := h
  exact ⟨hd, ho, hwn, hq, BO, BW, fQ, oc, bx, by9, x, y, ot, tw, bg, cl, lr, li, hpr, lim, ret, clm, fP, rest, ni, ia, pi, par, rt, ra, wa, me, va, dn, nr, pr, fA, kli, kei, edi, leni, mci, gi, klr, ker, edr, lenr, mcr, gr, hM, hH, hA, hP, hPa, hR, hW, hMe, hV, hDo, hS, mk, fH, fS, cl2, ot2, la, h1, h2, h3, h4.up, h5.up, h6⟩
theorem k_and31 (x : Int32) : ∃ j, j < 32 ∧ x &&& 31 = nI j := by
  refine ⟨x.toBitVec.toNat % 32, Nat.mod_lt _ (by decide), Int32.toBitVec_inj.mp ?_⟩
  apply BitVec.eq_of_toNat_eq
  show (x.toBitVec &&& 31#32).toNat = (BitVec.ofNat 32 (x.toBitVec.toNat % 32)).toNat
  rw [BitVec.toNat_and, BitVec.toNat_ofNat, BitVec.toNat_ofNat, show 31 % 2 ^ 32 = 2 ^ 5 - 1 from rfl, Nat.and_two_pow_sub_one_eq_mod]
  omega
theorem k_cont {L k : Nat} (hL : L ≤ 2048) (hk : k ≤ 513) (h : decide (Int32.ofNat L - 4 < nI (4 * k)) = false) : 4 * k + 4 ≤ L := by
  have h1 := of_decide_eq_false h
  have e4 : (4 : Int32).toInt = 4 := rfl
  have e1 : (Int32.ofNat L).toInt = (L : Int) := nI_toInt (by omega)
  rw [k_i32lt, t32_sub (by omega) (by omega), e1, e4, nI_toInt (by omega)] at h1
  omega

set_option maxHeartbeats 8000000 in
set_option maxRecDepth 100000 in
theorem C_sw (l : Launch) (hfl : l.stackTraces = false) (D : va_G) (cI cJ cZ cO : ClassId) (z mi : Nat) {p : Program} {e : Env} {s : State} {m : MethodId} {below : List Frame} {meth : Method} {c : Code} {Q : State → Prop} {A : Nat → Prop} {hh : List (Nat × Nat × Nat × Nat)} {b L : Nat} {xs : Nat → Int32} {hs hm hO : Nat} {H : Heap} {locs : List Loc} {cells slots : Nat} {ls : Array Slot} {g : Nat → Int64} {k : Nat} {wc wm : va_W} (hC : kH p l s m #[Value.ref b] meth c cL_law RL wsL_law 8 hh D (kTy cI cJ cZ cO) z mi A) (hX : va_X b L xs s s.heap) (hbl : b < s.heap.size) (hbA : ¬ A b) (hk : k < 512) (hL : 4 * k + 4 ≤ L) (hL2 : L ≤ 2048) (j : Nat) (hj : j < 32)
    (hJ : kJ cI cJ cZ cO z hs hm k wc wm) (hG : kG D A s ((wc ++ [(hO, .inl (cJ, 1, .inr (.inl g)))]) ++ wm) H locs) (hl : lv_has ls 8 [(0, .ref b), (1, .ref hs), (2, .ref hm), (3, .ref hO), (4, .int (nI (4 * k)))]) (hcs : cells + 20 ≤ 600000) (hss : slots + 200 ≤ 7000000)
    (hK : ∀ (wc' wm' : va_W) (g' : Nat → Int64) (H : Heap) (locs : List Loc) (ls : Array Slot), kJ cI cJ cZ cO z hs hm (k + 1) wc' wm' → kG D A s ((wc' ++ [(hO, .inl (cJ, 1, .inr (.inl g')))]) ++ wm') H locs → lv_has ls 8 [(0, .ref b), (1, .ref hs), (2, .ref hm), (3, .ref hO), (4, .int (nI (4 * k)))] → W p l e room_1 s m #[Value.ref b] below meth c H locs (cells + 10) (slots + 150) Q (F0 m 1410 ls [])) :
    W p l e room_1 s m #[Value.ref b] below meth c H locs cells slots Q (F0 m 39 ls [.int (nI j)]) := by
  obtain ⟨hd, ho, hwn, hq, BO, BW, fQ, oc, bx, by9, x, y, ot, tw, bg, cl, lr, li, hpr, lim, ret, clm, fP, rest, ni, ia, pi, par, rt, ra, wa, me, va, dn, nr, pr, fA, kli, kei, edi, leni, mci, gi, klr, ker, edr, lenr, mcr, gr, hM, hH, hA, hP, hPa, hR, hW, hMe, hV, hDo, hS, mk, fH, fS, cl2, ot2, la, hJ⟩ := hJ
  obtain ⟨rfl, hSh, rfl, hDw, hIs, hlim⟩ := hJ
  have hx := hC.x
  have hb := hC.b
  by_cases e0 : j = 0
  · subst e0
    refine lv_tableIn (off := 113) (tgt := 152) hx hb dL_law_39 (by decide) (by decide) rfl (by decide) ?_
    exact C_begin l hfl D cI cJ cZ cO z mi _ _ _ hC hX hbl hbA hk hL hL2 rfl rfl rfl hSh hDw hIs hlim hG hl hcs hss hK
  by_cases e1 : j = 1
  · subst e1
    refine lv_tableIn (off := 161) (tgt := 200) hx hb dL_law_39 (by decide) (by decide) rfl (by decide) ?_
    exact C_wall l hfl D cI cJ cZ cO z mi _ _ _ hC hX hbl hbA hk hL hL2 rfl rfl rfl hSh hDw hIs hlim hG hl hcs hss hK
  by_cases e2 : j = 2
  · subst e2
    refine lv_tableIn (off := 236) (tgt := 275) hx hb dL_law_39 (by decide) (by decide) rfl (by decide) ?_
    exact C_opening l hfl D cI cJ cZ cO z mi _ _ _ hC hX hbl hbA hk hL hL2 rfl rfl rfl hSh hDw hIs hlim hG hl hcs hss hK
  by_cases e3 : j = 3
  · subst e3
    refine lv_tableIn (off := 304) (tgt := 343) hx hb dL_law_39 (by decide) (by decide) rfl (by decide) ?_
    exact C_limit l hfl D cI cJ cZ cO z mi _ _ _ hC hX hbl hbA hk hL hL2 rfl rfl rfl hSh hDw hIs hlim hG hl hcs hss hK
  by_cases e4 : j = 4
  · subst e4
    refine lv_tableIn (off := 360) (tgt := 399) hx hb dL_law_39 (by decide) (by decide) rfl (by decide) ?_
    exact C_area l hfl D cI cJ cZ cO z mi _ _ _ hC hX hbl hbA hk hL hL2 rfl rfl rfl hSh hDw hIs hlim hG hl hcs hss hK
  by_cases e5 : j = 5
  · subst e5
    refine lv_tableIn (off := 404) (tgt := 443) hx hb dL_law_39 (by decide) (by decide) rfl (by decide) ?_
    exact C_areaByStrips l hfl D cI cJ cZ cO z mi _ _ _ hC hX hbl hbA hk hL hL2 rfl rfl rfl hSh hDw hIs hlim hG hl hcs hss hK
  by_cases e6 : j = 6
  · subst e6
    refine lv_tableIn (off := 448) (tgt := 487) hx hb dL_law_39 (by decide) (by decide) rfl (by decide) ?_
    exact C_netArea l hfl D cI cJ cZ cO z mi _ _ _ hC hX hbl hbA hk hL hL2 rfl rfl rfl hSh hDw hIs hlim hG hl hcs hss hK
  by_cases e7 : j = 7
  · subst e7
    refine lv_tableIn (off := 492) (tgt := 531) hx hb dL_law_39 (by decide) (by decide) rfl (by decide) ?_
    exact C_rate l hfl D cI cJ cZ cO z mi _ _ _ hC hX hbl hbA hk hL hL2 rfl rfl rfl hSh hDw hIs hlim hG hl hcs hss hK
  by_cases e8 : j = 8
  · subst e8
    refine lv_tableIn (off := 572) (tgt := 611) hx hb dL_law_39 (by decide) (by decide) rfl (by decide) ?_
    exact C_price l hfl D cI cJ cZ cO z mi _ _ _ hC hX hbl hbA hk hL hL2 rfl rfl rfl hSh hDw hIs hlim hG hl hcs hss hK
  by_cases e9 : j = 9
  · subst e9
    refine lv_tableIn (off := 640) (tgt := 679) hx hb dL_law_39 (by decide) (by decide) rfl (by decide) ?_
    exact C_rateOf l hfl D cI cJ cZ cO z mi _ _ _ hC hX hbl hbA hk hL hL2 rfl rfl rfl hSh hDw hIs hlim hG hl hcs hss hK
  by_cases e10 : j = 10
  · subst e10
    refine lv_tableIn (off := 696) (tgt := 735) hx hb dL_law_39 (by decide) (by decide) rfl (by decide) ?_
    exact C_heading l hfl D cI cJ cZ cO z mi _ _ _ hC hX hbl hbA hk hL hL2 rfl rfl rfl hSh hDw hIs hlim hG hl hcs hss hK
  by_cases e11 : j = 11
  · subst e11
    refine lv_tableIn (off := 752) (tgt := 791) hx hb dL_law_39 (by decide) (by decide) rfl (by decide) ?_
    exact C_leaf l hfl D cI cJ cZ cO z mi _ _ _ hC hX hbl hbA hk hL hL2 rfl rfl rfl hSh hDw hIs hlim hG hl hcs hss hK
  by_cases e12 : j = 12
  · subst e12
    refine lv_tableIn (off := 832) (tgt := 871) hx hb dL_law_39 (by decide) (by decide) rfl (by decide) ?_
    exact C_items l hfl D cI cJ cZ cO z mi _ _ _ hC hX hbl hbA hk hL hL2 rfl rfl rfl hSh hDw hIs hlim hG hl hcs hss hK
  by_cases e13 : j = 13
  · subst e13
    refine lv_tableIn (off := 845) (tgt := 884) hx hb dL_law_39 (by decide) (by decide) rfl (by decide) ?_
    exact C_take l hfl D cI cJ cZ cO z mi _ _ _ hC hX hbl hbA hk hL hL2 rfl rfl rfl hSh hDw hIs hlim hG hl hcs hss hK
  by_cases e14 : j = 14
  · subst e14
    refine lv_tableIn (off := 913) (tgt := 952) hx hb dL_law_39 (by decide) (by decide) rfl (by decide) ?_
    exact C_vary l hfl D cI cJ cZ cO z mi _ _ _ hC hX hbl hbA hk hL hL2 rfl rfl rfl hSh hDw hIs hlim hG hl hcs hss hK
  by_cases e15 : j = 15
  · subst e15
    refine lv_tableIn (off := 981) (tgt := 1020) hx hb dL_law_39 (by decide) (by decide) rfl (by decide) ?_
    exact C_quantity l hfl D cI cJ cZ cO z mi _ _ _ hC hX hbl hbA hk hL hL2 rfl rfl rfl hSh hDw hIs hlim hG hl hcs hss hK
  by_cases e16 : j = 16
  · subst e16
    refine lv_tableIn (off := 1037) (tgt := 1076) hx hb dL_law_39 (by decide) (by decide) rfl (by decide) ?_
    exact C_sum l hfl D cI cJ cZ cO z mi _ _ _ hC hX hbl hbA hk hL hL2 rfl rfl rfl hSh hDw hIs hlim hG hl hcs hss hK
  by_cases e17 : j = 17
  · subst e17
    refine lv_tableIn (off := 1092) (tgt := 1131) hx hb dL_law_39 (by decide) (by decide) rfl (by decide) ?_
    exact C_total l hfl D cI cJ cZ cO z mi _ _ _ hC hX hbl hbA hk hL hL2 rfl rfl rfl hSh hDw hIs hlim hG hl hcs hss hK
  by_cases e18 : j = 18
  · subst e18
    refine lv_tableIn (off := 1106) (tgt := 1145) hx hb dL_law_39 (by decide) (by decide) rfl (by decide) ?_
    exact C_dearest l hfl D cI cJ cZ cO z mi _ _ _ hC hX hbl hbA hk hL hL2 rfl rfl rfl hSh hDw hIs hlim hG hl hcs hss hK
  by_cases e19 : j = 19
  · subst e19
    refine lv_tableIn (off := 1162) (tgt := 1201) hx hb dL_law_39 (by decide) (by decide) rfl (by decide) ?_
    exact C_done l hfl D cI cJ cZ cO z mi _ _ _ hC hX hbl hbA hk hL hL2 rfl rfl rfl hSh hDw hIs hlim hG hl hcs hss hK
  by_cases e20 : j = 20
  · subst e20
    refine lv_tableIn (off := 1230) (tgt := 1269) hx hb dL_law_39 (by decide) (by decide) rfl (by decide) ?_
    exact C_retention l hfl D cI cJ cZ cO z mi _ _ _ hC hX hbl hbA hk hL hL2 rfl rfl rfl hSh hDw hIs hlim hG hl hcs hss hK
  by_cases e21 : j = 21
  · subst e21
    refine lv_tableIn (off := 1286) (tgt := 1325) hx hb dL_law_39 (by decide) (by decide) rfl (by decide) ?_
    exact C_worth l hfl D cI cJ cZ cO z mi _ _ _ hC hX hbl hbA hk hL hL2 rfl rfl rfl hSh hDw hIs hlim hG hl hcs hss hK
  by_cases e22 : j = 22
  · subst e22
    refine lv_tableIn (off := 1300) (tgt := 1339) hx hb dL_law_39 (by decide) (by decide) rfl (by decide) ?_
    exact C_due l hfl D cI cJ cZ cO z mi _ _ _ hC hX hbl hbA hk hL hL2 rfl rfl rfl hSh hDw hIs hlim hG hl hcs hss hK
  by_cases e23 : j = 23
  · subst e23
    refine lv_tableIn (off := 1314) (tgt := 1353) hx hb dL_law_39 (by decide) (by decide) rfl (by decide) ?_
    exact C_claim l hfl D cI cJ cZ cO z mi _ _ _ hC hX hbl hbA hk hL hL2 rfl rfl rfl hSh hDw hIs hlim hG hl hcs hss hK
  by_cases e24 : j = 24
  · subst e24
    refine lv_tableIn (off := 1357) (tgt := 1396) hx hb dL_law_39 (by decide) (by decide) rfl (by decide) ?_
    exact C_claimed l hfl D cI cJ cZ cO z mi _ _ _ hC hX hbl hbA hk hL hL2 rfl rfl rfl hSh hDw hIs hlim hG hl hcs hss hK
  refine lv_tableOut (tgt := 1410) hx hb dL_law_39 (Or.inr (by rw [nI_toInt (by omega)]; omega)) (by decide) ?_
  refine W.widen (k := cells + 10) (n := slots + 150) (by omega) (by omega) ?_
  exact hK _ _ g H locs ls ⟨hd, ho, hwn, hq, BO, BW, fQ, oc, bx, by9, x, y, ot, tw, bg, cl, lr, li, hpr, lim, ret, clm, fP, rest, ni, ia, pi, par, rt, ra, wa, me, va, dn, nr, pr, fA, kli, kei, edi, leni, mci, gi, klr, ker, edr, lenr, mcr, gr, hM, hH, hA, hP, hPa, hR, hW, hMe, hV, hDo, hS, mk, fH, fS, cl2, ot2, la, rfl, hSh, rfl, hDw.up, hIs.up, hlim⟩ hG hl

set_option maxHeartbeats 4000000 in
set_option maxRecDepth 100000 in
theorem C_step (l : Launch) (hfl : l.stackTraces = false) (D : va_G) (cI cJ cZ cO : ClassId) (z mi : Nat) {p : Program} {e : Env} {s : State} {m : MethodId} {below : List Frame} {meth : Method} {c : Code} {Q : State → Prop} {A : Nat → Prop} {hh : List (Nat × Nat × Nat × Nat)} {b L : Nat} {xs : Nat → Int32} {hs hm hO : Nat} (hC : kH p l s m #[Value.ref b] meth c cL_law RL wsL_law 8 hh D (kTy cI cJ cZ cO) z mi A) (hX : va_X b L xs s s.heap) (hbl : b < s.heap.size) (hbA : ¬ A b) (hL2 : L ≤ 2048) (hE : ∀ (H : Heap) (locs : List Loc) (cells slots : Nat) (ls : Array Slot), cells ≤ 10000 → slots ≤ 100000 → va_S A s.heap H locs → W p l e room_1 s m #[Value.ref b] below meth c H locs cells slots Q (F0 m 1416 ls [])) (k : Nat) (hk : k ≤ 513) (hN : 4 * k + 4 ≤ L → ∀ (g : Nat → Int64) (wc wm : va_W) (H : Heap) (locs : List Loc) (ls : Array Slot), kJ cI cJ cZ cO z hs hm (k + 1) wc wm → kG D A s ((wc ++ [(hO, .inl (cJ, 1, .inr (.inl g)))]) ++ wm) H locs → lv_has ls 8 [(0, .ref b), (1, .ref hs), (2, .ref hm), (3, .ref hO), (4, .int (nI (4 * (k + 1))))] → W p l e room_1 s m #[Value.ref b] below meth c H locs (100 + 10 * (k + 1)) (3000 + 150 * (k + 1)) Q (F0 m 23 ls [])) : ∀ (g : Nat → Int64) (wc wm : va_W) (H : Heap) (locs : List Loc) (ls : Array Slot), kJ cI cJ cZ cO z hs hm (k) wc wm → kG D A s ((wc ++ [(hO, .inl (cJ, 1, .inr (.inl g)))]) ++ wm) H locs → lv_has ls 8 [(0, .ref b), (1, .ref hs), (2, .ref hm), (3, .ref hO), (4, .int (nI (4 * (k))))] → W p l e room_1 s m #[Value.ref b] below meth c H locs (100 + 10 * (k)) (3000 + 150 * (k)) Q (F0 m 23 ls []) := by
  intro g wc wm H locs ls hJ hG hl
  have hx := hC.x
  have hb := hC.b
  refine lv_iload hx hb dL_law_23 (lv_at hl 4 rfl) ?_
  refine lv_aload_n hx hb dL_law_25 rfl (lv_at hl 0 rfl) ?_
  refine va_slen hx hb hX hbl hbA hG.2.2 dL_law_26 ?_
  refine lv_iconst (v := 4) hx hb dL_law_27 (by decide) ?_
  refine lv_isub hx hb dL_law_28 ?_
  refine k_icmp_gt (tgt := 1416) hx hb dL_law_29 (by decide) (fun c1 => ?_) (fun c1 => ?_)
  · exact hE H locs _ _ ls (by omega) (by omega) hG.2.2
  · have hk4 := k_cont hL2 hk c1
    refine lv_aload_n hx hb dL_law_32 rfl (lv_at hl 0 rfl) ?_
    refine lv_iload hx hb dL_law_33 (lv_at hl 4 rfl) ?_
    refine va_sld hx hb hX hbl hbA hG.2.2 (vp_in_nI (by omega) (by omega)) dL_law_35 ?_
    refine k_topi (y := xs (4 * k)) (congrArg xs (nI_clamp (by omega))) ?_
    refine lv_bipush (v := 31) hx hb dL_law_36 (by decide) ?_
    refine lv_iand hx hb dL_law_38 ?_
    obtain ⟨j, hj, ej⟩ := k_and31 (xs (4 * k))
    refine k_topi (y := nI j) ej ?_
    refine C_sw l hfl D cI cJ cZ cO z mi hC hX hbl hbA (by omega) hk4 hL2 j hj hJ hG hl (by omega) (by omega) ?_
    intro wc' wm' g' H locs ls hJ hG hl
    refine lv_iinc (v := nI (4 * k) + 4) (lv' := [(4, .int (nI (4 * k) + 4)), (0, .ref b), (1, .ref hs), (2, .ref hm), (3, .ref hO)]) hx hb dL_law_1410 hl (k := 4) rfl rfl (by decide) rfl (fun ls hl => ?_)
    refine lv_goto (tgt := 23) hx hb dL_law_1413 (by decide) ?_
    refine W.widen (k := 100 + 10 * (k + 1)) (n := 3000 + 150 * (k + 1)) (by omega) (by omega) ?_
    have e4 : nI (4 * k) + 4 = nI (4 * (k + 1)) := nI_add (4 * k) 4
    rw [e4] at hl
    exact hN hk4 g' wc' wm' H locs ls hJ hG (lv_sub hl [1, 2, 3, 4, 0] rfl)
theorem C_loop (l : Launch) (hfl : l.stackTraces = false) (D : va_G) (cI cJ cZ cO : ClassId) (z mi : Nat) {p : Program} {e : Env} {s : State} {m : MethodId} {below : List Frame} {meth : Method} {c : Code} {Q : State → Prop} {A : Nat → Prop} {hh : List (Nat × Nat × Nat × Nat)} {b L : Nat} {xs : Nat → Int32} {hs hm hO : Nat} (hC : kH p l s m #[Value.ref b] meth c cL_law RL wsL_law 8 hh D (kTy cI cJ cZ cO) z mi A) (hX : va_X b L xs s s.heap) (hbl : b < s.heap.size) (hbA : ¬ A b) (hL2 : L ≤ 2048) (hE : ∀ (H : Heap) (locs : List Loc) (cells slots : Nat) (ls : Array Slot), cells ≤ 10000 → slots ≤ 100000 → va_S A s.heap H locs → W p l e room_1 s m #[Value.ref b] below meth c H locs cells slots Q (F0 m 1416 ls [])) : ∀ (n k : Nat), k + n = 513 → ∀ (g : Nat → Int64) (wc wm : va_W) (H : Heap) (locs : List Loc) (ls : Array Slot), kJ cI cJ cZ cO z hs hm (k) wc wm → kG D A s ((wc ++ [(hO, .inl (cJ, 1, .inr (.inl g)))]) ++ wm) H locs → lv_has ls 8 [(0, .ref b), (1, .ref hs), (2, .ref hm), (3, .ref hO), (4, .int (nI (4 * (k))))] → W p l e room_1 s m #[Value.ref b] below meth c H locs (100 + 10 * (k)) (3000 + 150 * (k)) Q (F0 m 23 ls [])
  | 0, k, h => C_step l hfl D cI cJ cZ cO z mi hC hX hbl hbA hL2 hE k (by omega) (fun h2 => absurd h2 (by omega))
  | n + 1, k, h => C_step l hfl D cI cJ cZ cO z mi hC hX hbl hbA hL2 hE k (by omega) (fun _ => C_loop l hfl D cI cJ cZ cO z mi hC hX hbl hbA hL2 hE n (k + 1) (by omega))
