theorem kDst_t {b : Nat → Bool} {f : Nat → Int64} {n : Nat} (h : b n = true) (h2 : decide (lg_cmp (f n) (kDst b f n).2 ≤ 0) = false) : kDst b f (n + 1) = (nI n, f n) := by
  show (bif b n && !decide (lg_cmp (f n) (kDst b f n).2 ≤ 0) then (nI n, f n) else kDst b f n) = _
  rw [h, h2]; rfl
theorem kDst_f {b : Nat → Bool} {f : Nat → Int64} {n : Nat} (h : b n = false) : kDst b f (n + 1) = kDst b f n := by
  show (bif b n && !decide (lg_cmp (f n) (kDst b f n).2 ≤ 0) then (nI n, f n) else kDst b f n) = _
  rw [h]; rfl
theorem kDst_n {b : Nat → Bool} {f : Nat → Int64} {n : Nat} (h2 : decide (lg_cmp (f n) (kDst b f n).2 ≤ 0) = true) : kDst b f (n + 1) = kDst b f n := by
  show (bif b n && !decide (lg_cmp (f n) (kDst b f n).2 ≤ 0) then (nI n, f n) else kDst b f n) = _
  rw [h2]; cases b n <;> rfl

set_option maxHeartbeats 4000000 in
set_option maxRecDepth 100000 in
/-- dearest -/
theorem K_X3_dearest (l : Launch) (hfl : l.stackTraces = false) (D : va_G) (cI cJ cZ cO : ClassId) (z mi : Nat) (ws : va_W) (ks : Nat) (hs : Nat) (hd : Nat) (lr : Nat) (li : Nat) (hpr : Nat) (kp : Nat) (lim : Int32) (ret : Int32) (clm : Int64) (fP : Nat → Int32) (ni : Nat) (ia : Nat → Nat) (pi : Nat → Nat) (par : Nat → Option Nat) (rt : Nat → Option Nat) (ra : Nat → Nat) (wa : Nat → Int32) (me : Nat → Int32) (va : Nat → Int32) (dn : Nat → Int32) (nr : Nat) (pr : Nat → Nat) (fA : Nat → Int32) (kli : Nat) (kei : Nat) (edi : Nat) (leni : Nat) (mci : Int32) (gi : Nat → Option Nat) (klr : Nat) (ker : Nat) (edr : Nat) (lenr : Nat) (mcr : Int32) (gr : Nat → Option Nat) (hSh : kSh cI cO z ws ks hs hd lr li hpr kp lim ret clm fP ni ia pi par rt ra wa me va dn nr pr fA kli kei edi leni mci gi klr ker edr lenr mcr gr) (i9 : Int32) : kM l D (kTy cI cJ cZ cO) z mi yX3_dearest wsX3_dearest ({ frames := 7, cells := 1, slots := 6, locals := 141 } : Room) [.ref hs, .int i9] (ws) (fun v u => (∃ j, j < ni ∧ i9 = nI j ∧ v = some (.int (kDst (fun j9 => (rt j9).isSome && kSu par j 31 (some j9)) (kOw fA fP rt wa me va) ni).1)) ∧ u = ws) (fun E u => u = ws ∧ (E = kIOB ∧ (kNum i9 ni) = false)) := by
  refine kM.of hfl (cc := cX3_dearest) (maxL := 8) (ret := (some .int)) (by decide) rfl (Nat.le_of_ble_eq_true rfl) ?_
  intro p e s m args below meth c A ls hC hr hmn hG hl
  have hx := hC.x
  have hb := hC.b
  have hl : lv_has ls 8 [(0, .ref hs), (1, .int i9)] := hl
  have hi_RX3 : ∀ w ∈ wsX30, w ∈ wsX3_dearest := fun w h => List.mem_cons_of_mem _ (List.mem_append_left _ (List.mem_append_left _ (List.mem_append_left _ (List.mem_append_left _ (List.mem_append_right _ h)))))
  have hn30 : ni ≤ 30 ∧ nr ≤ 12 := hSh.2.2.1
  refine lv_aload_n hx hb dX3_dearest_0 rfl (lv_at hl 0 rfl) ?_
  refine lv_iload_n hx hb dX3_dearest_1 rfl (lv_at hl 1 rfl) ?_
  refine k_callV (nn := 1) (C := RX3) hC hG ks hSh.1 (ci := 4) rfl (K_X3_itemAt l hfl D cI cJ cZ cO z mi ws ks hs hd lr li hpr kp lim ret clm fP ni ia pi par rt ra wa me va dn nr pr fA kli kei edi leni mci gi klr ker edr lenr mcr gr hSh i9) gX3_dearest_X3_itemAt rfl rfl (by decide +kernel) ⟨(Nat.le_of_ble_eq_true rfl), (Nat.le_of_ble_eq_true rfl)⟩ hl.1 rfl (Nat.le_of_ble_eq_true rfl) dX3_dearest_2 ⟨(Nat.le_of_ble_eq_true rfl), (Nat.le_of_ble_eq_true rfl)⟩ (fun E9 ce9 q9 u9 H9 locs9 hp9 hG9 h91 h92 h93 => k_out hC hG9 h91 h92 h93 (by obtain ⟨rfl, rfl, h99⟩ := hp9; exact ⟨rfl, ⟨rfl, h99⟩⟩) (Nat.le_of_ble_eq_true rfl) (Nat.le_of_ble_eq_true rfl)) (fun v9 u9 H locs hp hG => ?_)
  obtain ⟨⟨j1, hj2, hi3, rfl⟩, hu9⟩ := hp
  rw [hu9] at hG
  have hk4 : kNum i9 ni = true := by rw [hi3]; exact kNum_of hj2 (by omega)
  refine W.widen (k := 1) (n := 6) (Nat.le_of_ble_eq_true rfl) (Nat.le_of_ble_eq_true rfl) ?_
  refine W.eq (g2 := F0 m 5 ls [.ref (ia j1)]) rfl ?_
  refine lv_astore_n (lv' := [(2, .ref (ia j1)), (0, .ref hs), (1, .int i9)]) hx hb dX3_dearest_5 rfl hl (by decide) rfl (fun ls hl => ?_)
  refine lv_iconst (v := (-1)) hx hb dX3_dearest_6 (by decide) ?_
  refine lv_istore_n (lv' := [(3, .int (-1)), (2, .ref (ia j1)), (0, .ref hs), (1, .int i9)]) hx hb dX3_dearest_7 rfl hl (by decide) rfl (fun ls hl => ?_)
  refine lv_ldc2 (v := (-1)) hx hb hC.o (hC.t _ (List.mem_of_getElem? (i := 1) rfl)) dX3_dearest_8 ?_
  refine lv_lstore (lv' := [(4, .long (-1)), (3, .int (-1)), (2, .ref (ia j1)), (0, .ref hs), (1, .int i9)]) hx hb dX3_dearest_11 hl (by decide) rfl (fun ls hl => ?_)
  refine lv_iconst (v := 0) hx hb dX3_dearest_13 (by decide) ?_
  refine lv_istore (lv' := [(6, .int 0), (4, .long (-1)), (3, .int (-1)), (2, .ref (ia j1)), (0, .ref hs), (1, .int i9)]) hx hb dX3_dearest_14 hl (by decide) rfl (fun ls hl => ?_)
  refine k_loop (σ := Nat) (fun q9 => q9 ≤ ni) (fun q9 => ni - q9) (fun q9 => ws) (fun q9 => [(0, .ref hs), (1, .int i9), (2, .ref (ia j1)), (3, .int ((kDst (fun j9 => (rt j9).isSome && kSu par j1 31 (some j9)) (kOw fA fP rt wa me va) q9).1)), (4, .long ((kDst (fun j9 => (rt j9).isSome && kSu par j1 31 (some j9)) (kOw fA fP rt wa me va) q9).2)), (6, .int (nI q9))]) 16 [] ?_ 0 (Nat.zero_le _) hG (lv_sub hl [4, 5, 3, 2, 1, 0] rfl)
  intro q9
  obtain ⟨n, rfl⟩ : ∃ z9, z9 = q9 := ⟨_, rfl⟩
  intro hI ih H locs ls hG hl
  have hI : n ≤ ni := hI
  have hG : kG D A s (ws) H locs := hG
  have hl : lv_has ls 8 [(0, .ref hs), (1, .int i9), (2, .ref (ia j1)), (3, .int ((kDst (fun j9 => (rt j9).isSome && kSu par j1 31 (some j9)) (kOw fA fP rt wa me va) n).1)), (4, .long ((kDst (fun j9 => (rt j9).isSome && kSu par j1 31 (some j9)) (kOw fA fP rt wa me va) n).2)), (6, .int (nI n))] := hl
  refine lv_iload hx hb dX3_dearest_16 (lv_at hl 5 rfl) ?_
  refine lv_aload_n hx hb dX3_dearest_18 rfl (lv_at hl 0 rfl) ?_
  refine k_get (C := RX3) (T := TX3) (N := 7) (ci := 4) (v := .ref li) (fs := [.ref hd, .ref lr, .ref li, .ref hpr, .int lim, .int ret, .long clm]) hC hG hi_RX3 ks hSh.1 rfl 2 (by decide) (List.mem_of_getElem? (i := 2) rfl) rfl rfl dX3_dearest_19 ?_
  refine k_callV (nn := 0) (C := RJx4a65c) hC hG kli hSh.2.2.2.2.2.2.1.1 (ci := 0) rfl (K_list_size l hfl D cI cJ cZ cO z mi (ws) kli li mci edi ni hSh.2.2.2.2.2.2.1.1) gX3_dearest_Jx4a65c_size_8abf5 rfl rfl (by decide +kernel) ⟨(Nat.le_of_ble_eq_true rfl), (Nat.le_of_ble_eq_true rfl)⟩ hl.1 rfl (Nat.le_of_ble_eq_true rfl) dX3_dearest_22 ⟨(Nat.le_of_ble_eq_true rfl), (Nat.le_of_ble_eq_true rfl)⟩ (fun _ _ _ _ _ _ hp => hp.elim) (fun v9 u9 H locs hp hG => ?_)
  obtain ⟨rfl, hu9⟩ := hp
  rw [hu9] at hG
  refine W.widen (k := 1) (n := 6) (Nat.le_of_ble_eq_true rfl) (Nat.le_of_ble_eq_true rfl) ?_
  refine W.eq (g2 := F0 m 25 ls [.int (nI ni), .int (nI n)]) rfl ?_
  refine k_icmp_ge (tgt := 88) hx hb dX3_dearest_25 (by decide) (fun c_5 => ?_) (fun c_5 => ?_)
  · have hn2 : n = ni := by have := kNI_le c_5 (by omega) (by omega); have h9 : n ≤ ni := hI; omega
    rw [hn2] at hl
    refine lv_iload_n hx hb dX3_dearest_88 rfl (lv_at hl 3 rfl) ?_
    exact k_reti hC hr hG ⟨⟨j1, hj2, hi3, rfl⟩, rfl⟩ (Nat.le_of_ble_eq_true rfl) (Nat.le_of_ble_eq_true rfl) dX3_dearest_89
  · have hn1 : n < ni := kNI_lt c_5 (by omega) (by omega)
    refine lv_aload_n hx hb dX3_dearest_28 rfl (lv_at hl 0 rfl) ?_
    refine k_get (C := RX3) (T := TX3) (N := 7) (ci := 4) (v := .ref li) (fs := [.ref hd, .ref lr, .ref li, .ref hpr, .int lim, .int ret, .long clm]) hC hG hi_RX3 ks hSh.1 rfl 2 (by decide) (List.mem_of_getElem? (i := 2) rfl) rfl rfl dX3_dearest_29 ?_
    refine lv_iload hx hb dX3_dearest_32 (lv_at hl 5 rfl) ?_
    obtain ⟨ai6, ai7, ai8, ai9⟩ := hSh.2.2.2.2.2.2.1.arr (j := n) hn1
    have hn30 : ni ≤ 30 ∧ nr ≤ 12 := hSh.2.2.1
    refine k_callV (nn := 1) (C := RJx4a65c) hC hG kli hSh.2.2.2.2.2.2.1.1 (ci := 0) rfl (K_list_get l hfl D cI cJ cZ cO z mi (ws) kli kei li mci edi ni leni gi n hn1 (by omega) (by omega) hSh.2.2.2.2.2.2.1.1 ai6) gX3_dearest_Jx4a65c_get_915e3 rfl rfl (by decide +kernel) ⟨(Nat.le_of_ble_eq_true rfl), (Nat.le_of_ble_eq_true rfl)⟩ hl.1 rfl (Nat.le_of_ble_eq_true rfl) dX3_dearest_34 ⟨(Nat.le_of_ble_eq_true rfl), (Nat.le_of_ble_eq_true rfl)⟩ (fun _ _ _ _ _ _ hp => hp.elim) (fun v9 u9 H locs hp hG => ?_)
    obtain ⟨rfl, hu9⟩ := hp
    rw [hu9] at hG
    refine W.widen (k := 1) (n := 6) (Nat.le_of_ble_eq_true rfl) (Nat.le_of_ble_eq_true rfl) ?_
    refine W.eq (g2 := F0 m 37 ls [va_rf (gi n)]) rfl ?_
    refine k_topq (y := some (ia n)) (ai9 n hn1) ?_
    refine W.eq (g2 := F0 m 37 ls [.ref (ia n)]) rfl ?_
    refine va_castS hx hb hC.o (hC.t _ (List.mem_of_getElem? (i := 3) rfl)) (hC.K.1 2 _ rfl).2 (va_recv hC.K hG.1 (ci := 2) (q := (RX1, TX1, 6)) rfl (hSh.2.2.2.1.1 n hn1)) dX3_dearest_37 ?_
    refine lv_astore (lv' := [(7, .ref (ia n)), (0, .ref hs), (1, .int i9), (2, .ref (ia j1)), (3, .int ((kDst (fun j9 => (rt j9).isSome && kSu par j1 31 (some j9)) (kOw fA fP rt wa me va) n).1)), (4, .long ((kDst (fun j9 => (rt j9).isSome && kSu par j1 31 (some j9)) (kOw fA fP rt wa me va) n).2)), (6, .int (nI n))]) hx hb dX3_dearest_40 hl (by decide) rfl (fun ls hl => ?_)
    refine lv_aload hx hb dX3_dearest_42 (lv_at hl 0 rfl) ?_
    refine k_callV (nn := 0) (C := RX1) hC hG (pi n) (hSh.2.2.2.1.1 n hn1) (ci := 2) rfl (K_X1_isLeaf l hfl D cI cJ cZ cO z mi (ws) (pi n) (ia n) ((par n).map ia) ((rt n).map ra) (wa n) (me n) (va n) (dn n) (hSh.2.2.2.1.1 n hn1)) gX3_dearest_X1_isLeaf rfl rfl (by decide +kernel) ⟨(Nat.le_of_ble_eq_true rfl), (Nat.le_of_ble_eq_true rfl)⟩ hl.1 rfl (Nat.le_of_ble_eq_true rfl) dX3_dearest_44 ⟨(Nat.le_of_ble_eq_true rfl), (Nat.le_of_ble_eq_true rfl)⟩ (fun _ _ _ _ _ _ hp => hp.elim) (fun v9 u9 H locs hp hG => ?_)
    obtain ⟨rfl, hu9⟩ := hp
    rw [hu9] at hG
    refine W.widen (k := 1) (n := 6) (Nat.le_of_ble_eq_true rfl) (Nat.le_of_ble_eq_true rfl) ?_
    refine W.eq (g2 := F0 m 47 ls [.int (kb ((rt n).map ra).isSome)]) rfl ?_
    refine k_ifB_eq (tgt := 82) hx hb dX3_dearest_47 (by decide) (fun c_10 => ?_) (fun c_10 => ?_)
    · have e9 : kDst (fun j9 => (rt j9).isSome && kSu par j1 31 (some j9)) (kOw fA fP rt wa me va) (n + 1) = kDst (fun j9 => (rt j9).isSome && kSu par j1 31 (some j9)) (kOw fA fP rt wa me va) n := kDst_f (b := (fun j9 => (rt j9).isSome && kSu par j1 31 (some j9))) (by show ((rt n).isSome && kSu par j1 31 (some n)) = false; rw [← k_isSm (rt n) ra, c_10]; rfl)
      have hl : lv_has ls 8 [(7, .ref (ia n)), (0, .ref hs), (1, .int i9), (2, .ref (ia j1)), (3, .int ((kDst (fun j9 => (rt j9).isSome && kSu par j1 31 (some j9)) (kOw fA fP rt wa me va) (n + 1)).1)), (4, .long ((kDst (fun j9 => (rt j9).isSome && kSu par j1 31 (some j9)) (kOw fA fP rt wa me va) (n + 1)).2)), (6, .int (nI n))] := by rw [e9]; exact hl
      refine lv_iinc (v := (nI n) + 1) (lv' := [(6, .int ((nI n) + 1)), (7, .ref (ia n)), (0, .ref hs), (1, .int i9), (2, .ref (ia j1)), (3, .int ((kDst (fun j9 => (rt j9).isSome && kSu par j1 31 (some j9)) (kOw fA fP rt wa me va) (n + 1)).1)), (4, .long ((kDst (fun j9 => (rt j9).isSome && kSu par j1 31 (some j9)) (kOw fA fP rt wa me va) (n + 1)).2))]) hx hb dX3_dearest_82 hl (k := 6) rfl rfl (by decide) rfl (fun ls hl => ?_)
      refine lv_goto (tgt := 16) hx hb dX3_dearest_85 (by decide) ?_
      rw [nI_1] at hl
      exact ih (n + 1) (show n + 1 ≤ ni from hn1) (by show ni - (n + 1) < ni - n; omega) _ _ _ hG (lv_sub hl [2, 3, 4, 5, 6, 0] rfl)
    · refine lv_aload hx hb dX3_dearest_50 (lv_at hl 0 rfl) ?_
      refine lv_aload_n hx hb dX3_dearest_52 rfl (lv_at hl 3 rfl) ?_
      refine k_callV (nn := 1) (C := RX1) hC hG (pi n) (hSh.2.2.2.1.1 n hn1) (ci := 2) rfl (K_X1_standsUnder l hfl D cI cJ cZ cO z mi ws ni ia pi par rt ra wa me va dn hn30.1 hSh.2.2.2.1 n j1 hn1 hj2) gX3_dearest_X1_standsUnder rfl rfl (by decide +kernel) ⟨(Nat.le_of_ble_eq_true rfl), (Nat.le_of_ble_eq_true rfl)⟩ hl.1 rfl (Nat.le_of_ble_eq_true rfl) dX3_dearest_53 ⟨(Nat.le_of_ble_eq_true rfl), (Nat.le_of_ble_eq_true rfl)⟩ (fun _ _ _ _ _ _ hp => hp.elim) (fun v9 u9 H locs hp hG => ?_)
      obtain ⟨rfl, hu9⟩ := hp
      rw [hu9] at hG
      refine W.widen (k := 1) (n := 6) (Nat.le_of_ble_eq_true rfl) (Nat.le_of_ble_eq_true rfl) ?_
      refine W.eq (g2 := F0 m 56 ls [.int (kb (kSu par j1 31 (some n)))]) rfl ?_
      refine k_ifB_eq (tgt := 82) hx hb dX3_dearest_56 (by decide) (fun c_11 => ?_) (fun c_11 => ?_)
      · have e9 : kDst (fun j9 => (rt j9).isSome && kSu par j1 31 (some j9)) (kOw fA fP rt wa me va) (n + 1) = kDst (fun j9 => (rt j9).isSome && kSu par j1 31 (some j9)) (kOw fA fP rt wa me va) n := kDst_f (b := (fun j9 => (rt j9).isSome && kSu par j1 31 (some j9))) (by show ((rt n).isSome && kSu par j1 31 (some n)) = false; rw [c_11, Bool.and_false])
        have hl : lv_has ls 8 [(7, .ref (ia n)), (0, .ref hs), (1, .int i9), (2, .ref (ia j1)), (3, .int ((kDst (fun j9 => (rt j9).isSome && kSu par j1 31 (some j9)) (kOw fA fP rt wa me va) (n + 1)).1)), (4, .long ((kDst (fun j9 => (rt j9).isSome && kSu par j1 31 (some j9)) (kOw fA fP rt wa me va) (n + 1)).2)), (6, .int (nI n))] := by rw [e9]; exact hl
        refine lv_iinc (v := (nI n) + 1) (lv' := [(6, .int ((nI n) + 1)), (7, .ref (ia n)), (0, .ref hs), (1, .int i9), (2, .ref (ia j1)), (3, .int ((kDst (fun j9 => (rt j9).isSome && kSu par j1 31 (some j9)) (kOw fA fP rt wa me va) (n + 1)).1)), (4, .long ((kDst (fun j9 => (rt j9).isSome && kSu par j1 31 (some j9)) (kOw fA fP rt wa me va) (n + 1)).2))]) hx hb dX3_dearest_82 hl (k := 6) rfl rfl (by decide) rfl (fun ls hl => ?_)
        refine lv_goto (tgt := 16) hx hb dX3_dearest_85 (by decide) ?_
        rw [nI_1] at hl
        exact ih (n + 1) (show n + 1 ≤ ni from hn1) (by show ni - (n + 1) < ni - n; omega) _ _ _ hG (lv_sub hl [2, 3, 4, 5, 6, 0] rfl)
      · refine lv_aload_n hx hb dX3_dearest_59 rfl (lv_at hl 1 rfl) ?_
        refine lv_aload hx hb dX3_dearest_60 (lv_at hl 0 rfl) ?_
        refine k_callV (nn := 1) (C := RX3) hC hG ks hSh.1 (ci := 4) rfl (K_X3_ownSum l hfl D cI cJ cZ cO z mi ws ks hs hd lr li hpr kp lim ret clm fP ni ia pi par rt ra wa me va dn nr pr fA kli kei edi leni mci gi klr ker edr lenr mcr gr hSh n hn1) gX3_dearest_X3_ownSum rfl rfl (by decide +kernel) ⟨(Nat.le_of_ble_eq_true rfl), (Nat.le_of_ble_eq_true rfl)⟩ hl.1 rfl (Nat.le_of_ble_eq_true rfl) dX3_dearest_62 ⟨(Nat.le_of_ble_eq_true rfl), (Nat.le_of_ble_eq_true rfl)⟩ (fun _ _ _ _ _ _ hp => hp.elim) (fun v9 u9 H locs hp hG => ?_)
        obtain ⟨rfl, hu9⟩ := hp
        rw [hu9] at hG
        refine W.widen (k := 1) (n := 6) (Nat.le_of_ble_eq_true rfl) (Nat.le_of_ble_eq_true rfl) ?_
        refine W.eq (g2 := F0 m 65 ls [.long (kOw fA fP rt wa me va n)]) rfl ?_
        refine lv_lload hx hb dX3_dearest_65 (lv_at hl 5 rfl) ?_
        refine W.lcmp hx hb dX3_dearest_67 ?_
        refine k_if_le (tgt := 82) hx hb dX3_dearest_68 (by decide) (fun c_12 => ?_) (fun c_12 => ?_)
        · have e9 : kDst (fun j9 => (rt j9).isSome && kSu par j1 31 (some j9)) (kOw fA fP rt wa me va) (n + 1) = kDst (fun j9 => (rt j9).isSome && kSu par j1 31 (some j9)) (kOw fA fP rt wa me va) n := kDst_n (b := (fun j9 => (rt j9).isSome && kSu par j1 31 (some j9))) c_12
          have hl : lv_has ls 8 [(7, .ref (ia n)), (0, .ref hs), (1, .int i9), (2, .ref (ia j1)), (3, .int ((kDst (fun j9 => (rt j9).isSome && kSu par j1 31 (some j9)) (kOw fA fP rt wa me va) (n + 1)).1)), (4, .long ((kDst (fun j9 => (rt j9).isSome && kSu par j1 31 (some j9)) (kOw fA fP rt wa me va) (n + 1)).2)), (6, .int (nI n))] := by rw [e9]; exact hl
          refine lv_iinc (v := (nI n) + 1) (lv' := [(6, .int ((nI n) + 1)), (7, .ref (ia n)), (0, .ref hs), (1, .int i9), (2, .ref (ia j1)), (3, .int ((kDst (fun j9 => (rt j9).isSome && kSu par j1 31 (some j9)) (kOw fA fP rt wa me va) (n + 1)).1)), (4, .long ((kDst (fun j9 => (rt j9).isSome && kSu par j1 31 (some j9)) (kOw fA fP rt wa me va) (n + 1)).2))]) hx hb dX3_dearest_82 hl (k := 6) rfl rfl (by decide) rfl (fun ls hl => ?_)
          refine lv_goto (tgt := 16) hx hb dX3_dearest_85 (by decide) ?_
          rw [nI_1] at hl
          exact ih (n + 1) (show n + 1 ≤ ni from hn1) (by show ni - (n + 1) < ni - n; omega) _ _ _ hG (lv_sub hl [2, 3, 4, 5, 6, 0] rfl)
        · refine lv_aload_n hx hb dX3_dearest_71 rfl (lv_at hl 1 rfl) ?_
          refine lv_aload hx hb dX3_dearest_72 (lv_at hl 0 rfl) ?_
          refine k_callV (nn := 1) (C := RX3) hC hG ks hSh.1 (ci := 4) rfl (K_X3_ownSum l hfl D cI cJ cZ cO z mi ws ks hs hd lr li hpr kp lim ret clm fP ni ia pi par rt ra wa me va dn nr pr fA kli kei edi leni mci gi klr ker edr lenr mcr gr hSh n hn1) gX3_dearest_X3_ownSum rfl rfl (by decide +kernel) ⟨(Nat.le_of_ble_eq_true rfl), (Nat.le_of_ble_eq_true rfl)⟩ hl.1 rfl (Nat.le_of_ble_eq_true rfl) dX3_dearest_74 ⟨(Nat.le_of_ble_eq_true rfl), (Nat.le_of_ble_eq_true rfl)⟩ (fun _ _ _ _ _ _ hp => hp.elim) (fun v9 u9 H locs hp hG => ?_)
          obtain ⟨rfl, hu9⟩ := hp
          rw [hu9] at hG
          refine W.widen (k := 1) (n := 6) (Nat.le_of_ble_eq_true rfl) (Nat.le_of_ble_eq_true rfl) ?_
          refine W.eq (g2 := F0 m 77 ls [.long (kOw fA fP rt wa me va n)]) rfl ?_
          refine lv_lstore (lv' := [(4, .long (kOw fA fP rt wa me va n)), (7, .ref (ia n)), (0, .ref hs), (1, .int i9), (2, .ref (ia j1)), (3, .int ((kDst (fun j9 => (rt j9).isSome && kSu par j1 31 (some j9)) (kOw fA fP rt wa me va) n).1)), (6, .int (nI n))]) hx hb dX3_dearest_77 hl (by decide) rfl (fun ls hl => ?_)
          refine lv_iload hx hb dX3_dearest_79 (lv_at hl 6 rfl) ?_
          refine lv_istore_n (lv' := [(3, .int (nI n)), (4, .long (kOw fA fP rt wa me va n)), (7, .ref (ia n)), (0, .ref hs), (1, .int i9), (2, .ref (ia j1)), (6, .int (nI n))]) hx hb dX3_dearest_81 rfl hl (by decide) rfl (fun ls hl => ?_)
          have e9 : kDst (fun j9 => (rt j9).isSome && kSu par j1 31 (some j9)) (kOw fA fP rt wa me va) (n + 1) = (nI n, (kOw fA fP rt wa me va) n) := kDst_t (b := (fun j9 => (rt j9).isSome && kSu par j1 31 (some j9))) (by show ((rt n).isSome && kSu par j1 31 (some n)) = true; rw [← k_isSm (rt n) ra, c_10, c_11]; rfl) c_12
          have hl : lv_has ls 8 [(3, .int ((kDst (fun j9 => (rt j9).isSome && kSu par j1 31 (some j9)) (kOw fA fP rt wa me va) (n + 1)).1)), (4, .long ((kDst (fun j9 => (rt j9).isSome && kSu par j1 31 (some j9)) (kOw fA fP rt wa me va) (n + 1)).2)), (7, .ref (ia n)), (0, .ref hs), (1, .int i9), (2, .ref (ia j1)), (6, .int (nI n))] := by rw [e9]; exact hl
          refine lv_iinc (v := (nI n) + 1) (lv' := [(6, .int ((nI n) + 1)), (3, .int ((kDst (fun j9 => (rt j9).isSome && kSu par j1 31 (some j9)) (kOw fA fP rt wa me va) (n + 1)).1)), (4, .long ((kDst (fun j9 => (rt j9).isSome && kSu par j1 31 (some j9)) (kOw fA fP rt wa me va) (n + 1)).2)), (7, .ref (ia n)), (0, .ref hs), (1, .int i9), (2, .ref (ia j1))]) hx hb dX3_dearest_82 hl (k := 6) rfl rfl (by decide) rfl (fun ls hl => ?_)
          refine lv_goto (tgt := 16) hx hb dX3_dearest_85 (by decide) ?_
          rw [nI_1] at hl
          exact ih (n + 1) (show n + 1 ≤ ni from hn1) (by show ni - (n + 1) < ni - n; omega) _ _ _ hG (lv_sub hl [4, 5, 6, 1, 2, 0] rfl)

set_option maxHeartbeats 4000000 in
set_option maxRecDepth 100000 in
/-- claim -/
theorem K_X3_claim (l : Launch) (hfl : l.stackTraces = false) (D : va_G) (cI cJ cZ cO : ClassId) (z mi : Nat) (ws : va_W) (ks : Nat) (hs : Nat) (hd : Nat) (lr : Nat) (li : Nat) (hpr : Nat) (kp : Nat) (lim : Int32) (ret : Int32) (clm : Int64) (fP : Nat → Int32) (ni : Nat) (ia : Nat → Nat) (pi : Nat → Nat) (par : Nat → Option Nat) (rt : Nat → Option Nat) (ra : Nat → Nat) (wa : Nat → Int32) (me : Nat → Int32) (va : Nat → Int32) (dn : Nat → Int32) (nr : Nat) (pr : Nat → Nat) (fA : Nat → Int32) (kli : Nat) (kei : Nat) (edi : Nat) (leni : Nat) (mci : Int32) (gi : Nat → Option Nat) (klr : Nat) (ker : Nat) (edr : Nat) (lenr : Nat) (mcr : Int32) (gr : Nat → Option Nat) (hSh : kSh cI cO z ws ks hs hd lr li hpr kp lim ret clm fP ni ia pi par rt ra wa me va dn nr pr fA kli kei edi leni mci gi klr ker edr lenr mcr gr)  : kM l D (kTy cI cJ cZ cO) z mi yX3_claim wsX3_claim ({ frames := 6, cells := 1, slots := 6, locals := 110 } : Room) [.ref hs] (ws) (fun v u => v = some (.long (((kTot (fun j9 => (kOw fA fP rt wa me va j9 * (dn j9).toInt64) / 100) ni) - (((((kTot (fun j9 => (kOw fA fP rt wa me va j9 * (dn j9).toInt64) / 100) ni) * ret.toInt64) + 100) - 1) / 100)) - clm)) ∧ u = ws.set ks (hs, .inr (4, [.ref hd, .ref lr, .ref li, .ref hpr, .int lim, .int ret, .long (clm + (((kTot (fun j9 => (kOw fA fP rt wa me va j9 * (dn j9).toInt64) / 100) ni) - (((((kTot (fun j9 => (kOw fA fP rt wa me va j9 * (dn j9).toInt64) / 100) ni) * ret.toInt64) + 100) - 1) / 100)) - clm))])) ∧ (decide ((0 : Int32) < (lg_cmp (((kTot (fun j9 => (kOw fA fP rt wa me va j9 * (dn j9).toInt64) / 100) ni) - (((((kTot (fun j9 => (kOw fA fP rt wa me va j9 * (dn j9).toInt64) / 100) ni) * ret.toInt64) + 100) - 1) / 100)) - clm) 0))) = true) (fun E u => u = ws ∧ (E = kISE ∧ (decide ((0 : Int32) < (lg_cmp (((kTot (fun j9 => (kOw fA fP rt wa me va j9 * (dn j9).toInt64) / 100) ni) - (((((kTot (fun j9 => (kOw fA fP rt wa me va j9 * (dn j9).toInt64) / 100) ni) * ret.toInt64) + 100) - 1) / 100)) - clm) 0))) = false)) := by
  refine kM.of hfl (cc := cX3_claim) (maxL := 3) (ret := (some .long)) (by decide) rfl (Nat.le_of_ble_eq_true rfl) ?_
  intro p e s m args below meth c A ls hC hr hmn hG hl
  have hx := hC.x
  have hb := hC.b
  have hl : lv_has ls 3 [(0, .ref hs)] := hl
  have hi_RX3 : ∀ w ∈ wsX30, w ∈ wsX3_claim := fun w h => List.mem_cons_of_mem _ (List.mem_append_left _ (List.mem_append_left _ (List.mem_append_left _ (List.mem_append_left _ (List.mem_append_right _ h)))))
  have hn30 : ni ≤ 30 ∧ nr ≤ 12 := hSh.2.2.1
  refine lv_aload_n hx hb dX3_claim_0 rfl (lv_at hl 0 rfl) ?_
  refine k_callV (nn := 0) (C := RX3) hC hG ks hSh.1 (ci := 4) rfl (K_X3_due l hfl D cI cJ cZ cO z mi ws ks hs hd lr li hpr kp lim ret clm fP ni ia pi par rt ra wa me va dn nr pr fA kli kei edi leni mci gi klr ker edr lenr mcr gr hSh) gX3_claim_X3_due rfl rfl (by decide +kernel) ⟨(Nat.le_of_ble_eq_true rfl), (Nat.le_of_ble_eq_true rfl)⟩ hl.1 rfl (Nat.le_of_ble_eq_true rfl) dX3_claim_1 ⟨(Nat.le_of_ble_eq_true rfl), (Nat.le_of_ble_eq_true rfl)⟩ (fun _ _ _ _ _ _ hp => hp.elim) (fun v9 u9 H locs hp hG => ?_)
  obtain ⟨rfl, hu9⟩ := hp
  rw [hu9] at hG
  refine W.widen (k := 0) (n := 0) (Nat.le_of_ble_eq_true rfl) (Nat.le_of_ble_eq_true rfl) ?_
  refine W.eq (g2 := F0 m 4 ls [.long ((kTot (fun j9 => (kOw fA fP rt wa me va j9 * (dn j9).toInt64) / 100) ni) - (((((kTot (fun j9 => (kOw fA fP rt wa me va j9 * (dn j9).toInt64) / 100) ni) * ret.toInt64) + 100) - 1) / 100))]) rfl ?_
  refine lv_aload_n hx hb dX3_claim_4 rfl (lv_at hl 0 rfl) ?_
  refine k_get (C := RX3) (T := TX3) (N := 7) (ci := 4) (v := .long clm) (fs := [.ref hd, .ref lr, .ref li, .ref hpr, .int lim, .int ret, .long clm]) hC hG hi_RX3 ks hSh.1 rfl 6 (by decide) (List.mem_of_getElem? (i := 3) rfl) rfl rfl dX3_claim_5 ?_
  refine lv_lsub hx hb dX3_claim_8 ?_
  refine lv_lstore_n (lv' := [(1, .long (((kTot (fun j9 => (kOw fA fP rt wa me va j9 * (dn j9).toInt64) / 100) ni) - (((((kTot (fun j9 => (kOw fA fP rt wa me va j9 * (dn j9).toInt64) / 100) ni) * ret.toInt64) + 100) - 1) / 100)) - clm)), (0, .ref hs)]) hx hb dX3_claim_9 rfl hl (by decide) rfl (fun ls hl => ?_)
  refine lv_lload_n hx hb dX3_claim_10 rfl (lv_at hl 0 rfl) ?_
  refine lv_lconst (v := 0) hx hb dX3_claim_11 (by decide) ?_
  refine W.lcmp hx hb dX3_claim_12 ?_
  refine k_if_gt (tgt := 26) hx hb dX3_claim_13 (by decide) (fun c_1 => ?_) (fun c_1 => ?_)
  · refine lv_aload_n hx hb dX3_claim_26 rfl (lv_at hl 1 rfl) ?_
    refine lv_dup hx hb dX3_claim_27 rfl ?_
    refine k_get (C := RX3) (T := TX3) (N := 7) (ci := 4) (v := .long clm) (fs := [.ref hd, .ref lr, .ref li, .ref hpr, .int lim, .int ret, .long clm]) hC hG hi_RX3 ks hSh.1 rfl 6 (by decide) (List.mem_of_getElem? (i := 3) rfl) rfl rfl dX3_claim_28 ?_
    refine lv_lload_n hx hb dX3_claim_31 rfl (lv_at hl 0 rfl) ?_
    refine lv_ladd hx hb dX3_claim_32 ?_
    refine k_put (C := RX3) (T := TX3) (N := 7) (ci := 4) (v := .long (clm + (((kTot (fun j9 => (kOw fA fP rt wa me va j9 * (dn j9).toInt64) / 100) ni) - (((((kTot (fun j9 => (kOw fA fP rt wa me va j9 * (dn j9).toInt64) / 100) ni) * ret.toInt64) + 100) - 1) / 100)) - clm))) (fs := [.ref hd, .ref lr, .ref li, .ref hpr, .int lim, .int ret, .long clm]) hC hG hi_RX3 tyX3_ok nmX3 ks hSh.1 rfl 6 (by decide) (List.mem_of_getElem? (i := 3) rfl) rfl rfl rfl rfl (Nat.le_of_ble_eq_true rfl) dX3_claim_33 (fun H locs hG => ?_)
    have hG : kG D A s (ws.set ks (hs, .inr (4, [.ref hd, .ref lr, .ref li, .ref hpr, .int lim, .int ret, .long (clm + (((kTot (fun j9 => (kOw fA fP rt wa me va j9 * (dn j9).toInt64) / 100) ni) - (((((kTot (fun j9 => (kOw fA fP rt wa me va j9 * (dn j9).toInt64) / 100) ni) * ret.toInt64) + 100) - 1) / 100)) - clm))]))) H locs := hG
    refine lv_lload_n hx hb dX3_claim_36 rfl (lv_at hl 0 rfl) ?_
    exact k_retl hC hr hG ⟨rfl, rfl, c_1⟩ (Nat.le_of_ble_eq_true rfl) (Nat.le_of_ble_eq_true rfl) dX3_claim_37
  · exact k_throw (text := "nothing to claim") (is := 188) (ic := 60) (cls := "java/lang/IllegalStateException") hC hG rfl (by decide +kernel) (List.mem_of_getElem? (i := 1) rfl) (List.mem_of_getElem? (i := 2) rfl) (by decide) (fun w h => List.mem_cons_of_mem _ (List.mem_append_right _ h)) (by decide +kernel) (by decide +kernel) hl.1 dX3_claim_16 dX3_claim_19 dX3_claim_20 dX3_claim_22 dX3_claim_25 ⟨(Nat.le_of_ble_eq_true rfl), (Nat.le_of_ble_eq_true rfl)⟩ ⟨(Nat.le_of_ble_eq_true rfl), (Nat.le_of_ble_eq_true rfl)⟩ ⟨(Nat.le_of_ble_eq_true rfl), (Nat.le_of_ble_eq_true rfl)⟩ (⟨rfl, ⟨rfl, c_1⟩⟩)

set_option maxHeartbeats 4000000 in
set_option maxRecDepth 100000 in
/-- done -/
theorem K_X3_done (l : Launch) (hfl : l.stackTraces = false) (D : va_G) (cI cJ cZ cO : ClassId) (z mi : Nat) (ws : va_W) (ks : Nat) (hs : Nat) (hd : Nat) (lr : Nat) (li : Nat) (hpr : Nat) (kp : Nat) (lim : Int32) (ret : Int32) (clm : Int64) (fP : Nat → Int32) (ni : Nat) (ia : Nat → Nat) (pi : Nat → Nat) (par : Nat → Option Nat) (rt : Nat → Option Nat) (ra : Nat → Nat) (wa : Nat → Int32) (me : Nat → Int32) (va : Nat → Int32) (dn : Nat → Int32) (nr : Nat) (pr : Nat → Nat) (fA : Nat → Int32) (kli : Nat) (kei : Nat) (edi : Nat) (leni : Nat) (mci : Int32) (gi : Nat → Option Nat) (klr : Nat) (ker : Nat) (edr : Nat) (lenr : Nat) (mcr : Int32) (gr : Nat → Option Nat) (hSh : kSh cI cO z ws ks hs hd lr li hpr kp lim ret clm fP ni ia pi par rt ra wa me va dn nr pr fA kli kei edi leni mci gi klr ker edr lenr mcr gr) (i9 d9 : Int32) : kM l D (kTy cI cJ cZ cO) z mi yX3_done wsX3_done ({ frames := 7, cells := 3, slots := 18, locals := 141 } : Room) [.ref hs, .int i9, .int d9] (ws) (fun v u => (∃ j, j < ni ∧ i9 = nI j ∧ v = some (.int (dn j)) ∧ u = ws.set (pi j) (ia j, .inr (2, [va_rf ((par j).map ia), va_rf ((rt j).map ra), .int (wa j), .int (me j), .int (va j), .int d9]))) ∧ (kIn d9 0 100) = true ∧ kLe rt i9 = true) (fun E u => u = ws ∧ ((E = kIOB ∧ (kNum i9 ni) = false) ∨ ((E = kIAE ∧ (kNum i9 ni) = true ∧ (kIn d9 0 100) = false) ∨ (E = kISE ∧ (kNum i9 ni) = true ∧ (kIn d9 0 100) = true ∧ (kLe rt i9) = false)))) := by
  refine kM.of hfl (cc := cX3_done) (maxL := 5) (ret := (some .int)) (by decide) rfl (Nat.le_of_ble_eq_true rfl) ?_
  intro p e s m args below meth c A ls hC hr hmn hG hl
  have hx := hC.x
  have hb := hC.b
  have hl : lv_has ls 5 [(0, .ref hs), (1, .int i9), (2, .int d9)] := hl
  have hi_RX1 : ∀ w ∈ wsX10, w ∈ wsX3_done := fun w h => List.mem_cons_of_mem _ (List.mem_append_left _ (List.mem_append_left _ (List.mem_append_left _ (List.mem_append_left _ (List.mem_append_left _ (List.mem_append_right _ h))))))
  have hn30 : ni ≤ 30 ∧ nr ≤ 12 := hSh.2.2.1
  refine lv_aload_n hx hb dX3_done_0 rfl (lv_at hl 0 rfl) ?_
  refine lv_iload_n hx hb dX3_done_1 rfl (lv_at hl 1 rfl) ?_
  refine k_callV (nn := 1) (C := RX3) hC hG ks hSh.1 (ci := 4) rfl (K_X3_itemAt l hfl D cI cJ cZ cO z mi ws ks hs hd lr li hpr kp lim ret clm fP ni ia pi par rt ra wa me va dn nr pr fA kli kei edi leni mci gi klr ker edr lenr mcr gr hSh i9) gX3_done_X3_itemAt rfl rfl (by decide +kernel) ⟨(Nat.le_of_ble_eq_true rfl), (Nat.le_of_ble_eq_true rfl)⟩ hl.1 rfl (Nat.le_of_ble_eq_true rfl) dX3_done_2 ⟨(Nat.le_of_ble_eq_true rfl), (Nat.le_of_ble_eq_true rfl)⟩ (fun E9 ce9 q9 u9 H9 locs9 hp9 hG9 h91 h92 h93 => k_out hC hG9 h91 h92 h93 (by obtain ⟨rfl, rfl, h99⟩ := hp9; exact ⟨rfl, Or.inl ⟨rfl, h99⟩⟩) (Nat.le_of_ble_eq_true rfl) (Nat.le_of_ble_eq_true rfl)) (fun v9 u9 H locs hp hG => ?_)
  obtain ⟨⟨j1, hj2, hi3, rfl⟩, hu9⟩ := hp
  rw [hu9] at hG
  have hk4 : kNum i9 ni = true := by rw [hi3]; exact kNum_of hj2 (by omega)
  refine W.widen (k := 1) (n := 6) (Nat.le_of_ble_eq_true rfl) (Nat.le_of_ble_eq_true rfl) ?_
  refine W.eq (g2 := F0 m 5 ls [.ref (ia j1)]) rfl ?_
  refine lv_astore_n (lv' := [(3, .ref (ia j1)), (0, .ref hs), (1, .int i9), (2, .int d9)]) hx hb dX3_done_5 rfl hl (by decide) rfl (fun ls hl => ?_)
  refine lv_iload_n hx hb dX3_done_6 rfl (lv_at hl 3 rfl) ?_
  refine lv_iconst (v := 0) hx hb dX3_done_7 (by decide) ?_
  refine lv_bipush (v := 100) hx hb dX3_done_8 (by decide) ?_
  refine k_callS (nn := 3) hC hG (K_X3_checkRange l hfl D cI cJ cZ cO z mi (ws) d9 0 100) gX3_done_X3_checkRange rfl rfl (by decide +kernel) ⟨(Nat.le_of_ble_eq_true rfl), (Nat.le_of_ble_eq_true rfl)⟩ hl.1 rfl (Nat.le_of_ble_eq_true rfl) dX3_done_10 ⟨(Nat.le_of_ble_eq_true rfl), (Nat.le_of_ble_eq_true rfl)⟩ (fun E9 ce9 q9 u9 H9 locs9 hp9 hG9 h91 h92 h93 => k_out hC hG9 h91 h92 h93 (by obtain ⟨rfl, hu8, h99⟩ := hp9; rw [hu8]; exact ⟨rfl, Or.inr (Or.inl ⟨rfl, hk4, h99⟩)⟩) (Nat.le_of_ble_eq_true rfl) (Nat.le_of_ble_eq_true rfl)) (fun v9 u9 H locs hp hG => ?_)
  obtain ⟨rfl, hu9, hr5⟩ := hp
  rw [hu9] at hG
  refine W.widen (k := 2) (n := 12) (Nat.le_of_ble_eq_true rfl) (Nat.le_of_ble_eq_true rfl) ?_
  refine W.eq (g2 := F0 m 13 ls []) rfl ?_
  refine lv_aload_n hx hb dX3_done_13 rfl (lv_at hl 0 rfl) ?_
  refine k_callS (nn := 1) hC hG (K_X3_checkLeaf l hfl D cI cJ cZ cO z mi ws ks hs hd lr li hpr kp lim ret clm fP ni ia pi par rt ra wa me va dn nr pr fA kli kei edi leni mci gi klr ker edr lenr mcr gr hSh j1 hj2) gX3_done_X3_checkLeaf rfl rfl (by decide +kernel) ⟨(Nat.le_of_ble_eq_true rfl), (Nat.le_of_ble_eq_true rfl)⟩ hl.1 rfl (Nat.le_of_ble_eq_true rfl) dX3_done_14 ⟨(Nat.le_of_ble_eq_true rfl), (Nat.le_of_ble_eq_true rfl)⟩ (fun E9 ce9 q9 u9 H9 locs9 hp9 hG9 h91 h92 h93 => k_out hC hG9 h91 h92 h93 (by obtain ⟨rfl, rfl, h98⟩ := hp9; exact ⟨rfl, Or.inr (Or.inr (⟨rfl, hk4, hr5, ((kLe_at hi3 (by omega)).trans h98)⟩))⟩) (Nat.le_of_ble_eq_true rfl) (Nat.le_of_ble_eq_true rfl)) (fun v9 u9 H locs hp hG => ?_)
  obtain ⟨rfl, hu9, hc6⟩ := hp
  rw [hu9] at hG
  have hk7 : kLe rt i9 = true := (kLe_at hi3 (by omega)).trans hc6
  refine W.widen (k := 3) (n := 18) (Nat.le_of_ble_eq_true rfl) (Nat.le_of_ble_eq_true rfl) ?_
  refine W.eq (g2 := F0 m 17 ls []) rfl ?_
  refine lv_aload_n hx hb dX3_done_17 rfl (lv_at hl 0 rfl) ?_
  refine k_get (C := RX1) (T := TX1) (N := 6) (ci := 2) (v := .int (dn j1)) (fs := [va_rf ((par j1).map ia), va_rf ((rt j1).map ra), .int (wa j1), .int (me j1), .int (va j1), .int (dn j1)]) hC hG hi_RX1 (pi j1) (hSh.2.2.2.1.1 j1 hj2) rfl 5 (by decide) (List.mem_of_getElem? (i := 1) rfl) rfl rfl dX3_done_18 ?_
  refine lv_istore (lv' := [(4, .int (dn j1)), (3, .ref (ia j1)), (0, .ref hs), (1, .int i9), (2, .int d9)]) hx hb dX3_done_21 hl (by decide) rfl (fun ls hl => ?_)
  refine lv_aload_n hx hb dX3_done_23 rfl (lv_at hl 1 rfl) ?_
  refine lv_iload_n hx hb dX3_done_24 rfl (lv_at hl 4 rfl) ?_
  refine k_put (C := RX1) (T := TX1) (N := 6) (ci := 2) (v := .int d9) (fs := [va_rf ((par j1).map ia), va_rf ((rt j1).map ra), .int (wa j1), .int (me j1), .int (va j1), .int (dn j1)]) hC hG hi_RX1 tyX1_ok nmX1 (pi j1) (hSh.2.2.2.1.1 j1 hj2) rfl 5 (by decide) (List.mem_of_getElem? (i := 1) rfl) rfl rfl rfl rfl (Nat.le_of_ble_eq_true rfl) dX3_done_25 (fun H locs hG => ?_)
  have hG : kG D A s (ws.set (pi j1) (ia j1, .inr (2, [va_rf ((par j1).map ia), va_rf ((rt j1).map ra), .int (wa j1), .int (me j1), .int (va j1), .int d9]))) H locs := hG
  refine lv_iload hx hb dX3_done_28 (lv_at hl 0 rfl) ?_
  exact k_reti hC hr hG ⟨⟨j1, hj2, hi3, rfl, rfl⟩, hr5, hk7⟩ (Nat.le_of_ble_eq_true rfl) (Nat.le_of_ble_eq_true rfl) dX3_done_30

/-- whether item i's variation may be changed so -/
def kVr (va : Nat → Int32) (i q : Int32) : Bool := bif decide ((va i.toNatClampNeg + q) < (-20000)) then false else decide ((va i.toNatClampNeg + q) ≤ 20000)
theorem kVr_at {va : Nat → Int32} {i q : Int32} {j : Nat} (hi : i = nI j) (hj : j < 2 ^ 31) : kVr va i q = bif decide ((va j + q) < (-20000)) then false else decide ((va j + q) ≤ 20000) := by
  subst hi
  unfold kVr
  rw [nI_clamp hj]

set_option maxHeartbeats 4000000 in
set_option maxRecDepth 100000 in
/-- vary -/
theorem K_X3_vary (l : Launch) (hfl : l.stackTraces = false) (D : va_G) (cI cJ cZ cO : ClassId) (z mi : Nat) (ws : va_W) (ks : Nat) (hs : Nat) (hd : Nat) (lr : Nat) (li : Nat) (hpr : Nat) (kp : Nat) (lim : Int32) (ret : Int32) (clm : Int64) (fP : Nat → Int32) (ni : Nat) (ia : Nat → Nat) (pi : Nat → Nat) (par : Nat → Option Nat) (rt : Nat → Option Nat) (ra : Nat → Nat) (wa : Nat → Int32) (me : Nat → Int32) (va : Nat → Int32) (dn : Nat → Int32) (nr : Nat) (pr : Nat → Nat) (fA : Nat → Int32) (kli : Nat) (kei : Nat) (edi : Nat) (leni : Nat) (mci : Int32) (gi : Nat → Option Nat) (klr : Nat) (ker : Nat) (edr : Nat) (lenr : Nat) (mcr : Int32) (gr : Nat → Option Nat) (hSh : kSh cI cO z ws ks hs hd lr li hpr kp lim ret clm fP ni ia pi par rt ra wa me va dn nr pr fA kli kei edi leni mci gi klr ker edr lenr mcr gr) (i9 q9 : Int32) : kM l D (kTy cI cJ cZ cO) z mi yX3_vary wsX3_vary ({ frames := 7, cells := 4, slots := 24, locals := 141 } : Room) [.ref hs, .int i9, .int q9] (ws) (fun v u => (∃ j, j < ni ∧ i9 = nI j ∧ v = some (.int (va j + q9)) ∧ u = ws.set (pi j) (ia j, .inr (2, [va_rf ((par j).map ia), va_rf ((rt j).map ra), .int (wa j), .int (me j), .int (va j + q9), .int (dn j)]))) ∧ (kIn q9 (-5000) 5000) = true ∧ kLe rt i9 = true ∧ kVr va i9 q9 = true) (fun E u => u = ws ∧ ((E = kIOB ∧ (kNum i9 ni) = false) ∨ ((E = kIAE ∧ (kNum i9 ni) = true ∧ (kIn q9 (-5000) 5000) = false) ∨ ((E = kISE ∧ (kNum i9 ni) = true ∧ (kIn q9 (-5000) 5000) = true ∧ (kLe rt i9) = false) ∨ (E = kISE ∧ (kNum i9 ni) = true ∧ (kIn q9 (-5000) 5000) = true ∧ (kLe rt i9) = true ∧ (kVr va i9 q9) = false))))) := by
  refine kM.of hfl (cc := cX3_vary) (maxL := 5) (ret := (some .int)) (by decide) rfl (Nat.le_of_ble_eq_true rfl) ?_
  intro p e s m args below meth c A ls hC hr hmn hG hl
  have hx := hC.x
  have hb := hC.b
  have hl : lv_has ls 5 [(0, .ref hs), (1, .int i9), (2, .int q9)] := hl
  have hi_RX1 : ∀ w ∈ wsX10, w ∈ wsX3_vary := fun w h => List.mem_cons_of_mem _ (List.mem_append_left _ (List.mem_append_left _ (List.mem_append_left _ (List.mem_append_left _ (List.mem_append_left _ (List.mem_append_right _ h))))))
  have hn30 : ni ≤ 30 ∧ nr ≤ 12 := hSh.2.2.1
  refine lv_aload_n hx hb dX3_vary_0 rfl (lv_at hl 0 rfl) ?_
  refine lv_iload_n hx hb dX3_vary_1 rfl (lv_at hl 1 rfl) ?_
  refine k_callV (nn := 1) (C := RX3) hC hG ks hSh.1 (ci := 4) rfl (K_X3_itemAt l hfl D cI cJ cZ cO z mi ws ks hs hd lr li hpr kp lim ret clm fP ni ia pi par rt ra wa me va dn nr pr fA kli kei edi leni mci gi klr ker edr lenr mcr gr hSh i9) gX3_vary_X3_itemAt rfl rfl (by decide +kernel) ⟨(Nat.le_of_ble_eq_true rfl), (Nat.le_of_ble_eq_true rfl)⟩ hl.1 rfl (Nat.le_of_ble_eq_true rfl) dX3_vary_2 ⟨(Nat.le_of_ble_eq_true rfl), (Nat.le_of_ble_eq_true rfl)⟩ (fun E9 ce9 q9 u9 H9 locs9 hp9 hG9 h91 h92 h93 => k_out hC hG9 h91 h92 h93 (by obtain ⟨rfl, rfl, h99⟩ := hp9; exact ⟨rfl, Or.inl ⟨rfl, h99⟩⟩) (Nat.le_of_ble_eq_true rfl) (Nat.le_of_ble_eq_true rfl)) (fun v9 u9 H locs hp hG => ?_)
  obtain ⟨⟨j1, hj2, hi3, rfl⟩, hu9⟩ := hp
  rw [hu9] at hG
  have hk4 : kNum i9 ni = true := by rw [hi3]; exact kNum_of hj2 (by omega)
  refine W.widen (k := 1) (n := 6) (Nat.le_of_ble_eq_true rfl) (Nat.le_of_ble_eq_true rfl) ?_
  refine W.eq (g2 := F0 m 5 ls [.ref (ia j1)]) rfl ?_
  refine lv_astore_n (lv' := [(3, .ref (ia j1)), (0, .ref hs), (1, .int i9), (2, .int q9)]) hx hb dX3_vary_5 rfl hl (by decide) rfl (fun ls hl => ?_)
  refine lv_iload_n hx hb dX3_vary_6 rfl (lv_at hl 3 rfl) ?_
  refine lv_sipush (v := (-5000)) hx hb dX3_vary_7 (by decide) ?_
  refine lv_sipush (v := 5000) hx hb dX3_vary_10 (by decide) ?_
  refine k_callS (nn := 3) hC hG (K_X3_checkRange l hfl D cI cJ cZ cO z mi (ws) q9 (-5000) 5000) gX3_vary_X3_checkRange rfl rfl (by decide +kernel) ⟨(Nat.le_of_ble_eq_true rfl), (Nat.le_of_ble_eq_true rfl)⟩ hl.1 rfl (Nat.le_of_ble_eq_true rfl) dX3_vary_13 ⟨(Nat.le_of_ble_eq_true rfl), (Nat.le_of_ble_eq_true rfl)⟩ (fun E9 ce9 q9 u9 H9 locs9 hp9 hG9 h91 h92 h93 => k_out hC hG9 h91 h92 h93 (by obtain ⟨rfl, hu8, h99⟩ := hp9; rw [hu8]; exact ⟨rfl, Or.inr (Or.inl ⟨rfl, hk4, h99⟩)⟩) (Nat.le_of_ble_eq_true rfl) (Nat.le_of_ble_eq_true rfl)) (fun v9 u9 H locs hp hG => ?_)
  obtain ⟨rfl, hu9, hr5⟩ := hp
  rw [hu9] at hG
  refine W.widen (k := 2) (n := 12) (Nat.le_of_ble_eq_true rfl) (Nat.le_of_ble_eq_true rfl) ?_
  refine W.eq (g2 := F0 m 16 ls []) rfl ?_
  refine lv_aload_n hx hb dX3_vary_16 rfl (lv_at hl 0 rfl) ?_
  refine k_callS (nn := 1) hC hG (K_X3_checkLeaf l hfl D cI cJ cZ cO z mi ws ks hs hd lr li hpr kp lim ret clm fP ni ia pi par rt ra wa me va dn nr pr fA kli kei edi leni mci gi klr ker edr lenr mcr gr hSh j1 hj2) gX3_vary_X3_checkLeaf rfl rfl (by decide +kernel) ⟨(Nat.le_of_ble_eq_true rfl), (Nat.le_of_ble_eq_true rfl)⟩ hl.1 rfl (Nat.le_of_ble_eq_true rfl) dX3_vary_17 ⟨(Nat.le_of_ble_eq_true rfl), (Nat.le_of_ble_eq_true rfl)⟩ (fun E9 ce9 q9 u9 H9 locs9 hp9 hG9 h91 h92 h93 => k_out hC hG9 h91 h92 h93 (by obtain ⟨rfl, rfl, h98⟩ := hp9; exact ⟨rfl, Or.inr (Or.inr (Or.inl ⟨rfl, hk4, hr5, ((kLe_at hi3 (by omega)).trans h98)⟩))⟩) (Nat.le_of_ble_eq_true rfl) (Nat.le_of_ble_eq_true rfl)) (fun v9 u9 H locs hp hG => ?_)
  obtain ⟨rfl, hu9, hc6⟩ := hp
  rw [hu9] at hG
  have hk7 : kLe rt i9 = true := (kLe_at hi3 (by omega)).trans hc6
  refine W.widen (k := 3) (n := 18) (Nat.le_of_ble_eq_true rfl) (Nat.le_of_ble_eq_true rfl) ?_
  refine W.eq (g2 := F0 m 20 ls []) rfl ?_
  refine lv_aload_n hx hb dX3_vary_20 rfl (lv_at hl 0 rfl) ?_
  refine k_get (C := RX1) (T := TX1) (N := 6) (ci := 2) (v := .int (va j1)) (fs := [va_rf ((par j1).map ia), va_rf ((rt j1).map ra), .int (wa j1), .int (me j1), .int (va j1), .int (dn j1)]) hC hG hi_RX1 (pi j1) (hSh.2.2.2.1.1 j1 hj2) rfl 4 (by decide) (List.mem_of_getElem? (i := 3) rfl) rfl rfl dX3_vary_21 ?_
  refine lv_iload_n hx hb dX3_vary_24 rfl (lv_at hl 3 rfl) ?_
  refine lv_iadd hx hb dX3_vary_25 ?_
  refine lv_istore (lv' := [(4, .int ((va j1) + q9)), (3, .ref (ia j1)), (0, .ref hs), (1, .int i9), (2, .int q9)]) hx hb dX3_vary_26 hl (by decide) rfl (fun ls hl => ?_)
  refine lv_iload hx hb dX3_vary_28 (lv_at hl 0 rfl) ?_
  refine lv_sipush (v := (-20000)) hx hb dX3_vary_30 (by decide) ?_
  refine k_icmp_lt (tgt := 44) hx hb dX3_vary_33 (by decide) (fun c_8 => ?_) (fun c_8 => ?_)
  · exact k_throw (text := "too great a variation") (is := 153) (ic := 60) (cls := "java/lang/IllegalStateException") hC hG rfl (by decide +kernel) (List.mem_of_getElem? (i := 1) rfl) (List.mem_of_getElem? (i := 2) rfl) (by decide) (fun w h => List.mem_cons_of_mem _ (List.mem_append_left _ (List.mem_append_left _ (List.mem_append_right _ h)))) (by decide +kernel) (by decide +kernel) hl.1 dX3_vary_44 dX3_vary_47 dX3_vary_48 dX3_vary_50 dX3_vary_53 ⟨(Nat.le_of_ble_eq_true rfl), (Nat.le_of_ble_eq_true rfl)⟩ ⟨(Nat.le_of_ble_eq_true rfl), (Nat.le_of_ble_eq_true rfl)⟩ ⟨(Nat.le_of_ble_eq_true rfl), (Nat.le_of_ble_eq_true rfl)⟩ (⟨rfl, Or.inr (Or.inr (Or.inr (⟨rfl, hk4, hr5, hk7, (by rw [kVr_at hi3 (by omega), c_8]; first | done | rfl)⟩)))⟩)
  · refine lv_iload hx hb dX3_vary_36 (lv_at hl 0 rfl) ?_
    refine lv_sipush (v := 20000) hx hb dX3_vary_38 (by decide) ?_
    refine k_icmp_le (tgt := 54) hx hb dX3_vary_41 (by decide) (fun c_9 => ?_) (fun c_9 => ?_)
    · refine lv_aload_n hx hb dX3_vary_54 rfl (lv_at hl 1 rfl) ?_
      refine lv_iload hx hb dX3_vary_55 (lv_at hl 0 rfl) ?_
      refine k_put (C := RX1) (T := TX1) (N := 6) (ci := 2) (v := .int ((va j1) + q9)) (fs := [va_rf ((par j1).map ia), va_rf ((rt j1).map ra), .int (wa j1), .int (me j1), .int (va j1), .int (dn j1)]) hC hG hi_RX1 tyX1_ok nmX1 (pi j1) (hSh.2.2.2.1.1 j1 hj2) rfl 4 (by decide) (List.mem_of_getElem? (i := 3) rfl) rfl rfl rfl rfl (Nat.le_of_ble_eq_true rfl) dX3_vary_57 (fun H locs hG => ?_)
      have hG : kG D A s (ws.set (pi j1) (ia j1, .inr (2, [va_rf ((par j1).map ia), va_rf ((rt j1).map ra), .int (wa j1), .int (me j1), .int ((va j1) + q9), .int (dn j1)]))) H locs := hG
      refine lv_iload hx hb dX3_vary_60 (lv_at hl 0 rfl) ?_
      exact k_reti hC hr hG ⟨⟨j1, hj2, hi3, rfl, rfl⟩, hr5, hk7, by rw [kVr_at hi3 (by omega), c_8, c_9]; first | done | rfl⟩ (Nat.le_of_ble_eq_true rfl) (Nat.le_of_ble_eq_true rfl) dX3_vary_62
    · exact k_throw (text := "too great a variation") (is := 153) (ic := 60) (cls := "java/lang/IllegalStateException") hC hG rfl (by decide +kernel) (List.mem_of_getElem? (i := 1) rfl) (List.mem_of_getElem? (i := 2) rfl) (by decide) (fun w h => List.mem_cons_of_mem _ (List.mem_append_left _ (List.mem_append_left _ (List.mem_append_right _ h)))) (by decide +kernel) (by decide +kernel) hl.1 dX3_vary_44 dX3_vary_47 dX3_vary_48 dX3_vary_50 dX3_vary_53 ⟨(Nat.le_of_ble_eq_true rfl), (Nat.le_of_ble_eq_true rfl)⟩ ⟨(Nat.le_of_ble_eq_true rfl), (Nat.le_of_ble_eq_true rfl)⟩ ⟨(Nat.le_of_ble_eq_true rfl), (Nat.le_of_ble_eq_true rfl)⟩ (⟨rfl, Or.inr (Or.inr (Or.inr (⟨rfl, hk4, hr5, hk7, (by rw [kVr_at hi3 (by omega), c_8, c_9]; first | done | rfl)⟩)))⟩)

