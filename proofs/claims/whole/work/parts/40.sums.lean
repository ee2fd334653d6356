theorem kSm_t {b : Nat → Bool} {f : Nat → Int64} {n : Nat} (h : b n = true) : kSm b f (n + 1) = kSm b f n + f n := by
  show (bif b n then kSm b f n + f n else kSm b f n) = _
  rw [h]; rfl
theorem kSm_f {b : Nat → Bool} {f : Nat → Int64} {n : Nat} (h : b n = false) : kSm b f (n + 1) = kSm b f n := by
  show (bif b n then kSm b f n + f n else kSm b f n) = _
  rw [h]; rfl
theorem kNI_lt {a b : Nat} (h : decide (nI a ≤ nI b) = false) (ha : a < 2 ^ 31) (hb : b < 2 ^ 31) : b < a := by
  rcases Nat.lt_or_ge b a with h9 | h9
  · exact h9
  · exact absurd (of_decide_eq_false h) (fun z => z (nI_le h9 (by omega)))
theorem kNI_le {a b : Nat} (h : decide (nI a ≤ nI b) = true) (ha : a < 2 ^ 31) (hb : b < 2 ^ 31) : a ≤ b := by
  rcases Nat.lt_or_ge b a with h9 | h9
  · exact absurd (of_decide_eq_true h) (nI_ge h9 (by omega))
  · exact h9

set_option maxHeartbeats 4000000 in
set_option maxRecDepth 100000 in
/-- total -/
theorem K_X3_total (l : Launch) (hfl : l.stackTraces = false) (D : va_G) (cI cJ cZ cO : ClassId) (z mi : Nat) (ws : va_W) (ks : Nat) (hs : Nat) (hd : Nat) (lr : Nat) (li : Nat) (hpr : Nat) (kp : Nat) (lim : Int32) (ret : Int32) (clm : Int64) (fP : Nat → Int32) (ni : Nat) (ia : Nat → Nat) (pi : Nat → Nat) (par : Nat → Option Nat) (rt : Nat → Option Nat) (ra : Nat → Nat) (wa : Nat → Int32) (me : Nat → Int32) (va : Nat → Int32) (dn : Nat → Int32) (nr : Nat) (pr : Nat → Nat) (fA : Nat → Int32) (kli : Nat) (kei : Nat) (edi : Nat) (leni : Nat) (mci : Int32) (gi : Nat → Option Nat) (klr : Nat) (ker : Nat) (edr : Nat) (lenr : Nat) (mcr : Int32) (gr : Nat → Option Nat) (hSh : kSh cI cO z ws ks hs hd lr li hpr kp lim ret clm fP ni ia pi par rt ra wa me va dn nr pr fA kli kei edi leni mci gi klr ker edr lenr mcr gr)  : kM l D (kTy cI cJ cZ cO) z mi yX3_total wsX3_total ({ frames := 3, cells := 0, slots := 0, locals := 64 } : Room) [.ref hs] (ws) (fun v u => v = some (.long (kTot (kOw fA fP rt wa me va) ni)) ∧ u = ws) (fun _ _ => False) := by
  refine kM.of hfl (cc := cX3_total) (maxL := 4) (ret := (some .long)) (by decide) rfl (Nat.le_of_ble_eq_true rfl) ?_
  intro p e s m args below meth c A ls hC hr hmn hG hl
  have hx := hC.x
  have hb := hC.b
  have hl : lv_has ls 4 [(0, .ref hs)] := hl
  have hi_RX3 : ∀ w ∈ wsX30, w ∈ wsX3_total := fun w h => List.mem_cons_of_mem _ (List.mem_append_left _ (List.mem_append_left _ (List.mem_append_left _ (List.mem_append_right _ h))))
  have hn30 : ni ≤ 30 ∧ nr ≤ 12 := hSh.2.2.1
  refine lv_lconst (v := 0) hx hb dX3_total_0 (by decide) ?_
  refine lv_lstore_n (lv' := [(1, .long 0), (0, .ref hs)]) hx hb dX3_total_1 rfl hl (by decide) rfl (fun ls hl => ?_)
  refine lv_iconst (v := 0) hx hb dX3_total_2 (by decide) ?_
  refine lv_istore_n (lv' := [(3, .int 0), (1, .long 0), (0, .ref hs)]) hx hb dX3_total_3 rfl hl (by decide) rfl (fun ls hl => ?_)
  refine k_loop (σ := Nat) (fun q9 => q9 ≤ ni) (fun q9 => ni - q9) (fun q9 => ws) (fun q9 => [(0, .ref hs), (1, .long (kTot (kOw fA fP rt wa me va) q9)), (3, .int (nI q9))]) 4 [] ?_ 0 (Nat.zero_le _) hG (lv_sub hl [2, 1, 0] rfl)
  intro q9
  obtain ⟨n, rfl⟩ : ∃ z9, z9 = q9 := ⟨_, rfl⟩
  intro hI ih H locs ls hG hl
  have hI : n ≤ ni := hI
  have hG : kG D A s (ws) H locs := hG
  have hl : lv_has ls 4 [(0, .ref hs), (1, .long (kTot (kOw fA fP rt wa me va) n)), (3, .int (nI n))] := hl
  refine lv_iload_n hx hb dX3_total_4 rfl (lv_at hl 2 rfl) ?_
  refine lv_aload_n hx hb dX3_total_5 rfl (lv_at hl 0 rfl) ?_
  refine k_get (C := RX3) (T := TX3) (N := 7) (ci := 4) (v := .ref li) (fs := [.ref hd, .ref lr, .ref li, .ref hpr, .int lim, .int ret, .long clm]) hC hG hi_RX3 ks hSh.1 rfl 2 (by decide) (List.mem_of_getElem? (i := 1) rfl) rfl rfl dX3_total_6 ?_
  refine k_callV (nn := 0) (C := RJx4a65c) hC hG kli hSh.2.2.2.2.2.2.1.1 (ci := 0) rfl (K_list_size l hfl D cI cJ cZ cO z mi (ws) kli li mci edi ni hSh.2.2.2.2.2.2.1.1) gX3_total_Jx4a65c_size_8abf5 rfl rfl (by decide +kernel) ⟨(Nat.le_of_ble_eq_true rfl), (Nat.le_of_ble_eq_true rfl)⟩ hl.1 rfl (Nat.le_of_ble_eq_true rfl) dX3_total_9 ⟨(Nat.le_of_ble_eq_true rfl), (Nat.le_of_ble_eq_true rfl)⟩ (fun _ _ _ _ _ _ hp => hp.elim) (fun v9 u9 H locs hp hG => ?_)
  obtain ⟨rfl, hu9⟩ := hp
  rw [hu9] at hG
  refine W.widen (k := 0) (n := 0) (Nat.le_of_ble_eq_true rfl) (Nat.le_of_ble_eq_true rfl) ?_
  refine W.eq (g2 := F0 m 12 ls [.int (nI ni), .int (nI n)]) rfl ?_
  refine k_icmp_ge (tgt := 39) hx hb dX3_total_12 (by decide) (fun c_1 => ?_) (fun c_1 => ?_)
  · have hn2 : n = ni := by have := kNI_le c_1 (by omega) (by omega); have h9 : n ≤ ni := hI; omega
    rw [hn2] at hl
    refine lv_lload_n hx hb dX3_total_39 rfl (lv_at hl 1 rfl) ?_
    exact k_retl hC hr hG ⟨rfl, rfl⟩ (Nat.le_of_ble_eq_true rfl) (Nat.le_of_ble_eq_true rfl) dX3_total_40
  · have hn1 : n < ni := kNI_lt c_1 (by omega) (by omega)
    refine lv_lload_n hx hb dX3_total_15 rfl (lv_at hl 1 rfl) ?_
    refine lv_aload_n hx hb dX3_total_16 rfl (lv_at hl 0 rfl) ?_
    refine lv_aload_n hx hb dX3_total_17 rfl (lv_at hl 0 rfl) ?_
    refine k_get (C := RX3) (T := TX3) (N := 7) (ci := 4) (v := .ref li) (fs := [.ref hd, .ref lr, .ref li, .ref hpr, .int lim, .int ret, .long clm]) hC hG hi_RX3 ks hSh.1 rfl 2 (by decide) (List.mem_of_getElem? (i := 1) rfl) rfl rfl dX3_total_18 ?_
    refine lv_iload_n hx hb dX3_total_21 rfl (lv_at hl 2 rfl) ?_
    obtain ⟨ai2, ai3, ai4, ai5⟩ := hSh.2.2.2.2.2.2.1.arr (j := n) hn1
    have hn30 : ni ≤ 30 ∧ nr ≤ 12 := hSh.2.2.1
    refine k_callV (nn := 1) (C := RJx4a65c) hC hG kli hSh.2.2.2.2.2.2.1.1 (ci := 0) rfl (K_list_get l hfl D cI cJ cZ cO z mi (ws) kli kei li mci edi ni leni gi n hn1 (by omega) (by omega) hSh.2.2.2.2.2.2.1.1 ai2) gX3_total_Jx4a65c_get_915e3 rfl rfl (by decide +kernel) ⟨(Nat.le_of_ble_eq_true rfl), (Nat.le_of_ble_eq_true rfl)⟩ hl.1 rfl (Nat.le_of_ble_eq_true rfl) dX3_total_22 ⟨(Nat.le_of_ble_eq_true rfl), (Nat.le_of_ble_eq_true rfl)⟩ (fun _ _ _ _ _ _ hp => hp.elim) (fun v9 u9 H locs hp hG => ?_)
    obtain ⟨rfl, hu9⟩ := hp
    rw [hu9] at hG
    refine W.widen (k := 0) (n := 0) (Nat.le_of_ble_eq_true rfl) (Nat.le_of_ble_eq_true rfl) ?_
    refine W.eq (g2 := F0 m 25 ls [va_rf (gi n), .ref hs, .long (kTot (kOw fA fP rt wa me va) n)]) rfl ?_
    refine k_topq (y := some (ia n)) (ai5 n hn1) ?_
    refine W.eq (g2 := F0 m 25 ls [.ref (ia n), .ref hs, .long (kTot (kOw fA fP rt wa me va) n)]) rfl ?_
    refine va_castS hx hb hC.o (hC.t _ (List.mem_of_getElem? (i := 2) rfl)) (hC.K.1 2 _ rfl).2 (va_recv hC.K hG.1 (ci := 2) (q := (RX1, TX1, 6)) rfl (hSh.2.2.2.1.1 n hn1)) dX3_total_25 ?_
    refine k_callV (nn := 1) (C := RX3) hC hG ks hSh.1 (ci := 4) rfl (K_X3_ownSum l hfl D cI cJ cZ cO z mi ws ks hs hd lr li hpr kp lim ret clm fP ni ia pi par rt ra wa me va dn nr pr fA kli kei edi leni mci gi klr ker edr lenr mcr gr hSh n hn1) gX3_total_X3_ownSum rfl rfl (by decide +kernel) ⟨(Nat.le_of_ble_eq_true rfl), (Nat.le_of_ble_eq_true rfl)⟩ hl.1 rfl (Nat.le_of_ble_eq_true rfl) dX3_total_28 ⟨(Nat.le_of_ble_eq_true rfl), (Nat.le_of_ble_eq_true rfl)⟩ (fun _ _ _ _ _ _ hp => hp.elim) (fun v9 u9 H locs hp hG => ?_)
    obtain ⟨rfl, hu9⟩ := hp
    rw [hu9] at hG
    refine W.widen (k := 0) (n := 0) (Nat.le_of_ble_eq_true rfl) (Nat.le_of_ble_eq_true rfl) ?_
    refine W.eq (g2 := F0 m 31 ls [.long (kOw fA fP rt wa me va n), .long (kTot (kOw fA fP rt wa me va) n)]) rfl ?_
    refine lv_ladd hx hb dX3_total_31 ?_
    refine k_topl (y := kTot (kOw fA fP rt wa me va) (n + 1)) rfl ?_
    refine lv_lstore_n (lv' := [(1, .long (kTot (kOw fA fP rt wa me va) (n + 1))), (0, .ref hs), (3, .int (nI n))]) hx hb dX3_total_32 rfl hl (by decide) rfl (fun ls hl => ?_)
    refine lv_iinc (v := (nI n) + 1) (lv' := [(3, .int ((nI n) + 1)), (1, .long (kTot (kOw fA fP rt wa me va) (n + 1))), (0, .ref hs)]) hx hb dX3_total_33 hl (k := 2) rfl rfl (by decide) rfl (fun ls hl => ?_)
    refine lv_goto (tgt := 4) hx hb dX3_total_36 (by decide) ?_
    rw [nI_1] at hl
    exact ih (n + 1) (show n + 1 ≤ ni from hn1) (by show ni - (n + 1) < ni - n; omega) _ _ _ hG (lv_sub hl [2, 1, 0] rfl)

set_option maxHeartbeats 4000000 in
set_option maxRecDepth 100000 in
/-- worth -/
theorem K_X3_worth (l : Launch) (hfl : l.stackTraces = false) (D : va_G) (cI cJ cZ cO : ClassId) (z mi : Nat) (ws : va_W) (ks : Nat) (hs : Nat) (hd : Nat) (lr : Nat) (li : Nat) (hpr : Nat) (kp : Nat) (lim : Int32) (ret : Int32) (clm : Int64) (fP : Nat → Int32) (ni : Nat) (ia : Nat → Nat) (pi : Nat → Nat) (par : Nat → Option Nat) (rt : Nat → Option Nat) (ra : Nat → Nat) (wa : Nat → Int32) (me : Nat → Int32) (va : Nat → Int32) (dn : Nat → Int32) (nr : Nat) (pr : Nat → Nat) (fA : Nat → Int32) (kli : Nat) (kei : Nat) (edi : Nat) (leni : Nat) (mci : Int32) (gi : Nat → Option Nat) (klr : Nat) (ker : Nat) (edr : Nat) (lenr : Nat) (mcr : Int32) (gr : Nat → Option Nat) (hSh : kSh cI cO z ws ks hs hd lr li hpr kp lim ret clm fP ni ia pi par rt ra wa me va dn nr pr fA kli kei edi leni mci gi klr ker edr lenr mcr gr)  : kM l D (kTy cI cJ cZ cO) z mi yX3_worth wsX3_worth ({ frames := 3, cells := 0, slots := 0, locals := 64 } : Room) [.ref hs] (ws) (fun v u => v = some (.long (kTot (fun j9 => (kOw fA fP rt wa me va j9 * (dn j9).toInt64) / 100) ni)) ∧ u = ws) (fun _ _ => False) := by
  refine kM.of hfl (cc := cX3_worth) (maxL := 5) (ret := (some .long)) (by decide) rfl (Nat.le_of_ble_eq_true rfl) ?_
  intro p e s m args below meth c A ls hC hr hmn hG hl
  have hx := hC.x
  have hb := hC.b
  have hl : lv_has ls 5 [(0, .ref hs)] := hl
  have hi_RX1 : ∀ w ∈ wsX10, w ∈ wsX3_worth := fun w h => List.mem_cons_of_mem _ (List.mem_append_left _ (List.mem_append_left _ (List.mem_append_right _ h)))
  have hi_RX3 : ∀ w ∈ wsX30, w ∈ wsX3_worth := fun w h => List.mem_cons_of_mem _ (List.mem_append_left _ (List.mem_append_left _ (List.mem_append_left _ (List.mem_append_right _ h))))
  have hn30 : ni ≤ 30 ∧ nr ≤ 12 := hSh.2.2.1
  refine lv_lconst (v := 0) hx hb dX3_worth_0 (by decide) ?_
  refine lv_lstore_n (lv' := [(1, .long 0), (0, .ref hs)]) hx hb dX3_worth_1 rfl hl (by decide) rfl (fun ls hl => ?_)
  refine lv_iconst (v := 0) hx hb dX3_worth_2 (by decide) ?_
  refine lv_istore_n (lv' := [(3, .int 0), (1, .long 0), (0, .ref hs)]) hx hb dX3_worth_3 rfl hl (by decide) rfl (fun ls hl => ?_)
  refine k_loop (σ := Nat) (fun q9 => q9 ≤ ni) (fun q9 => ni - q9) (fun q9 => ws) (fun q9 => [(0, .ref hs), (1, .long (kTot (fun j9 => (kOw fA fP rt wa me va j9 * (dn j9).toInt64) / 100) q9)), (3, .int (nI q9))]) 4 [] ?_ 0 (Nat.zero_le _) hG (lv_sub hl [2, 1, 0] rfl)
  intro q9
  obtain ⟨n, rfl⟩ : ∃ z9, z9 = q9 := ⟨_, rfl⟩
  intro hI ih H locs ls hG hl
  have hI : n ≤ ni := hI
  have hG : kG D A s (ws) H locs := hG
  have hl : lv_has ls 5 [(0, .ref hs), (1, .long (kTot (fun j9 => (kOw fA fP rt wa me va j9 * (dn j9).toInt64) / 100) n)), (3, .int (nI n))] := hl
  refine lv_iload_n hx hb dX3_worth_4 rfl (lv_at hl 2 rfl) ?_
  refine lv_aload_n hx hb dX3_worth_5 rfl (lv_at hl 0 rfl) ?_
  refine k_get (C := RX3) (T := TX3) (N := 7) (ci := 4) (v := .ref li) (fs := [.ref hd, .ref lr, .ref li, .ref hpr, .int lim, .int ret, .long clm]) hC hG hi_RX3 ks hSh.1 rfl 2 (by decide) (List.mem_of_getElem? (i := 1) rfl) rfl rfl dX3_worth_6 ?_
  refine k_callV (nn := 0) (C := RJx4a65c) hC hG kli hSh.2.2.2.2.2.2.1.1 (ci := 0) rfl (K_list_size l hfl D cI cJ cZ cO z mi (ws) kli li mci edi ni hSh.2.2.2.2.2.2.1.1) gX3_worth_Jx4a65c_size_8abf5 rfl rfl (by decide +kernel) ⟨(Nat.le_of_ble_eq_true rfl), (Nat.le_of_ble_eq_true rfl)⟩ hl.1 rfl (Nat.le_of_ble_eq_true rfl) dX3_worth_9 ⟨(Nat.le_of_ble_eq_true rfl), (Nat.le_of_ble_eq_true rfl)⟩ (fun _ _ _ _ _ _ hp => hp.elim) (fun v9 u9 H locs hp hG => ?_)
  obtain ⟨rfl, hu9⟩ := hp
  rw [hu9] at hG
  refine W.widen (k := 0) (n := 0) (Nat.le_of_ble_eq_true rfl) (Nat.le_of_ble_eq_true rfl) ?_
  refine W.eq (g2 := F0 m 12 ls [.int (nI ni), .int (nI n)]) rfl ?_
  refine k_icmp_ge (tgt := 54) hx hb dX3_worth_12 (by decide) (fun c_1 => ?_) (fun c_1 => ?_)
  · have hn2 : n = ni := by have := kNI_le c_1 (by omega) (by omega); have h9 : n ≤ ni := hI; omega
    rw [hn2] at hl
    refine lv_lload_n hx hb dX3_worth_54 rfl (lv_at hl 1 rfl) ?_
    exact k_retl hC hr hG ⟨rfl, rfl⟩ (Nat.le_of_ble_eq_true rfl) (Nat.le_of_ble_eq_true rfl) dX3_worth_55
  · have hn1 : n < ni := kNI_lt c_1 (by omega) (by omega)
    refine lv_aload_n hx hb dX3_worth_15 rfl (lv_at hl 0 rfl) ?_
    refine k_get (C := RX3) (T := TX3) (N := 7) (ci := 4) (v := .ref li) (fs := [.ref hd, .ref lr, .ref li, .ref hpr, .int lim, .int ret, .long clm]) hC hG hi_RX3 ks hSh.1 rfl 2 (by decide) (List.mem_of_getElem? (i := 1) rfl) rfl rfl dX3_worth_16 ?_
    refine lv_iload_n hx hb dX3_worth_19 rfl (lv_at hl 2 rfl) ?_
    obtain ⟨ai2, ai3, ai4, ai5⟩ := hSh.2.2.2.2.2.2.1.arr (j := n) hn1
    have hn30 : ni ≤ 30 ∧ nr ≤ 12 := hSh.2.2.1
    refine k_callV (nn := 1) (C := RJx4a65c) hC hG kli hSh.2.2.2.2.2.2.1.1 (ci := 0) rfl (K_list_get l hfl D cI cJ cZ cO z mi (ws) kli kei li mci edi ni leni gi n hn1 (by omega) (by omega) hSh.2.2.2.2.2.2.1.1 ai2) gX3_worth_Jx4a65c_get_915e3 rfl rfl (by decide +kernel) ⟨(Nat.le_of_ble_eq_true rfl), (Nat.le_of_ble_eq_true rfl)⟩ hl.1 rfl (Nat.le_of_ble_eq_true rfl) dX3_worth_20 ⟨(Nat.le_of_ble_eq_true rfl), (Nat.le_of_ble_eq_true rfl)⟩ (fun _ _ _ _ _ _ hp => hp.elim) (fun v9 u9 H locs hp hG => ?_)
    obtain ⟨rfl, hu9⟩ := hp
    rw [hu9] at hG
    refine W.widen (k := 0) (n := 0) (Nat.le_of_ble_eq_true rfl) (Nat.le_of_ble_eq_true rfl) ?_
    refine W.eq (g2 := F0 m 23 ls [va_rf (gi n)]) rfl ?_
    refine k_topq (y := some (ia n)) (ai5 n hn1) ?_
    refine W.eq (g2 := F0 m 23 ls [.ref (ia n)]) rfl ?_
    refine va_castS hx hb hC.o (hC.t _ (List.mem_of_getElem? (i := 2) rfl)) (hC.K.1 2 _ rfl).2 (va_recv hC.K hG.1 (ci := 2) (q := (RX1, TX1, 6)) rfl (hSh.2.2.2.1.1 n hn1)) dX3_worth_23 ?_
    refine lv_astore (lv' := [(4, .ref (ia n)), (0, .ref hs), (1, .long (kTot (fun j9 => (kOw fA fP rt wa me va j9 * (dn j9).toInt64) / 100) n)), (3, .int (nI n))]) hx hb dX3_worth_26 hl (by decide) rfl (fun ls hl => ?_)
    refine lv_lload_n hx hb dX3_worth_28 rfl (lv_at hl 2 rfl) ?_
    refine lv_aload_n hx hb dX3_worth_29 rfl (lv_at hl 1 rfl) ?_
    refine lv_aload hx hb dX3_worth_30 (lv_at hl 0 rfl) ?_
    refine k_callV (nn := 1) (C := RX3) hC hG ks hSh.1 (ci := 4) rfl (K_X3_ownSum l hfl D cI cJ cZ cO z mi ws ks hs hd lr li hpr kp lim ret clm fP ni ia pi par rt ra wa me va dn nr pr fA kli kei edi leni mci gi klr ker edr lenr mcr gr hSh n hn1) gX3_worth_X3_ownSum rfl rfl (by decide +kernel) ⟨(Nat.le_of_ble_eq_true rfl), (Nat.le_of_ble_eq_true rfl)⟩ hl.1 rfl (Nat.le_of_ble_eq_true rfl) dX3_worth_32 ⟨(Nat.le_of_ble_eq_true rfl), (Nat.le_of_ble_eq_true rfl)⟩ (fun _ _ _ _ _ _ hp => hp.elim) (fun v9 u9 H locs hp hG => ?_)
    obtain ⟨rfl, hu9⟩ := hp
    rw [hu9] at hG
    refine W.widen (k := 0) (n := 0) (Nat.le_of_ble_eq_true rfl) (Nat.le_of_ble_eq_true rfl) ?_
    refine W.eq (g2 := F0 m 35 ls [.long (kOw fA fP rt wa me va n), .long (kTot (fun j9 => (kOw fA fP rt wa me va j9 * (dn j9).toInt64) / 100) n)]) rfl ?_
    refine lv_aload hx hb dX3_worth_35 (lv_at hl 0 rfl) ?_
    refine k_get (C := RX1) (T := TX1) (N := 6) (ci := 2) (v := .int (dn n)) (fs := [va_rf ((par n).map ia), va_rf ((rt n).map ra), .int (wa n), .int (me n), .int (va n), .int (dn n)]) hC hG hi_RX1 (pi n) (hSh.2.2.2.1.1 n hn1) rfl 5 (by decide) (List.mem_of_getElem? (i := 3) rfl) rfl rfl dX3_worth_37 ?_
    refine lv_i2l hx hb dX3_worth_40 rfl ?_
    refine lv_lmul hx hb dX3_worth_41 ?_
    refine lv_ldc2 (v := 100) hx hb hC.o (hC.t _ (List.mem_of_getElem? (i := 4) rfl)) dX3_worth_42 ?_
    refine lv_ldiv hx hb dX3_worth_45 (by decide) ?_
    refine lv_ladd hx hb dX3_worth_46 ?_
    refine k_topl (y := kTot (fun j9 => (kOw fA fP rt wa me va j9 * (dn j9).toInt64) / 100) (n + 1)) rfl ?_
    refine lv_lstore_n (lv' := [(1, .long (kTot (fun j9 => (kOw fA fP rt wa me va j9 * (dn j9).toInt64) / 100) (n + 1))), (4, .ref (ia n)), (0, .ref hs), (3, .int (nI n))]) hx hb dX3_worth_47 rfl hl (by decide) rfl (fun ls hl => ?_)
    refine lv_iinc (v := (nI n) + 1) (lv' := [(3, .int ((nI n) + 1)), (1, .long (kTot (fun j9 => (kOw fA fP rt wa me va j9 * (dn j9).toInt64) / 100) (n + 1))), (4, .ref (ia n)), (0, .ref hs)]) hx hb dX3_worth_48 hl (k := 3) rfl rfl (by decide) rfl (fun ls hl => ?_)
    refine lv_goto (tgt := 4) hx hb dX3_worth_51 (by decide) ?_
    rw [nI_1] at hl
    exact ih (n + 1) (show n + 1 ≤ ni from hn1) (by show ni - (n + 1) < ni - n; omega) _ _ _ hG (lv_sub hl [3, 1, 0] rfl)

set_option maxHeartbeats 4000000 in
set_option maxRecDepth 100000 in
/-- sum -/
theorem K_X3_sum (l : Launch) (hfl : l.stackTraces = false) (D : va_G) (cI cJ cZ cO : ClassId) (z mi : Nat) (ws : va_W) (ks : Nat) (hs : Nat) (hd : Nat) (lr : Nat) (li : Nat) (hpr : Nat) (kp : Nat) (lim : Int32) (ret : Int32) (clm : Int64) (fP : Nat → Int32) (ni : Nat) (ia : Nat → Nat) (pi : Nat → Nat) (par : Nat → Option Nat) (rt : Nat → Option Nat) (ra : Nat → Nat) (wa : Nat → Int32) (me : Nat → Int32) (va : Nat → Int32) (dn : Nat → Int32) (nr : Nat) (pr : Nat → Nat) (fA : Nat → Int32) (kli : Nat) (kei : Nat) (edi : Nat) (leni : Nat) (mci : Int32) (gi : Nat → Option Nat) (klr : Nat) (ker : Nat) (edr : Nat) (lenr : Nat) (mcr : Int32) (gr : Nat → Option Nat) (hSh : kSh cI cO z ws ks hs hd lr li hpr kp lim ret clm fP ni ia pi par rt ra wa me va dn nr pr fA kli kei edi leni mci gi klr ker edr lenr mcr gr) (i9 : Int32) : kM l D (kTy cI cJ cZ cO) z mi yX3_sum wsX3_sum ({ frames := 7, cells := 1, slots := 6, locals := 141 } : Room) [.ref hs, .int i9] (ws) (fun v u => (∃ j, j < ni ∧ i9 = nI j ∧ v = some (.long (kSm (fun j9 => kSu par j 31 (some j9)) (kOw fA fP rt wa me va) ni))) ∧ u = ws) (fun E u => u = ws ∧ (E = kIOB ∧ (kNum i9 ni) = false)) := by
  refine kM.of hfl (cc := cX3_sum) (maxL := 7) (ret := (some .long)) (by decide) rfl (Nat.le_of_ble_eq_true rfl) ?_
  intro p e s m args below meth c A ls hC hr hmn hG hl
  have hx := hC.x
  have hb := hC.b
  have hl : lv_has ls 7 [(0, .ref hs), (1, .int i9)] := hl
  have hi_RX3 : ∀ w ∈ wsX30, w ∈ wsX3_sum := fun w h => List.mem_cons_of_mem _ (List.mem_append_left _ (List.mem_append_left _ (List.mem_append_left _ (List.mem_append_left _ (List.mem_append_right _ h)))))
  have hn30 : ni ≤ 30 ∧ nr ≤ 12 := hSh.2.2.1
  refine lv_aload_n hx hb dX3_sum_0 rfl (lv_at hl 0 rfl) ?_
  refine lv_iload_n hx hb dX3_sum_1 rfl (lv_at hl 1 rfl) ?_
  refine k_callV (nn := 1) (C := RX3) hC hG ks hSh.1 (ci := 4) rfl (K_X3_itemAt l hfl D cI cJ cZ cO z mi ws ks hs hd lr li hpr kp lim ret clm fP ni ia pi par rt ra wa me va dn nr pr fA kli kei edi leni mci gi klr ker edr lenr mcr gr hSh i9) gX3_sum_X3_itemAt rfl rfl (by decide +kernel) ⟨(Nat.le_of_ble_eq_true rfl), (Nat.le_of_ble_eq_true rfl)⟩ hl.1 rfl (Nat.le_of_ble_eq_true rfl) dX3_sum_2 ⟨(Nat.le_of_ble_eq_true rfl), (Nat.le_of_ble_eq_true rfl)⟩ (fun E9 ce9 q9 u9 H9 locs9 hp9 hG9 h91 h92 h93 => k_out hC hG9 h91 h92 h93 (by obtain ⟨rfl, rfl, h99⟩ := hp9; exact ⟨rfl, ⟨rfl, h99⟩⟩) (Nat.le_of_ble_eq_true rfl) (Nat.le_of_ble_eq_true rfl)) (fun v9 u9 H locs hp hG => ?_)
  obtain ⟨⟨j1, hj2, hi3, rfl⟩, hu9⟩ := hp
  rw [hu9] at hG
  have hk4 : kNum i9 ni = true := by rw [hi3]; exact kNum_of hj2 (by omega)
  refine W.widen (k := 1) (n := 6) (Nat.le_of_ble_eq_true rfl) (Nat.le_of_ble_eq_true rfl) ?_
  refine W.eq (g2 := F0 m 5 ls [.ref (ia j1)]) rfl ?_
  refine lv_astore_n (lv' := [(2, .ref (ia j1)), (0, .ref hs), (1, .int i9)]) hx hb dX3_sum_5 rfl hl (by decide) rfl (fun ls hl => ?_)
  refine lv_lconst (v := 0) hx hb dX3_sum_6 (by decide) ?_
  refine lv_lstore_n (lv' := [(3, .long 0), (2, .ref (ia j1)), (0, .ref hs), (1, .int i9)]) hx hb dX3_sum_7 rfl hl (by decide) rfl (fun ls hl => ?_)
  refine lv_iconst (v := 0) hx hb dX3_sum_8 (by decide) ?_
  refine lv_istore (lv' := [(5, .int 0), (3, .long 0), (2, .ref (ia j1)), (0, .ref hs), (1, .int i9)]) hx hb dX3_sum_9 hl (by decide) rfl (fun ls hl => ?_)
  refine k_loop (σ := Nat) (fun q9 => q9 ≤ ni) (fun q9 => ni - q9) (fun q9 => ws) (fun q9 => [(0, .ref hs), (1, .int i9), (2, .ref (ia j1)), (3, .long (kSm (fun j9 => kSu par j1 31 (some j9)) (kOw fA fP rt wa me va) q9)), (5, .int (nI q9))]) 11 [] ?_ 0 (Nat.zero_le _) hG (lv_sub hl [3, 4, 2, 1, 0] rfl)
  intro q9
  obtain ⟨n, rfl⟩ : ∃ z9, z9 = q9 := ⟨_, rfl⟩
  intro hI ih H locs ls hG hl
  have hI : n ≤ ni := hI
  have hG : kG D A s (ws) H locs := hG
  have hl : lv_has ls 7 [(0, .ref hs), (1, .int i9), (2, .ref (ia j1)), (3, .long (kSm (fun j9 => kSu par j1 31 (some j9)) (kOw fA fP rt wa me va) n)), (5, .int (nI n))] := hl
  refine lv_iload hx hb dX3_sum_11 (lv_at hl 4 rfl) ?_
  refine lv_aload_n hx hb dX3_sum_13 rfl (lv_at hl 0 rfl) ?_
  refine k_get (C := RX3) (T := TX3) (N := 7) (ci := 4) (v := .ref li) (fs := [.ref hd, .ref lr, .ref li, .ref hpr, .int lim, .int ret, .long clm]) hC hG hi_RX3 ks hSh.1 rfl 2 (by decide) (List.mem_of_getElem? (i := 1) rfl) rfl rfl dX3_sum_14 ?_
  refine k_callV (nn := 0) (C := RJx4a65c) hC hG kli hSh.2.2.2.2.2.2.1.1 (ci := 0) rfl (K_list_size l hfl D cI cJ cZ cO z mi (ws) kli li mci edi ni hSh.2.2.2.2.2.2.1.1) gX3_sum_Jx4a65c_size_8abf5 rfl rfl (by decide +kernel) ⟨(Nat.le_of_ble_eq_true rfl), (Nat.le_of_ble_eq_true rfl)⟩ hl.1 rfl (Nat.le_of_ble_eq_true rfl) dX3_sum_17 ⟨(Nat.le_of_ble_eq_true rfl), (Nat.le_of_ble_eq_true rfl)⟩ (fun _ _ _ _ _ _ hp => hp.elim) (fun v9 u9 H locs hp hG => ?_)
  obtain ⟨rfl, hu9⟩ := hp
  rw [hu9] at hG
  refine W.widen (k := 1) (n := 6) (Nat.le_of_ble_eq_true rfl) (Nat.le_of_ble_eq_true rfl) ?_
  refine W.eq (g2 := F0 m 20 ls [.int (nI ni), .int (nI n)]) rfl ?_
  refine k_icmp_ge (tgt := 61) hx hb dX3_sum_20 (by decide) (fun c_5 => ?_) (fun c_5 => ?_)
  · have hn2 : n = ni := by have := kNI_le c_5 (by omega) (by omega); have h9 : n ≤ ni := hI; omega
    rw [hn2] at hl
    refine lv_lload_n hx hb dX3_sum_61 rfl (lv_at hl 3 rfl) ?_
    exact k_retl hC hr hG ⟨⟨j1, hj2, hi3, rfl⟩, rfl⟩ (Nat.le_of_ble_eq_true rfl) (Nat.le_of_ble_eq_true rfl) dX3_sum_62
  · have hn1 : n < ni := kNI_lt c_5 (by omega) (by omega)
    refine lv_aload_n hx hb dX3_sum_23 rfl (lv_at hl 0 rfl) ?_
    refine k_get (C := RX3) (T := TX3) (N := 7) (ci := 4) (v := .ref li) (fs := [.ref hd, .ref lr, .ref li, .ref hpr, .int lim, .int ret, .long clm]) hC hG hi_RX3 ks hSh.1 rfl 2 (by decide) (List.mem_of_getElem? (i := 1) rfl) rfl rfl dX3_sum_24 ?_
    refine lv_iload hx hb dX3_sum_27 (lv_at hl 4 rfl) ?_
    obtain ⟨ai6, ai7, ai8, ai9⟩ := hSh.2.2.2.2.2.2.1.arr (j := n) hn1
    have hn30 : ni ≤ 30 ∧ nr ≤ 12 := hSh.2.2.1
    refine k_callV (nn := 1) (C := RJx4a65c) hC hG kli hSh.2.2.2.2.2.2.1.1 (ci := 0) rfl (K_list_get l hfl D cI cJ cZ cO z mi (ws) kli kei li mci edi ni leni gi n hn1 (by omega) (by omega) hSh.2.2.2.2.2.2.1.1 ai6) gX3_sum_Jx4a65c_get_915e3 rfl rfl (by decide +kernel) ⟨(Nat.le_of_ble_eq_true rfl), (Nat.le_of_ble_eq_true rfl)⟩ hl.1 rfl (Nat.le_of_ble_eq_true rfl) dX3_sum_29 ⟨(Nat.le_of_ble_eq_true rfl), (Nat.le_of_ble_eq_true rfl)⟩ (fun _ _ _ _ _ _ hp => hp.elim) (fun v9 u9 H locs hp hG => ?_)
    obtain ⟨rfl, hu9⟩ := hp
    rw [hu9] at hG
    refine W.widen (k := 1) (n := 6) (Nat.le_of_ble_eq_true rfl) (Nat.le_of_ble_eq_true rfl) ?_
    refine W.eq (g2 := F0 m 32 ls [va_rf (gi n)]) rfl ?_
    refine k_topq (y := some (ia n)) (ai9 n hn1) ?_
    refine W.eq (g2 := F0 m 32 ls [.ref (ia n)]) rfl ?_
    refine va_castS hx hb hC.o (hC.t _ (List.mem_of_getElem? (i := 2) rfl)) (hC.K.1 2 _ rfl).2 (va_recv hC.K hG.1 (ci := 2) (q := (RX1, TX1, 6)) rfl (hSh.2.2.2.1.1 n hn1)) dX3_sum_32 ?_
    refine lv_astore (lv' := [(6, .ref (ia n)), (0, .ref hs), (1, .int i9), (2, .ref (ia j1)), (3, .long (kSm (fun j9 => kSu par j1 31 (some j9)) (kOw fA fP rt wa me va) n)), (5, .int (nI n))]) hx hb dX3_sum_35 hl (by decide) rfl (fun ls hl => ?_)
    refine lv_aload hx hb dX3_sum_37 (lv_at hl 0 rfl) ?_
    refine lv_aload_n hx hb dX3_sum_39 rfl (lv_at hl 3 rfl) ?_
    refine k_callV (nn := 1) (C := RX1) hC hG (pi n) (hSh.2.2.2.1.1 n hn1) (ci := 2) rfl (K_X1_standsUnder l hfl D cI cJ cZ cO z mi ws ni ia pi par rt ra wa me va dn hn30.1 hSh.2.2.2.1 n j1 hn1 hj2) gX3_sum_X1_standsUnder rfl rfl (by decide +kernel) ⟨(Nat.le_of_ble_eq_true rfl), (Nat.le_of_ble_eq_true rfl)⟩ hl.1 rfl (Nat.le_of_ble_eq_true rfl) dX3_sum_40 ⟨(Nat.le_of_ble_eq_true rfl), (Nat.le_of_ble_eq_true rfl)⟩ (fun _ _ _ _ _ _ hp => hp.elim) (fun v9 u9 H locs hp hG => ?_)
    obtain ⟨rfl, hu9⟩ := hp
    rw [hu9] at hG
    refine W.widen (k := 1) (n := 6) (Nat.le_of_ble_eq_true rfl) (Nat.le_of_ble_eq_true rfl) ?_
    refine W.eq (g2 := F0 m 43 ls [.int (kb (kSu par j1 31 (some n)))]) rfl ?_
    refine k_ifB_eq (tgt := 55) hx hb dX3_sum_43 (by decide) (fun c_10 => ?_) (fun c_10 => ?_)
    · have e9 : kSm (fun j9 => kSu par j1 31 (some j9)) (kOw fA fP rt wa me va) (n + 1) = kSm (fun j9 => kSu par j1 31 (some j9)) (kOw fA fP rt wa me va) n := kSm_f (b := (fun j9 => kSu par j1 31 (some j9))) c_10
      rw [← e9] at hl
      refine lv_iinc (v := (nI n) + 1) (lv' := [(5, .int ((nI n) + 1)), (6, .ref (ia n)), (0, .ref hs), (1, .int i9), (2, .ref (ia j1)), (3, .long (kSm (fun j9 => kSu par j1 31 (some j9)) (kOw fA fP rt wa me va) (n + 1)))]) hx hb dX3_sum_55 hl (k := 5) rfl rfl (by decide) rfl (fun ls hl => ?_)
      refine lv_goto (tgt := 11) hx hb dX3_sum_58 (by decide) ?_
      rw [nI_1] at hl
      exact ih (n + 1) (show n + 1 ≤ ni from hn1) (by show ni - (n + 1) < ni - n; omega) _ _ _ hG (lv_sub hl [2, 3, 4, 5, 0] rfl)
    · refine lv_lload_n hx hb dX3_sum_46 rfl (lv_at hl 4 rfl) ?_
      refine lv_aload_n hx hb dX3_sum_47 rfl (lv_at hl 1 rfl) ?_
      refine lv_aload hx hb dX3_sum_48 (lv_at hl 0 rfl) ?_
      refine k_callV (nn := 1) (C := RX3) hC hG ks hSh.1 (ci := 4) rfl (K_X3_ownSum l hfl D cI cJ cZ cO z mi ws ks hs hd lr li hpr kp lim ret clm fP ni ia pi par rt ra wa me va dn nr pr fA kli kei edi leni mci gi klr ker edr lenr mcr gr hSh n hn1) gX3_sum_X3_ownSum rfl rfl (by decide +kernel) ⟨(Nat.le_of_ble_eq_true rfl), (Nat.le_of_ble_eq_true rfl)⟩ hl.1 rfl (Nat.le_of_ble_eq_true rfl) dX3_sum_50 ⟨(Nat.le_of_ble_eq_true rfl), (Nat.le_of_ble_eq_true rfl)⟩ (fun _ _ _ _ _ _ hp => hp.elim) (fun v9 u9 H locs hp hG => ?_)
      obtain ⟨rfl, hu9⟩ := hp
      rw [hu9] at hG
      refine W.widen (k := 1) (n := 6) (Nat.le_of_ble_eq_true rfl) (Nat.le_of_ble_eq_true rfl) ?_
      refine W.eq (g2 := F0 m 53 ls [.long (kOw fA fP rt wa me va n), .long (kSm (fun j9 => kSu par j1 31 (some j9)) (kOw fA fP rt wa me va) n)]) rfl ?_
      refine lv_ladd hx hb dX3_sum_53 ?_
      refine lv_lstore_n (lv' := [(3, .long ((kSm (fun j9 => kSu par j1 31 (some j9)) (kOw fA fP rt wa me va) n) + (kOw fA fP rt wa me va n))), (6, .ref (ia n)), (0, .ref hs), (1, .int i9), (2, .ref (ia j1)), (5, .int (nI n))]) hx hb dX3_sum_54 rfl hl (by decide) rfl (fun ls hl => ?_)
      have e9 : kSm (fun j9 => kSu par j1 31 (some j9)) (kOw fA fP rt wa me va) (n + 1) = (kSm (fun j9 => kSu par j1 31 (some j9)) (kOw fA fP rt wa me va) n) + (kOw fA fP rt wa me va n) := kSm_t (b := (fun j9 => kSu par j1 31 (some j9))) c_10
      rw [← e9] at hl
      refine lv_iinc (v := (nI n) + 1) (lv' := [(5, .int ((nI n) + 1)), (3, .long (kSm (fun j9 => kSu par j1 31 (some j9)) (kOw fA fP rt wa me va) (n + 1))), (6, .ref (ia n)), (0, .ref hs), (1, .int i9), (2, .ref (ia j1))]) hx hb dX3_sum_55 hl (k := 5) rfl rfl (by decide) rfl (fun ls hl => ?_)
      refine lv_goto (tgt := 11) hx hb dX3_sum_58 (by decide) ?_
      rw [nI_1] at hl
      exact ih (n + 1) (show n + 1 ≤ ni from hn1) (by show ni - (n + 1) < ni - n; omega) _ _ _ hG (lv_sub hl [3, 4, 5, 1, 0] rfl)

set_option maxHeartbeats 4000000 in
set_option maxRecDepth 100000 in
/-- due -/
theorem K_X3_due (l : Launch) (hfl : l.stackTraces = false) (D : va_G) (cI cJ cZ cO : ClassId) (z mi : Nat) (ws : va_W) (ks : Nat) (hs : Nat) (hd : Nat) (lr : Nat) (li : Nat) (hpr : Nat) (kp : Nat) (lim : Int32) (ret : Int32) (clm : Int64) (fP : Nat → Int32) (ni : Nat) (ia : Nat → Nat) (pi : Nat → Nat) (par : Nat → Option Nat) (rt : Nat → Option Nat) (ra : Nat → Nat) (wa : Nat → Int32) (me : Nat → Int32) (va : Nat → Int32) (dn : Nat → Int32) (nr : Nat) (pr : Nat → Nat) (fA : Nat → Int32) (kli : Nat) (kei : Nat) (edi : Nat) (leni : Nat) (mci : Int32) (gi : Nat → Option Nat) (klr : Nat) (ker : Nat) (edr : Nat) (lenr : Nat) (mcr : Int32) (gr : Nat → Option Nat) (hSh : kSh cI cO z ws ks hs hd lr li hpr kp lim ret clm fP ni ia pi par rt ra wa me va dn nr pr fA kli kei edi leni mci gi klr ker edr lenr mcr gr)  : kM l D (kTy cI cJ cZ cO) z mi yX3_due wsX3_due ({ frames := 4, cells := 0, slots := 0, locals := 88 } : Room) [.ref hs] (ws) (fun v u => v = some (.long (kTot (fun j9 => (kOw fA fP rt wa me va j9 * (dn j9).toInt64) / 100) ni - ((((kTot (fun j9 => (kOw fA fP rt wa me va j9 * (dn j9).toInt64) / 100) ni) * ret.toInt64) + 100) - 1) / 100)) ∧ u = ws) (fun _ _ => False) := by
  refine kM.of hfl (cc := cX3_due) (maxL := 3) (ret := (some .long)) (by decide) rfl (Nat.le_of_ble_eq_true rfl) ?_
  intro p e s m args below meth c A ls hC hr hmn hG hl
  have hx := hC.x
  have hb := hC.b
  have hl : lv_has ls 3 [(0, .ref hs)] := hl
  have hi_RX3 : ∀ w ∈ wsX30, w ∈ wsX3_due := fun w h => List.mem_cons_of_mem _ (List.mem_append_left _ (List.mem_append_left _ (List.mem_append_left _ (List.mem_append_right _ h))))
  have hn30 : ni ≤ 30 ∧ nr ≤ 12 := hSh.2.2.1
  refine lv_aload_n hx hb dX3_due_0 rfl (lv_at hl 0 rfl) ?_
  refine k_callV (nn := 0) (C := RX3) hC hG ks hSh.1 (ci := 4) rfl (K_X3_worth l hfl D cI cJ cZ cO z mi ws ks hs hd lr li hpr kp lim ret clm fP ni ia pi par rt ra wa me va dn nr pr fA kli kei edi leni mci gi klr ker edr lenr mcr gr hSh) gX3_due_X3_worth rfl rfl (by decide +kernel) ⟨(Nat.le_of_ble_eq_true rfl), (Nat.le_of_ble_eq_true rfl)⟩ hl.1 rfl (Nat.le_of_ble_eq_true rfl) dX3_due_1 ⟨(Nat.le_of_ble_eq_true rfl), (Nat.le_of_ble_eq_true rfl)⟩ (fun _ _ _ _ _ _ hp => hp.elim) (fun v9 u9 H locs hp hG => ?_)
  obtain ⟨rfl, hu9⟩ := hp
  rw [hu9] at hG
  refine W.widen (k := 0) (n := 0) (Nat.le_of_ble_eq_true rfl) (Nat.le_of_ble_eq_true rfl) ?_
  refine W.eq (g2 := F0 m 4 ls [.long (kTot (fun j9 => (kOw fA fP rt wa me va j9 * (dn j9).toInt64) / 100) ni)]) rfl ?_
  refine lv_lstore_n (lv' := [(1, .long (kTot (fun j9 => (kOw fA fP rt wa me va j9 * (dn j9).toInt64) / 100) ni)), (0, .ref hs)]) hx hb dX3_due_4 rfl hl (by decide) rfl (fun ls hl => ?_)
  refine lv_lload_n hx hb dX3_due_5 rfl (lv_at hl 0 rfl) ?_
  refine lv_lload_n hx hb dX3_due_6 rfl (lv_at hl 0 rfl) ?_
  refine lv_aload_n hx hb dX3_due_7 rfl (lv_at hl 1 rfl) ?_
  refine k_get (C := RX3) (T := TX3) (N := 7) (ci := 4) (v := .int ret) (fs := [.ref hd, .ref lr, .ref li, .ref hpr, .int lim, .int ret, .long clm]) hC hG hi_RX3 ks hSh.1 rfl 5 (by decide) (List.mem_of_getElem? (i := 1) rfl) rfl rfl dX3_due_8 ?_
  refine lv_i2l hx hb dX3_due_11 rfl ?_
  refine lv_lmul hx hb dX3_due_12 ?_
  refine k_callS (nn := 1) hC hG (K_X3_hundredthsRoundedUp l hfl D cI cJ cZ cO z mi (ws) ((kTot (fun j9 => (kOw fA fP rt wa me va j9 * (dn j9).toInt64) / 100) ni) * ret.toInt64)) gX3_due_X3_hundredthsRoundedUp rfl rfl (by decide +kernel) ⟨(Nat.le_of_ble_eq_true rfl), (Nat.le_of_ble_eq_true rfl)⟩ hl.1 rfl (Nat.le_of_ble_eq_true rfl) dX3_due_13 ⟨(Nat.le_of_ble_eq_true rfl), (Nat.le_of_ble_eq_true rfl)⟩ (fun _ _ _ _ _ _ hp => hp.elim) (fun v9 u9 H locs hp hG => ?_)
  obtain ⟨rfl, hu9⟩ := hp
  rw [hu9] at hG
  refine W.widen (k := 0) (n := 0) (Nat.le_of_ble_eq_true rfl) (Nat.le_of_ble_eq_true rfl) ?_
  refine W.eq (g2 := F0 m 16 ls [.long (((((kTot (fun j9 => (kOw fA fP rt wa me va j9 * (dn j9).toInt64) / 100) ni) * ret.toInt64) + 100) - 1) / 100), .long (kTot (fun j9 => (kOw fA fP rt wa me va j9 * (dn j9).toInt64) / 100) ni)]) rfl ?_
  refine lv_lsub hx hb dX3_due_16 ?_
  exact k_retl hC hr hG ⟨rfl, rfl⟩ (Nat.le_of_ble_eq_true rfl) (Nat.le_of_ble_eq_true rfl) dX3_due_17

