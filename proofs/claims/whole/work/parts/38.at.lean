/-- the sheet's cells in a world: itself, its prices, its items, its rates, its lists -/
def kSh (cI cO : ClassId) (z : Nat) (ws : va_W) (ks : Nat) (hs : Nat) (hd : Nat) (lr : Nat) (li : Nat) (hpr : Nat) (kp : Nat) (lim : Int32) (ret : Int32) (clm : Int64) (fP : Nat → Int32) (ni : Nat) (ia : Nat → Nat) (pi : Nat → Nat) (par : Nat → Option Nat) (rt : Nat → Option Nat) (ra : Nat → Nat) (wa : Nat → Int32) (me : Nat → Int32) (va : Nat → Int32) (dn : Nat → Int32) (nr : Nat) (pr : Nat → Nat) (fA : Nat → Int32) (kli : Nat) (kei : Nat) (edi : Nat) (leni : Nat) (mci : Int32) (gi : Nat → Option Nat) (klr : Nat) (ker : Nat) (edr : Nat) (lenr : Nat) (mcr : Int32) (gr : Nat → Option Nat) : Prop :=
  ws[ks]? = some (hs, .inr (4, [.ref hd, .ref lr, .ref li, .ref hpr, .int lim, .int ret, .long clm])) ∧ ws[kp]? = some (hpr, .inl (cI, 3, .inl fP)) ∧ (ni ≤ 30 ∧ nr ≤ 12) ∧ kIP ws ni ia pi par rt ra wa me va dn ∧ kRP ws nr ra pr fA ∧ (∀ j q, j < ni → rt j = some q → q < nr) ∧
  kLP ws cO z li kli kei ni edi leni mci gi (fun i => some (ia i)) ∧ kLP ws cO z lr klr ker nr edr lenr mcr gr (fun i => some (ra i)) ∧
  (kli ≠ klr ∧ kli ≠ ker ∧ kei ≠ klr ∧ kei ≠ ker) ∧ (6 ≤ kli ∧ 6 ≤ kei ∧ 6 ≤ klr ∧ 6 ≤ ker ∧ 6 ≤ ws.length) ∧ (∀ j, j < ni → 6 ≤ pi j) ∧ ∀ j, j < nr → 6 ≤ pr j
theorem kLP.arr {ws : va_W} {cO : ClassId} {z la kl ke n ed len : Nat} {mc : Int32} {g ad : Nat → Option Nat} (h : kLP ws cO z la kl ke n ed len mc g ad) {j : Nat} (hj : j < n) : ws[ke]? = some (ed, kOA cO len g) ∧ n ≤ len ∧ len < 2 ^ 31 ∧ ∀ i, i < n → g i = ad i := by
  obtain ⟨-, ⟨h1, -⟩ | ⟨h1, h2, h3, -, h4⟩⟩ := h
  · omega
  · exact ⟨h1, h2, by unfold kLn at h3; omega, h4⟩
theorem kIP_q {ws : va_W} {ni : Nat} {ia pi : Nat → Nat} {par rt : Nat → Option Nat} {ra : Nat → Nat} {wa me va dn : Nat → Int32} (h : kIP ws ni ia pi par rt ra wa me va dn) {j : Nat} {x : Option Nat} (hj : j < ni) (hq : rt j = x) : ws[pi j]? = some (ia j, .inr (2, [va_rf ((par j).map ia), va_rf (x.map ra), .int (wa j), .int (me j), .int (va j), .int (dn j)])) := by
  rw [h.1 j hj, hq]
theorem k_isSm {α β : Type} (o : Option α) (f : α → β) : (o.map f).isSome = o.isSome := by cases o <;> rfl
/-- a number of one of n things -/
def kNum (i : Int32) (n : Nat) : Bool := bif decide (i < 0) then false else decide (i < nI n)
theorem kNum_at {i : Int32} {n : Nat} (h1 : decide (i < (0 : Int32)) = false) (h2 : decide (i < (nI n)) = true) (hn : n < 2 ^ 31) : ∃ j, j < n ∧ i = nI j := by
  have a := of_decide_eq_false h1
  have b := of_decide_eq_true h2
  obtain ⟨j, hj, rfl⟩ : ∃ j : Nat, j < 2 ^ 31 ∧ i = nI j := by
    refine ⟨i.toInt.toNat, ?_, ?_⟩
    · have := i.toInt_lt
      omega
    · apply Int32.toInt_inj.mp
      rw [Int32.lt_iff_toInt_lt, Int32.toInt_zero] at a
      have := i.toInt_lt
      rw [nI_toInt (by omega)]
      omega
  exact ⟨j, (nI_ltI hj hn).mp b, rfl⟩
theorem kNum_of {n j : Nat} (hj : j < n) (hn : n < 2 ^ 31) : kNum (nI j) n = true := by
  unfold kNum
  rw [decide_eq_false (nI_pos (by omega)), decide_eq_true (nI_lt hj hn)]
  rfl
/-- whether item i is a leaf -/
def kLe (rt : Nat → Option Nat) (i : Int32) : Bool := (rt i.toNatClampNeg).isSome
theorem kLe_at {rt : Nat → Option Nat} {i : Int32} {j : Nat} (hi : i = nI j) (hj : j < 2 ^ 31) : kLe rt i = (rt j).isSome := by
  subst hi
  unfold kLe
  rw [nI_clamp hj]

set_option maxHeartbeats 4000000 in
set_option maxRecDepth 100000 in
/-- checkLeaf -/
theorem K_X3_checkLeaf (l : Launch) (hfl : l.stackTraces = false) (D : va_G) (cI cJ cZ cO : ClassId) (z mi : Nat) (ws : va_W) (ks : Nat) (hs : Nat) (hd : Nat) (lr : Nat) (li : Nat) (hpr : Nat) (kp : Nat) (lim : Int32) (ret : Int32) (clm : Int64) (fP : Nat → Int32) (ni : Nat) (ia : Nat → Nat) (pi : Nat → Nat) (par : Nat → Option Nat) (rt : Nat → Option Nat) (ra : Nat → Nat) (wa : Nat → Int32) (me : Nat → Int32) (va : Nat → Int32) (dn : Nat → Int32) (nr : Nat) (pr : Nat → Nat) (fA : Nat → Int32) (kli : Nat) (kei : Nat) (edi : Nat) (leni : Nat) (mci : Int32) (gi : Nat → Option Nat) (klr : Nat) (ker : Nat) (edr : Nat) (lenr : Nat) (mcr : Int32) (gr : Nat → Option Nat) (hSh : kSh cI cO z ws ks hs hd lr li hpr kp lim ret clm fP ni ia pi par rt ra wa me va dn nr pr fA kli kei edi leni mci gi klr ker edr lenr mcr gr) (j : Nat) (hj : j < ni) : kM l D (kTy cI cJ cZ cO) z mi yX3_checkLeaf wsX3_checkLeaf ({ frames := 6, cells := 1, slots := 6, locals := 90 } : Room) [.ref (ia j)] (ws) (fun v u => v = none ∧ u = ws ∧ (rt j).isSome = true) (fun E u => u = ws ∧ E = kISE ∧ (rt j).isSome = false) := by
  refine kM.of hfl (cc := cX3_checkLeaf) (maxL := 1) (ret := none) (by decide) rfl (Nat.le_of_ble_eq_true rfl) ?_
  intro p e s m args below meth c A ls hC hr hmn hG hl
  have hx := hC.x
  have hb := hC.b
  have hl : lv_has ls 1 [(0, .ref (ia j))] := hl
  refine lv_aload_n hx hb dX3_checkLeaf_0 rfl (lv_at hl 0 rfl) ?_
  refine k_callV (nn := 0) (C := RX1) hC hG (pi j) (hSh.2.2.2.1.1 j hj) (ci := 2) rfl (K_X1_isLeaf l hfl D cI cJ cZ cO z mi (ws) (pi j) (ia j) ((par j).map ia) ((rt j).map ra) (wa j) (me j) (va j) (dn j) (hSh.2.2.2.1.1 j hj)) gX3_checkLeaf_X1_isLeaf rfl rfl (by decide +kernel) ⟨(Nat.le_of_ble_eq_true rfl), (Nat.le_of_ble_eq_true rfl)⟩ hl.1 rfl (Nat.le_of_ble_eq_true rfl) dX3_checkLeaf_1 ⟨(Nat.le_of_ble_eq_true rfl), (Nat.le_of_ble_eq_true rfl)⟩ (fun _ _ _ _ _ _ hp => hp.elim) (fun v9 u9 H locs hp hG => ?_)
  obtain ⟨rfl, hu9⟩ := hp
  rw [hu9] at hG
  refine W.widen (k := 0) (n := 0) (Nat.le_of_ble_eq_true rfl) (Nat.le_of_ble_eq_true rfl) ?_
  refine W.eq (g2 := F0 m 4 ls [.int (kb ((rt j).map ra).isSome)]) rfl ?_
  refine k_ifB_ne (tgt := 17) hx hb dX3_checkLeaf_4 (by decide) (fun c_1 => ?_) (fun c_1 => ?_)
  · exact k_retv hC hr hG ⟨rfl, rfl, (k_isSm _ _).symm.trans c_1⟩ (Nat.le_of_ble_eq_true rfl) (Nat.le_of_ble_eq_true rfl) dX3_checkLeaf_17
  · exact k_throw (text := "the item is a heading") (is := 197) (ic := 60) (cls := "java/lang/IllegalStateException") hC hG rfl (by decide +kernel) (List.mem_of_getElem? (i := 1) rfl) (List.mem_of_getElem? (i := 2) rfl) (by decide) (fun w h => List.mem_cons_of_mem _ (List.mem_append_right _ h)) (by decide +kernel) (by decide +kernel) hl.1 dX3_checkLeaf_7 dX3_checkLeaf_10 dX3_checkLeaf_11 dX3_checkLeaf_13 dX3_checkLeaf_16 ⟨(Nat.le_of_ble_eq_true rfl), (Nat.le_of_ble_eq_true rfl)⟩ ⟨(Nat.le_of_ble_eq_true rfl), (Nat.le_of_ble_eq_true rfl)⟩ ⟨(Nat.le_of_ble_eq_true rfl), (Nat.le_of_ble_eq_true rfl)⟩ (⟨rfl, rfl, (k_isSm _ _).symm.trans c_1⟩)

set_option maxHeartbeats 4000000 in
set_option maxRecDepth 100000 in
/-- X3_itemAt -/
theorem K_X3_itemAt (l : Launch) (hfl : l.stackTraces = false) (D : va_G) (cI cJ cZ cO : ClassId) (z mi : Nat) (ws : va_W) (ks : Nat) (hs : Nat) (hd : Nat) (lr : Nat) (li : Nat) (hpr : Nat) (kp : Nat) (lim : Int32) (ret : Int32) (clm : Int64) (fP : Nat → Int32) (ni : Nat) (ia : Nat → Nat) (pi : Nat → Nat) (par : Nat → Option Nat) (rt : Nat → Option Nat) (ra : Nat → Nat) (wa : Nat → Int32) (me : Nat → Int32) (va : Nat → Int32) (dn : Nat → Int32) (nr : Nat) (pr : Nat → Nat) (fA : Nat → Int32) (kli : Nat) (kei : Nat) (edi : Nat) (leni : Nat) (mci : Int32) (gi : Nat → Option Nat) (klr : Nat) (ker : Nat) (edr : Nat) (lenr : Nat) (mcr : Int32) (gr : Nat → Option Nat) (hSh : kSh cI cO z ws ks hs hd lr li hpr kp lim ret clm fP ni ia pi par rt ra wa me va dn nr pr fA kli kei edi leni mci gi klr ker edr lenr mcr gr) (i9 : Int32) : kM l D (kTy cI cJ cZ cO) z mi yX3_itemAt wsX3_itemAt ({ frames := 6, cells := 1, slots := 6, locals := 120 } : Room) [.ref hs, .int i9] (ws) (fun v u => (∃ j, j < ni ∧ i9 = nI j ∧ v = some (.ref (ia j))) ∧ u = ws) (fun E u => u = ws ∧ E = kIOB ∧ kNum i9 ni = false) := by
  refine kM.of hfl (cc := cX3_itemAt) (maxL := 2) (ret := (some (.object "TakeoffSheet$Item"))) (by decide) rfl (Nat.le_of_ble_eq_true rfl) ?_
  intro p e s m args below meth c A ls hC hr hmn hG hl
  have hx := hC.x
  have hb := hC.b
  have hl : lv_has ls 2 [(0, .ref hs), (1, .int i9)] := hl
  have hi_RX3 : ∀ w ∈ wsX30, w ∈ wsX3_itemAt := fun w h => List.mem_cons_of_mem _ (List.mem_append_left _ (List.mem_append_left _ (List.mem_append_right _ h)))
  refine lv_iload_n hx hb dX3_itemAt_0 rfl (lv_at hl 1 rfl) ?_
  refine k_if_lt (tgt := 15) hx hb dX3_itemAt_1 (by decide) (fun c_1 => ?_) (fun c_1 => ?_)
  · exact k_throw (text := "no such item") (is := 199) (ic := 71) (cls := "java/lang/IndexOutOfBoundsException") hC hG rfl (by decide +kernel) (List.mem_of_getElem? (i := 1) rfl) (List.mem_of_getElem? (i := 2) rfl) (by decide) (fun w h => List.mem_cons_of_mem _ (List.mem_append_right _ h)) (by decide +kernel) (by decide +kernel) hl.1 dX3_itemAt_15 dX3_itemAt_18 dX3_itemAt_19 dX3_itemAt_21 dX3_itemAt_24 ⟨(Nat.le_of_ble_eq_true rfl), (Nat.le_of_ble_eq_true rfl)⟩ ⟨(Nat.le_of_ble_eq_true rfl), (Nat.le_of_ble_eq_true rfl)⟩ ⟨(Nat.le_of_ble_eq_true rfl), (Nat.le_of_ble_eq_true rfl)⟩ (⟨rfl, rfl, by unfold kNum; rw [c_1]; first | done | rfl⟩)
  · refine lv_iload_n hx hb dX3_itemAt_4 rfl (lv_at hl 1 rfl) ?_
    refine lv_aload_n hx hb dX3_itemAt_5 rfl (lv_at hl 0 rfl) ?_
    refine k_get (C := RX3) (T := TX3) (N := 7) (ci := 4) (v := .ref li) (fs := [.ref hd, .ref lr, .ref li, .ref hpr, .int lim, .int ret, .long clm]) hC hG hi_RX3 ks hSh.1 rfl 2 (by decide) (List.mem_of_getElem? (i := 3) rfl) rfl rfl dX3_itemAt_6 ?_
    refine k_callV (nn := 0) (C := RJx4a65c) hC hG kli hSh.2.2.2.2.2.2.1.1 (ci := 0) rfl (K_list_size l hfl D cI cJ cZ cO z mi (ws) kli li mci edi ni hSh.2.2.2.2.2.2.1.1) gX3_itemAt_Jx4a65c_size_8abf5 rfl rfl (by decide +kernel) ⟨(Nat.le_of_ble_eq_true rfl), (Nat.le_of_ble_eq_true rfl)⟩ hl.1 rfl (Nat.le_of_ble_eq_true rfl) dX3_itemAt_9 ⟨(Nat.le_of_ble_eq_true rfl), (Nat.le_of_ble_eq_true rfl)⟩ (fun _ _ _ _ _ _ hp => hp.elim) (fun v9 u9 H locs hp hG => ?_)
    obtain ⟨rfl, hu9⟩ := hp
    rw [hu9] at hG
    refine W.widen (k := 0) (n := 0) (Nat.le_of_ble_eq_true rfl) (Nat.le_of_ble_eq_true rfl) ?_
    refine W.eq (g2 := F0 m 12 ls [.int (nI ni), .int i9]) rfl ?_
    refine k_icmp_lt (tgt := 25) hx hb dX3_itemAt_12 (by decide) (fun c_2 => ?_) (fun c_2 => ?_)
    · have hn30 : ni ≤ 30 ∧ nr ≤ 12 := hSh.2.2.1
      obtain ⟨j, hj, rfl⟩ := kNum_at c_1 c_2 (by omega)
      have hl : lv_has ls 2 [(0, .ref hs), (1, .int (nI j))] := hl
      refine lv_aload_n hx hb dX3_itemAt_25 rfl (lv_at hl 0 rfl) ?_
      refine k_get (C := RX3) (T := TX3) (N := 7) (ci := 4) (v := .ref li) (fs := [.ref hd, .ref lr, .ref li, .ref hpr, .int lim, .int ret, .long clm]) hC hG hi_RX3 ks hSh.1 rfl 2 (by decide) (List.mem_of_getElem? (i := 3) rfl) rfl rfl dX3_itemAt_26 ?_
      refine lv_iload_n hx hb dX3_itemAt_29 rfl (lv_at hl 1 rfl) ?_
      obtain ⟨ai3, ai4, ai5, ai6⟩ := hSh.2.2.2.2.2.2.1.arr (j := j) hj
      have hn30 : ni ≤ 30 ∧ nr ≤ 12 := hSh.2.2.1
      refine k_callV (nn := 1) (C := RJx4a65c) hC hG kli hSh.2.2.2.2.2.2.1.1 (ci := 0) rfl (K_list_get l hfl D cI cJ cZ cO z mi (ws) kli kei li mci edi ni leni gi j hj (by omega) (by omega) hSh.2.2.2.2.2.2.1.1 ai3) gX3_itemAt_Jx4a65c_get_915e3 rfl rfl (by decide +kernel) ⟨(Nat.le_of_ble_eq_true rfl), (Nat.le_of_ble_eq_true rfl)⟩ hl.1 rfl (Nat.le_of_ble_eq_true rfl) dX3_itemAt_30 ⟨(Nat.le_of_ble_eq_true rfl), (Nat.le_of_ble_eq_true rfl)⟩ (fun _ _ _ _ _ _ hp => hp.elim) (fun v9 u9 H locs hp hG => ?_)
      obtain ⟨rfl, hu9⟩ := hp
      rw [hu9] at hG
      refine W.widen (k := 0) (n := 0) (Nat.le_of_ble_eq_true rfl) (Nat.le_of_ble_eq_true rfl) ?_
      refine W.eq (g2 := F0 m 33 ls [va_rf (gi j)]) rfl ?_
      refine k_topq (y := some (ia j)) (ai6 j hj) ?_
      refine W.eq (g2 := F0 m 33 ls [.ref (ia j)]) rfl ?_
      refine va_castS hx hb hC.o (hC.t _ (List.mem_of_getElem? (i := 4) rfl)) (hC.K.1 2 _ rfl).2 (va_recv hC.K hG.1 (ci := 2) (q := (RX1, TX1, 6)) rfl (hSh.2.2.2.1.1 j hj)) dX3_itemAt_33 ?_
      exact k_reta hC hr (Or.inl ⟨_, rfl⟩) hG (v := (some (ia j))) ⟨⟨j, hj, rfl, rfl⟩, rfl⟩ (Nat.le_of_ble_eq_true rfl) (Nat.le_of_ble_eq_true rfl) dX3_itemAt_36
    · exact k_throw (text := "no such item") (is := 199) (ic := 71) (cls := "java/lang/IndexOutOfBoundsException") hC hG rfl (by decide +kernel) (List.mem_of_getElem? (i := 1) rfl) (List.mem_of_getElem? (i := 2) rfl) (by decide) (fun w h => List.mem_cons_of_mem _ (List.mem_append_right _ h)) (by decide +kernel) (by decide +kernel) hl.1 dX3_itemAt_15 dX3_itemAt_18 dX3_itemAt_19 dX3_itemAt_21 dX3_itemAt_24 ⟨(Nat.le_of_ble_eq_true rfl), (Nat.le_of_ble_eq_true rfl)⟩ ⟨(Nat.le_of_ble_eq_true rfl), (Nat.le_of_ble_eq_true rfl)⟩ ⟨(Nat.le_of_ble_eq_true rfl), (Nat.le_of_ble_eq_true rfl)⟩ (⟨rfl, rfl, by unfold kNum; rw [c_1, c_2]; first | done | rfl⟩)

set_option maxHeartbeats 4000000 in
set_option maxRecDepth 100000 in
/-- X3_rateAt -/
theorem K_X3_rateAt (l : Launch) (hfl : l.stackTraces = false) (D : va_G) (cI cJ cZ cO : ClassId) (z mi : Nat) (ws : va_W) (ks : Nat) (hs : Nat) (hd : Nat) (lr : Nat) (li : Nat) (hpr : Nat) (kp : Nat) (lim : Int32) (ret : Int32) (clm : Int64) (fP : Nat → Int32) (ni : Nat) (ia : Nat → Nat) (pi : Nat → Nat) (par : Nat → Option Nat) (rt : Nat → Option Nat) (ra : Nat → Nat) (wa : Nat → Int32) (me : Nat → Int32) (va : Nat → Int32) (dn : Nat → Int32) (nr : Nat) (pr : Nat → Nat) (fA : Nat → Int32) (kli : Nat) (kei : Nat) (edi : Nat) (leni : Nat) (mci : Int32) (gi : Nat → Option Nat) (klr : Nat) (ker : Nat) (edr : Nat) (lenr : Nat) (mcr : Int32) (gr : Nat → Option Nat) (hSh : kSh cI cO z ws ks hs hd lr li hpr kp lim ret clm fP ni ia pi par rt ra wa me va dn nr pr fA kli kei edi leni mci gi klr ker edr lenr mcr gr) (i9 : Int32) : kM l D (kTy cI cJ cZ cO) z mi yX3_rateAt wsX3_rateAt ({ frames := 6, cells := 1, slots := 6, locals := 120 } : Room) [.ref hs, .int i9] (ws) (fun v u => (∃ j, j < nr ∧ i9 = nI j ∧ v = some (.ref (ra j))) ∧ u = ws) (fun E u => u = ws ∧ E = kIOB ∧ kNum i9 nr = false) := by
  refine kM.of hfl (cc := cX3_rateAt) (maxL := 2) (ret := (some (.object "TakeoffSheet$Rate"))) (by decide) rfl (Nat.le_of_ble_eq_true rfl) ?_
  intro p e s m args below meth c A ls hC hr hmn hG hl
  have hx := hC.x
  have hb := hC.b
  have hl : lv_has ls 2 [(0, .ref hs), (1, .int i9)] := hl
  have hi_RX3 : ∀ w ∈ wsX30, w ∈ wsX3_rateAt := fun w h => List.mem_cons_of_mem _ (List.mem_append_left _ (List.mem_append_left _ (List.mem_append_right _ h)))
  refine lv_iload_n hx hb dX3_rateAt_0 rfl (lv_at hl 1 rfl) ?_
  refine k_if_lt (tgt := 15) hx hb dX3_rateAt_1 (by decide) (fun c_1 => ?_) (fun c_1 => ?_)
  · exact k_throw (text := "no such rate") (is := 201) (ic := 71) (cls := "java/lang/IndexOutOfBoundsException") hC hG rfl (by decide +kernel) (List.mem_of_getElem? (i := 1) rfl) (List.mem_of_getElem? (i := 2) rfl) (by decide) (fun w h => List.mem_cons_of_mem _ (List.mem_append_right _ h)) (by decide +kernel) (by decide +kernel) hl.1 dX3_rateAt_15 dX3_rateAt_18 dX3_rateAt_19 dX3_rateAt_21 dX3_rateAt_24 ⟨(Nat.le_of_ble_eq_true rfl), (Nat.le_of_ble_eq_true rfl)⟩ ⟨(Nat.le_of_ble_eq_true rfl), (Nat.le_of_ble_eq_true rfl)⟩ ⟨(Nat.le_of_ble_eq_true rfl), (Nat.le_of_ble_eq_true rfl)⟩ (⟨rfl, rfl, by unfold kNum; rw [c_1]; first | done | rfl⟩)
  · refine lv_iload_n hx hb dX3_rateAt_4 rfl (lv_at hl 1 rfl) ?_
    refine lv_aload_n hx hb dX3_rateAt_5 rfl (lv_at hl 0 rfl) ?_
    refine k_get (C := RX3) (T := TX3) (N := 7) (ci := 4) (v := .ref lr) (fs := [.ref hd, .ref lr, .ref li, .ref hpr, .int lim, .int ret, .long clm]) hC hG hi_RX3 ks hSh.1 rfl 1 (by decide) (List.mem_of_getElem? (i := 3) rfl) rfl rfl dX3_rateAt_6 ?_
    refine k_callV (nn := 0) (C := RJx4a65c) hC hG klr hSh.2.2.2.2.2.2.2.1.1 (ci := 0) rfl (K_list_size l hfl D cI cJ cZ cO z mi (ws) klr lr mcr edr nr hSh.2.2.2.2.2.2.2.1.1) gX3_rateAt_Jx4a65c_size_8abf5 rfl rfl (by decide +kernel) ⟨(Nat.le_of_ble_eq_true rfl), (Nat.le_of_ble_eq_true rfl)⟩ hl.1 rfl (Nat.le_of_ble_eq_true rfl) dX3_rateAt_9 ⟨(Nat.le_of_ble_eq_true rfl), (Nat.le_of_ble_eq_true rfl)⟩ (fun _ _ _ _ _ _ hp => hp.elim) (fun v9 u9 H locs hp hG => ?_)
    obtain ⟨rfl, hu9⟩ := hp
    rw [hu9] at hG
    refine W.widen (k := 0) (n := 0) (Nat.le_of_ble_eq_true rfl) (Nat.le_of_ble_eq_true rfl) ?_
    refine W.eq (g2 := F0 m 12 ls [.int (nI nr), .int i9]) rfl ?_
    refine k_icmp_lt (tgt := 25) hx hb dX3_rateAt_12 (by decide) (fun c_2 => ?_) (fun c_2 => ?_)
    · have hn30 : ni ≤ 30 ∧ nr ≤ 12 := hSh.2.2.1
      obtain ⟨j, hj, rfl⟩ := kNum_at c_1 c_2 (by omega)
      have hl : lv_has ls 2 [(0, .ref hs), (1, .int (nI j))] := hl
      refine lv_aload_n hx hb dX3_rateAt_25 rfl (lv_at hl 0 rfl) ?_
      refine k_get (C := RX3) (T := TX3) (N := 7) (ci := 4) (v := .ref lr) (fs := [.ref hd, .ref lr, .ref li, .ref hpr, .int lim, .int ret, .long clm]) hC hG hi_RX3 ks hSh.1 rfl 1 (by decide) (List.mem_of_getElem? (i := 3) rfl) rfl rfl dX3_rateAt_26 ?_
      refine lv_iload_n hx hb dX3_rateAt_29 rfl (lv_at hl 1 rfl) ?_
      obtain ⟨ai3, ai4, ai5, ai6⟩ := hSh.2.2.2.2.2.2.2.1.arr (j := j) hj
      have hn30 : ni ≤ 30 ∧ nr ≤ 12 := hSh.2.2.1
      refine k_callV (nn := 1) (C := RJx4a65c) hC hG klr hSh.2.2.2.2.2.2.2.1.1 (ci := 0) rfl (K_list_get l hfl D cI cJ cZ cO z mi (ws) klr ker lr mcr edr nr lenr gr j hj (by omega) (by omega) hSh.2.2.2.2.2.2.2.1.1 ai3) gX3_rateAt_Jx4a65c_get_915e3 rfl rfl (by decide +kernel) ⟨(Nat.le_of_ble_eq_true rfl), (Nat.le_of_ble_eq_true rfl)⟩ hl.1 rfl (Nat.le_of_ble_eq_true rfl) dX3_rateAt_30 ⟨(Nat.le_of_ble_eq_true rfl), (Nat.le_of_ble_eq_true rfl)⟩ (fun _ _ _ _ _ _ hp => hp.elim) (fun v9 u9 H locs hp hG => ?_)
      obtain ⟨rfl, hu9⟩ := hp
      rw [hu9] at hG
      refine W.widen (k := 0) (n := 0) (Nat.le_of_ble_eq_true rfl) (Nat.le_of_ble_eq_true rfl) ?_
      refine W.eq (g2 := F0 m 33 ls [va_rf (gr j)]) rfl ?_
      refine k_topq (y := some (ra j)) (ai6 j hj) ?_
      refine W.eq (g2 := F0 m 33 ls [.ref (ra j)]) rfl ?_
      refine va_castS hx hb hC.o (hC.t _ (List.mem_of_getElem? (i := 4) rfl)) (hC.K.1 3 _ rfl).2 (va_recv hC.K hG.1 (ci := 3) (q := (RX2, TX2, 3)) rfl (hSh.2.2.2.2.1.1 j hj)) dX3_rateAt_33 ?_
      exact k_reta hC hr (Or.inl ⟨_, rfl⟩) hG (v := (some (ra j))) ⟨⟨j, hj, rfl, rfl⟩, rfl⟩ (Nat.le_of_ble_eq_true rfl) (Nat.le_of_ble_eq_true rfl) dX3_rateAt_36
    · exact k_throw (text := "no such rate") (is := 201) (ic := 71) (cls := "java/lang/IndexOutOfBoundsException") hC hG rfl (by decide +kernel) (List.mem_of_getElem? (i := 1) rfl) (List.mem_of_getElem? (i := 2) rfl) (by decide) (fun w h => List.mem_cons_of_mem _ (List.mem_append_right _ h)) (by decide +kernel) (by decide +kernel) hl.1 dX3_rateAt_15 dX3_rateAt_18 dX3_rateAt_19 dX3_rateAt_21 dX3_rateAt_24 ⟨(Nat.le_of_ble_eq_true rfl), (Nat.le_of_ble_eq_true rfl)⟩ ⟨(Nat.le_of_ble_eq_true rfl), (Nat.le_of_ble_eq_true rfl)⟩ ⟨(Nat.le_of_ble_eq_true rfl), (Nat.le_of_ble_eq_true rfl)⟩ (⟨rfl, rfl, by unfold kNum; rw [c_1, c_2]; first | done | rfl⟩)

