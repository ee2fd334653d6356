/-- a rate's price, a leaf's measure with waste, its own sum -/
def kPr (fA fP : Nat → Int32) (q : Nat) : Int32 := ((fA (3 * q) * fP 0) + (fA (3 * q + 1) * fP 1)) + (fA (3 * q + 2) * fP 2)
def kMw (wa me : Nat → Int32) (j : Nat) : Int64 := ((((me j).toInt64 * (100 + wa j).toInt64) + 100) - 1) / 100
def kOw (fA fP : Nat → Int32) (rt : Nat → Option Nat) (wa me va : Nat → Int32) (j : Nat) : Int64 := match rt j with
  | none => 0
  | some q => (if kMw wa me j + (va j).toInt64 < 0 then 0 else kMw wa me j + (va j).toInt64) * (kPr fA fP q).toInt64
def kTot (f : Nat → Int64) : Nat → Int64
  | 0 => 0
  | n + 1 => kTot f n + f n
def kSm (b : Nat → Bool) (f : Nat → Int64) : Nat → Int64
  | 0 => 0
  | n + 1 => bif b n then kSm b f n + f n else kSm b f n
def kDst (b : Nat → Bool) (f : Nat → Int64) : Nat → Int32 × Int64
  | 0 => (-1, -1)
  | n + 1 => bif b n && !decide (lg_cmp (f n) (kDst b f n).2 ≤ 0) then (nI n, f n) else kDst b f n
theorem kOw_none {fA fP : Nat → Int32} {rt : Nat → Option Nat} {wa me va : Nat → Int32} {j : Nat} (h : rt j = none) : kOw fA fP rt wa me va j = 0 := by
  unfold kOw; rw [h]
theorem kOw_some {fA fP : Nat → Int32} {rt : Nat → Option Nat} {wa me va : Nat → Int32} {j q : Nat} (h : rt j = some q) : kOw fA fP rt wa me va j = (if kMw wa me j + (va j).toInt64 < 0 then 0 else kMw wa me j + (va j).toInt64) * (kPr fA fP q).toInt64 := by
  unfold kOw; rw [h]

set_option maxHeartbeats 4000000 in
set_option maxRecDepth 100000 in
/-- priceOf -/
theorem K_X3_priceOf (l : Launch) (hfl : l.stackTraces = false) (D : va_G) (cI cJ cZ cO : ClassId) (z mi : Nat) (ws : va_W) (ks : Nat) (hs : Nat) (hd : Nat) (lr : Nat) (li : Nat) (hpr : Nat) (kp : Nat) (lim : Int32) (ret : Int32) (clm : Int64) (fP : Nat → Int32) (ni : Nat) (ia : Nat → Nat) (pi : Nat → Nat) (par : Nat → Option Nat) (rt : Nat → Option Nat) (ra : Nat → Nat) (wa : Nat → Int32) (me : Nat → Int32) (va : Nat → Int32) (dn : Nat → Int32) (nr : Nat) (pr : Nat → Nat) (fA : Nat → Int32) (kli : Nat) (kei : Nat) (edi : Nat) (leni : Nat) (mci : Int32) (gi : Nat → Option Nat) (klr : Nat) (ker : Nat) (edr : Nat) (lenr : Nat) (mcr : Int32) (gr : Nat → Option Nat) (hSh : kSh cI cO z ws ks hs hd lr li hpr kp lim ret clm fP ni ia pi par rt ra wa me va dn nr pr fA kli kei edi leni mci gi klr ker edr lenr mcr gr) (q : Nat) (hq : q < nr) : kM l D (kTy cI cJ cZ cO) z mi yX3_priceOf wsX3_priceOf ({ frames := 0, cells := 0, slots := 0, locals := 0 } : Room) [.ref hs, .ref (ra q)] (ws) (fun v u => v = some (.int (kPr fA fP q)) ∧ u = ws) (fun _ _ => False) := by
  refine kM.of hfl (cc := cX3_priceOf) (maxL := 2) (ret := (some .int)) (by decide) rfl (Nat.le_of_ble_eq_true rfl) ?_
  intro p e s m args below meth c A ls hC hr hmn hG hl
  have hx := hC.x
  have hb := hC.b
  have hl : lv_has ls 2 [(0, .ref hs), (1, .ref (ra q))] := hl
  have hi_RX2 : ∀ w ∈ wsX20, w ∈ wsX3_priceOf := fun w h => List.mem_cons_of_mem _ (List.mem_append_left _ (List.mem_append_right _ h))
  have hi_RX3 : ∀ w ∈ wsX30, w ∈ wsX3_priceOf := fun w h => List.mem_cons_of_mem _ (List.mem_append_right _ h)
  have hn30 : ni ≤ 30 ∧ nr ≤ 12 := hSh.2.2.1
  refine lv_aload_n hx hb dX3_priceOf_0 rfl (lv_at hl 1 rfl) ?_
  refine k_get (C := RX2) (T := TX2) (N := 3) (ci := 3) (v := .int (fA (3 * q))) (fs := [.int (fA (3 * q)), .int (fA (3 * q + 1)), .int (fA (3 * q + 2))]) hC hG hi_RX2 (pr q) (hSh.2.2.2.2.1.1 q hq) rfl 0 (by decide) (List.mem_of_getElem? (i := 1) rfl) rfl rfl dX3_priceOf_1 ?_
  refine lv_aload_n hx hb dX3_priceOf_4 rfl (lv_at hl 0 rfl) ?_
  refine k_get (C := RX3) (T := TX3) (N := 7) (ci := 4) (v := .ref hpr) (fs := [.ref hd, .ref lr, .ref li, .ref hpr, .int lim, .int ret, .long clm]) hC hG hi_RX3 ks hSh.1 rfl 3 (by decide) (List.mem_of_getElem? (i := 2) rfl) rfl rfl dX3_priceOf_5 ?_
  refine lv_iconst (v := 0) hx hb dX3_priceOf_8 (by decide) ?_
  refine va_iald (f := fP) hx hb hC.K hG.1 kp 0 hSh.2.1 rfl (by unfold vp_in; decide) dX3_priceOf_9 ?_
  refine lv_imul hx hb dX3_priceOf_10 ?_
  refine lv_aload_n hx hb dX3_priceOf_11 rfl (lv_at hl 1 rfl) ?_
  refine k_get (C := RX2) (T := TX2) (N := 3) (ci := 3) (v := .int (fA (3 * q + 1))) (fs := [.int (fA (3 * q)), .int (fA (3 * q + 1)), .int (fA (3 * q + 2))]) hC hG hi_RX2 (pr q) (hSh.2.2.2.2.1.1 q hq) rfl 1 (by decide) (List.mem_of_getElem? (i := 3) rfl) rfl rfl dX3_priceOf_12 ?_
  refine lv_aload_n hx hb dX3_priceOf_15 rfl (lv_at hl 0 rfl) ?_
  refine k_get (C := RX3) (T := TX3) (N := 7) (ci := 4) (v := .ref hpr) (fs := [.ref hd, .ref lr, .ref li, .ref hpr, .int lim, .int ret, .long clm]) hC hG hi_RX3 ks hSh.1 rfl 3 (by decide) (List.mem_of_getElem? (i := 2) rfl) rfl rfl dX3_priceOf_16 ?_
  refine lv_iconst (v := 1) hx hb dX3_priceOf_19 (by decide) ?_
  refine va_iald (f := fP) hx hb hC.K hG.1 kp 0 hSh.2.1 rfl (by unfold vp_in; decide) dX3_priceOf_20 ?_
  refine lv_imul hx hb dX3_priceOf_21 ?_
  refine lv_iadd hx hb dX3_priceOf_22 ?_
  refine lv_aload_n hx hb dX3_priceOf_23 rfl (lv_at hl 1 rfl) ?_
  refine k_get (C := RX2) (T := TX2) (N := 3) (ci := 3) (v := .int (fA (3 * q + 2))) (fs := [.int (fA (3 * q)), .int (fA (3 * q + 1)), .int (fA (3 * q + 2))]) hC hG hi_RX2 (pr q) (hSh.2.2.2.2.1.1 q hq) rfl 2 (by decide) (List.mem_of_getElem? (i := 4) rfl) rfl rfl dX3_priceOf_24 ?_
  refine lv_aload_n hx hb dX3_priceOf_27 rfl (lv_at hl 0 rfl) ?_
  refine k_get (C := RX3) (T := TX3) (N := 7) (ci := 4) (v := .ref hpr) (fs := [.ref hd, .ref lr, .ref li, .ref hpr, .int lim, .int ret, .long clm]) hC hG hi_RX3 ks hSh.1 rfl 3 (by decide) (List.mem_of_getElem? (i := 2) rfl) rfl rfl dX3_priceOf_28 ?_
  refine lv_iconst (v := 2) hx hb dX3_priceOf_31 (by decide) ?_
  refine va_iald (f := fP) hx hb hC.K hG.1 kp 0 hSh.2.1 rfl (by unfold vp_in; decide) dX3_priceOf_32 ?_
  refine lv_imul hx hb dX3_priceOf_33 ?_
  refine lv_iadd hx hb dX3_priceOf_34 ?_
  exact k_reti hC hr hG ⟨rfl, rfl⟩ (Nat.le_of_ble_eq_true rfl) (Nat.le_of_ble_eq_true rfl) dX3_priceOf_35

set_option maxHeartbeats 4000000 in
set_option maxRecDepth 100000 in
/-- ownSum of a heading -/
theorem K_X3_ownSum_N (l : Launch) (hfl : l.stackTraces = false) (D : va_G) (cI cJ cZ cO : ClassId) (z mi : Nat) (ws : va_W) (ks : Nat) (hs : Nat) (hd : Nat) (lr : Nat) (li : Nat) (hpr : Nat) (kp : Nat) (lim : Int32) (ret : Int32) (clm : Int64) (fP : Nat → Int32) (ni : Nat) (ia : Nat → Nat) (pi : Nat → Nat) (par : Nat → Option Nat) (rt : Nat → Option Nat) (ra : Nat → Nat) (wa : Nat → Int32) (me : Nat → Int32) (va : Nat → Int32) (dn : Nat → Int32) (nr : Nat) (pr : Nat → Nat) (fA : Nat → Int32) (kli : Nat) (kei : Nat) (edi : Nat) (leni : Nat) (mci : Int32) (gi : Nat → Option Nat) (klr : Nat) (ker : Nat) (edr : Nat) (lenr : Nat) (mcr : Int32) (gr : Nat → Option Nat) (hSh : kSh cI cO z ws ks hs hd lr li hpr kp lim ret clm fP ni ia pi par rt ra wa me va dn nr pr fA kli kei edi leni mci gi klr ker edr lenr mcr gr) (j : Nat) (hj : j < ni) (hq : rt j = none) : kM l D (kTy cI cJ cZ cO) z mi yX3_ownSum wsX3_ownSum ({ frames := 2, cells := 0, slots := 0, locals := 42 } : Room) [.ref hs, .ref (ia j)] (ws) (fun v u => v = some (.long (kOw fA fP rt wa me va j)) ∧ u = ws) (fun _ _ => False) := by
  refine kM.of hfl (cc := cX3_ownSum) (maxL := 2) (ret := (some .long)) (by decide) rfl (Nat.le_of_ble_eq_true rfl) ?_
  intro p e s m args below meth c A ls hC hr hmn hG hl
  have hx := hC.x
  have hb := hC.b
  have hl : lv_has ls 2 [(0, .ref hs), (1, .ref (ia j))] := hl
  have hi_RX1 : ∀ w ∈ wsX10, w ∈ wsX3_ownSum := fun w h => List.mem_cons_of_mem _ (List.mem_append_left _ (List.mem_append_left _ (List.mem_append_right _ h)))
  have hn30 : ni ≤ 30 ∧ nr ≤ 12 := hSh.2.2.1
  refine lv_aload_n hx hb dX3_ownSum_0 rfl (lv_at hl 1 rfl) ?_
  refine k_get (C := RX1) (T := TX1) (N := 6) (ci := 2) (v := .null) (fs := [va_rf ((par j).map ia), .null, .int (wa j), .int (me j), .int (va j), .int (dn j)]) hC hG hi_RX1 (pi j) (kIP_q hSh.2.2.2.1 hj hq) rfl 1 (by decide) (List.mem_of_getElem? (i := 1) rfl) rfl rfl dX3_ownSum_1 ?_
  refine lv_ifnonnullN hx hb dX3_ownSum_4 ?_
  refine lv_lconst (v := 0) hx hb dX3_ownSum_7 (by decide) ?_
  exact k_retl hC hr hG ⟨by rw [kOw_none hq], rfl⟩ (Nat.le_of_ble_eq_true rfl) (Nat.le_of_ble_eq_true rfl) dX3_ownSum_8

set_option maxHeartbeats 4000000 in
set_option maxRecDepth 100000 in
/-- ownSum of a leaf -/
theorem K_X3_ownSum_S (l : Launch) (hfl : l.stackTraces = false) (D : va_G) (cI cJ cZ cO : ClassId) (z mi : Nat) (ws : va_W) (ks : Nat) (hs : Nat) (hd : Nat) (lr : Nat) (li : Nat) (hpr : Nat) (kp : Nat) (lim : Int32) (ret : Int32) (clm : Int64) (fP : Nat → Int32) (ni : Nat) (ia : Nat → Nat) (pi : Nat → Nat) (par : Nat → Option Nat) (rt : Nat → Option Nat) (ra : Nat → Nat) (wa : Nat → Int32) (me : Nat → Int32) (va : Nat → Int32) (dn : Nat → Int32) (nr : Nat) (pr : Nat → Nat) (fA : Nat → Int32) (kli : Nat) (kei : Nat) (edi : Nat) (leni : Nat) (mci : Int32) (gi : Nat → Option Nat) (klr : Nat) (ker : Nat) (edr : Nat) (lenr : Nat) (mcr : Int32) (gr : Nat → Option Nat) (hSh : kSh cI cO z ws ks hs hd lr li hpr kp lim ret clm fP ni ia pi par rt ra wa me va dn nr pr fA kli kei edi leni mci gi klr ker edr lenr mcr gr) (j q : Nat) (hj : j < ni) (hq : rt j = some q) : kM l D (kTy cI cJ cZ cO) z mi yX3_ownSum wsX3_ownSum ({ frames := 2, cells := 0, slots := 0, locals := 42 } : Room) [.ref hs, .ref (ia j)] (ws) (fun v u => v = some (.long (kOw fA fP rt wa me va j)) ∧ u = ws) (fun _ _ => False) := by
  refine kM.of hfl (cc := cX3_ownSum) (maxL := 2) (ret := (some .long)) (by decide) rfl (Nat.le_of_ble_eq_true rfl) ?_
  intro p e s m args below meth c A ls hC hr hmn hG hl
  have hx := hC.x
  have hb := hC.b
  have hl : lv_has ls 2 [(0, .ref hs), (1, .ref (ia j))] := hl
  have hi_RX1 : ∀ w ∈ wsX10, w ∈ wsX3_ownSum := fun w h => List.mem_cons_of_mem _ (List.mem_append_left _ (List.mem_append_left _ (List.mem_append_right _ h)))
  have hn30 : ni ≤ 30 ∧ nr ≤ 12 := hSh.2.2.1
  refine lv_aload_n hx hb dX3_ownSum_0 rfl (lv_at hl 1 rfl) ?_
  refine k_get (C := RX1) (T := TX1) (N := 6) (ci := 2) (v := .ref (ra q)) (fs := [va_rf ((par j).map ia), .ref (ra q), .int (wa j), .int (me j), .int (va j), .int (dn j)]) hC hG hi_RX1 (pi j) (kIP_q hSh.2.2.2.1 hj hq) rfl 1 (by decide) (List.mem_of_getElem? (i := 1) rfl) rfl rfl dX3_ownSum_1 ?_
  refine lv_ifnonnull (tgt := 9) hx hb dX3_ownSum_4 (by decide) ?_
  refine lv_lconst (v := 0) hx hb dX3_ownSum_9 (by decide) ?_
  refine lv_aload_n hx hb dX3_ownSum_10 rfl (lv_at hl 1 rfl) ?_
  refine k_callV (nn := 0) (C := RX1) hC hG (pi j) (kIP_q hSh.2.2.2.1 hj hq) (ci := 2) rfl (K_X1_measureWithWaste l hfl D cI cJ cZ cO z mi (ws) (pi j) (ia j) ((par j).map ia) (some (ra q)) (wa j) (me j) (va j) (dn j) (kIP_q hSh.2.2.2.1 hj hq)) gX3_ownSum_X1_measureWithWaste rfl rfl (by decide +kernel) ⟨(Nat.le_of_ble_eq_true rfl), (Nat.le_of_ble_eq_true rfl)⟩ hl.1 rfl (Nat.le_of_ble_eq_true rfl) dX3_ownSum_11 ⟨(Nat.le_of_ble_eq_true rfl), (Nat.le_of_ble_eq_true rfl)⟩ (fun _ _ _ _ _ _ hp => hp.elim) (fun v9 u9 H locs hp hG => ?_)
  obtain ⟨rfl, hu9⟩ := hp
  rw [hu9] at hG
  refine W.widen (k := 0) (n := 0) (Nat.le_of_ble_eq_true rfl) (Nat.le_of_ble_eq_true rfl) ?_
  refine W.eq (g2 := F0 m 14 ls [.long (kMw wa me j), .long 0]) rfl ?_
  refine lv_aload_n hx hb dX3_ownSum_14 rfl (lv_at hl 1 rfl) ?_
  refine k_get (C := RX1) (T := TX1) (N := 6) (ci := 2) (v := .int (va j)) (fs := [va_rf ((par j).map ia), .ref (ra q), .int (wa j), .int (me j), .int (va j), .int (dn j)]) hC hG hi_RX1 (pi j) (kIP_q hSh.2.2.2.1 hj hq) rfl 4 (by decide) (List.mem_of_getElem? (i := 2) rfl) rfl rfl dX3_ownSum_15 ?_
  refine lv_i2l hx hb dX3_ownSum_18 rfl ?_
  refine lv_ladd hx hb dX3_ownSum_19 ?_
  refine va_mmax_long hx hb (hC.nl.trans hl.1.symm) hC.o (hC.t _ (List.mem_of_getElem? (i := 3) rfl)) (hC.t _ (List.mem_of_getElem? (i := 4) rfl)) (hC.t _ (List.mem_of_getElem? (i := 5) rfl)) (hC.t _ (List.mem_of_getElem? (i := 6) rfl)) (Nat.le_of_ble_eq_true rfl) (Nat.le_of_ble_eq_true rfl) (Nat.le_of_ble_eq_true rfl) (Nat.le_of_ble_eq_true rfl) dX3_ownSum_20 ?_
  refine lv_aload_n hx hb dX3_ownSum_23 rfl (lv_at hl 0 rfl) ?_
  refine lv_aload_n hx hb dX3_ownSum_24 rfl (lv_at hl 1 rfl) ?_
  refine k_get (C := RX1) (T := TX1) (N := 6) (ci := 2) (v := .ref (ra q)) (fs := [va_rf ((par j).map ia), .ref (ra q), .int (wa j), .int (me j), .int (va j), .int (dn j)]) hC hG hi_RX1 (pi j) (kIP_q hSh.2.2.2.1 hj hq) rfl 1 (by decide) (List.mem_of_getElem? (i := 1) rfl) rfl rfl dX3_ownSum_25 ?_
  refine k_callV (nn := 1) (C := RX3) hC hG ks hSh.1 (ci := 4) rfl (K_X3_priceOf l hfl D cI cJ cZ cO z mi ws ks hs hd lr li hpr kp lim ret clm fP ni ia pi par rt ra wa me va dn nr pr fA kli kei edi leni mci gi klr ker edr lenr mcr gr hSh q (hSh.2.2.2.2.2.1 j q hj hq)) gX3_ownSum_X3_priceOf rfl rfl (by decide +kernel) ⟨(Nat.le_of_ble_eq_true rfl), (Nat.le_of_ble_eq_true rfl)⟩ hl.1 rfl (Nat.le_of_ble_eq_true rfl) dX3_ownSum_28 ⟨(Nat.le_of_ble_eq_true rfl), (Nat.le_of_ble_eq_true rfl)⟩ (fun _ _ _ _ _ _ hp => hp.elim) (fun v9 u9 H locs hp hG => ?_)
  obtain ⟨rfl, hu9⟩ := hp
  rw [hu9] at hG
  refine W.widen (k := 0) (n := 0) (Nat.le_of_ble_eq_true rfl) (Nat.le_of_ble_eq_true rfl) ?_
  refine W.eq (g2 := F0 m 31 ls [.int (kPr fA fP q), .long (if ((kMw wa me j) + ((va j).toInt64)) < 0 then 0 else ((kMw wa me j) + ((va j).toInt64)))]) rfl ?_
  refine lv_i2l hx hb dX3_ownSum_31 rfl ?_
  refine lv_lmul hx hb dX3_ownSum_32 ?_
  exact k_retl hC hr hG ⟨by rw [kOw_some hq], rfl⟩ (Nat.le_of_ble_eq_true rfl) (Nat.le_of_ble_eq_true rfl) dX3_ownSum_33

theorem K_X3_ownSum (l : Launch) (hfl : l.stackTraces = false) (D : va_G) (cI cJ cZ cO : ClassId) (z mi : Nat) (ws : va_W) (ks : Nat) (hs : Nat) (hd : Nat) (lr : Nat) (li : Nat) (hpr : Nat) (kp : Nat) (lim : Int32) (ret : Int32) (clm : Int64) (fP : Nat → Int32) (ni : Nat) (ia : Nat → Nat) (pi : Nat → Nat) (par : Nat → Option Nat) (rt : Nat → Option Nat) (ra : Nat → Nat) (wa : Nat → Int32) (me : Nat → Int32) (va : Nat → Int32) (dn : Nat → Int32) (nr : Nat) (pr : Nat → Nat) (fA : Nat → Int32) (kli : Nat) (kei : Nat) (edi : Nat) (leni : Nat) (mci : Int32) (gi : Nat → Option Nat) (klr : Nat) (ker : Nat) (edr : Nat) (lenr : Nat) (mcr : Int32) (gr : Nat → Option Nat) (hSh : kSh cI cO z ws ks hs hd lr li hpr kp lim ret clm fP ni ia pi par rt ra wa me va dn nr pr fA kli kei edi leni mci gi klr ker edr lenr mcr gr) (j : Nat) (hj : j < ni) : kM l D (kTy cI cJ cZ cO) z mi yX3_ownSum wsX3_ownSum ({ frames := 2, cells := 0, slots := 0, locals := 42 } : Room) [.ref hs, .ref (ia j)] ws (fun v u => v = some (.long (kOw fA fP rt wa me va j)) ∧ u = ws) (fun _ _ => False) := by
  cases hq : rt j with
  | none => exact K_X3_ownSum_N l hfl D cI cJ cZ cO z mi ws ks hs hd lr li hpr kp lim ret clm fP ni ia pi par rt ra wa me va dn nr pr fA kli kei edi leni mci gi klr ker edr lenr mcr gr hSh j hj hq
  | some q => exact K_X3_ownSum_S l hfl D cI cJ cZ cO z mi ws ks hs hd lr li hpr kp lim ret clm fP ni ia pi par rt ra wa me va dn nr pr fA kli kei edi leni mci gi klr ker edr lenr mcr gr hSh j q hj hq

set_option maxHeartbeats 4000000 in
set_option maxRecDepth 100000 in
/-- items -/
theorem K_X3_items (l : Launch) (hfl : l.stackTraces = false) (D : va_G) (cI cJ cZ cO : ClassId) (z mi : Nat) (ws : va_W) (ks : Nat) (hs : Nat) (hd : Nat) (lr : Nat) (li : Nat) (hpr : Nat) (kp : Nat) (lim : Int32) (ret : Int32) (clm : Int64) (fP : Nat → Int32) (ni : Nat) (ia : Nat → Nat) (pi : Nat → Nat) (par : Nat → Option Nat) (rt : Nat → Option Nat) (ra : Nat → Nat) (wa : Nat → Int32) (me : Nat → Int32) (va : Nat → Int32) (dn : Nat → Int32) (nr : Nat) (pr : Nat → Nat) (fA : Nat → Int32) (kli : Nat) (kei : Nat) (edi : Nat) (leni : Nat) (mci : Int32) (gi : Nat → Option Nat) (klr : Nat) (ker : Nat) (edr : Nat) (lenr : Nat) (mcr : Int32) (gr : Nat → Option Nat) (hSh : kSh cI cO z ws ks hs hd lr li hpr kp lim ret clm fP ni ia pi par rt ra wa me va dn nr pr fA kli kei edi leni mci gi klr ker edr lenr mcr gr)  : kM l D (kTy cI cJ cZ cO) z mi yX3_items wsX3_items ({ frames := 1, cells := 0, slots := 0, locals := 20 } : Room) [.ref hs] (ws) (fun v u => v = some (.int (nI ni)) ∧ u = ws) (fun _ _ => False) := by
  refine kM.of hfl (cc := cX3_items) (maxL := 1) (ret := (some .int)) (by decide) rfl (Nat.le_of_ble_eq_true rfl) ?_
  intro p e s m args below meth c A ls hC hr hmn hG hl
  have hx := hC.x
  have hb := hC.b
  have hl : lv_has ls 1 [(0, .ref hs)] := hl
  have hi_RX3 : ∀ w ∈ wsX30, w ∈ wsX3_items := fun w h => List.mem_cons_of_mem _ (List.mem_append_left _ (List.mem_append_right _ h))
  have hn30 : ni ≤ 30 ∧ nr ≤ 12 := hSh.2.2.1
  refine lv_aload_n hx hb dX3_items_0 rfl (lv_at hl 0 rfl) ?_
  refine k_get (C := RX3) (T := TX3) (N := 7) (ci := 4) (v := .ref li) (fs := [.ref hd, .ref lr, .ref li, .ref hpr, .int lim, .int ret, .long clm]) hC hG hi_RX3 ks hSh.1 rfl 2 (by decide) (List.mem_of_getElem? (i := 1) rfl) rfl rfl dX3_items_1 ?_
  refine k_callV (nn := 0) (C := RJx4a65c) hC hG kli hSh.2.2.2.2.2.2.1.1 (ci := 0) rfl (K_list_size l hfl D cI cJ cZ cO z mi (ws) kli li mci edi ni hSh.2.2.2.2.2.2.1.1) gX3_items_Jx4a65c_size_8abf5 rfl rfl (by decide +kernel) ⟨(Nat.le_of_ble_eq_true rfl), (Nat.le_of_ble_eq_true rfl)⟩ hl.1 rfl (Nat.le_of_ble_eq_true rfl) dX3_items_4 ⟨(Nat.le_of_ble_eq_true rfl), (Nat.le_of_ble_eq_true rfl)⟩ (fun _ _ _ _ _ _ hp => hp.elim) (fun v9 u9 H locs hp hG => ?_)
  obtain ⟨rfl, hu9⟩ := hp
  rw [hu9] at hG
  refine W.widen (k := 0) (n := 0) (Nat.le_of_ble_eq_true rfl) (Nat.le_of_ble_eq_true rfl) ?_
  refine W.eq (g2 := F0 m 7 ls [.int (nI ni)]) rfl ?_
  exact k_reti hC hr hG ⟨rfl, rfl⟩ (Nat.le_of_ble_eq_true rfl) (Nat.le_of_ble_eq_true rfl) dX3_items_7

set_option maxHeartbeats 4000000 in
set_option maxRecDepth 100000 in
/-- rateOf -/
theorem K_X3_rateOf (l : Launch) (hfl : l.stackTraces = false) (D : va_G) (cI cJ cZ cO : ClassId) (z mi : Nat) (ws : va_W) (ks : Nat) (hs : Nat) (hd : Nat) (lr : Nat) (li : Nat) (hpr : Nat) (kp : Nat) (lim : Int32) (ret : Int32) (clm : Int64) (fP : Nat → Int32) (ni : Nat) (ia : Nat → Nat) (pi : Nat → Nat) (par : Nat → Option Nat) (rt : Nat → Option Nat) (ra : Nat → Nat) (wa : Nat → Int32) (me : Nat → Int32) (va : Nat → Int32) (dn : Nat → Int32) (nr : Nat) (pr : Nat → Nat) (fA : Nat → Int32) (kli : Nat) (kei : Nat) (edi : Nat) (leni : Nat) (mci : Int32) (gi : Nat → Option Nat) (klr : Nat) (ker : Nat) (edr : Nat) (lenr : Nat) (mcr : Int32) (gr : Nat → Option Nat) (hSh : kSh cI cO z ws ks hs hd lr li hpr kp lim ret clm fP ni ia pi par rt ra wa me va dn nr pr fA kli kei edi leni mci gi klr ker edr lenr mcr gr) (i9 : Int32) : kM l D (kTy cI cJ cZ cO) z mi yX3_rateOf wsX3_rateOf ({ frames := 7, cells := 1, slots := 6, locals := 141 } : Room) [.ref hs, .int i9] (ws) (fun v u => (∃ q, q < nr ∧ i9 = nI q ∧ v = some (.int (kPr fA fP q))) ∧ u = ws) (fun E u => u = ws ∧ (E = kIOB ∧ (kNum i9 nr) = false)) := by
  refine kM.of hfl (cc := cX3_rateOf) (maxL := 2) (ret := (some .int)) (by decide) rfl (Nat.le_of_ble_eq_true rfl) ?_
  intro p e s m args below meth c A ls hC hr hmn hG hl
  have hx := hC.x
  have hb := hC.b
  have hl : lv_has ls 2 [(0, .ref hs), (1, .int i9)] := hl
  have hn30 : ni ≤ 30 ∧ nr ≤ 12 := hSh.2.2.1
  refine lv_aload_n hx hb dX3_rateOf_0 rfl (lv_at hl 0 rfl) ?_
  refine lv_aload_n hx hb dX3_rateOf_1 rfl (lv_at hl 0 rfl) ?_
  refine lv_iload_n hx hb dX3_rateOf_2 rfl (lv_at hl 1 rfl) ?_
  refine k_callV (nn := 1) (C := RX3) hC hG ks hSh.1 (ci := 4) rfl (K_X3_rateAt l hfl D cI cJ cZ cO z mi ws ks hs hd lr li hpr kp lim ret clm fP ni ia pi par rt ra wa me va dn nr pr fA kli kei edi leni mci gi klr ker edr lenr mcr gr hSh i9) gX3_rateOf_X3_rateAt rfl rfl (by decide +kernel) ⟨(Nat.le_of_ble_eq_true rfl), (Nat.le_of_ble_eq_true rfl)⟩ hl.1 rfl (Nat.le_of_ble_eq_true rfl) dX3_rateOf_3 ⟨(Nat.le_of_ble_eq_true rfl), (Nat.le_of_ble_eq_true rfl)⟩ (fun E9 ce9 q9 u9 H9 locs9 hp9 hG9 h91 h92 h93 => k_out hC hG9 h91 h92 h93 (by obtain ⟨rfl, rfl, h99⟩ := hp9; exact ⟨rfl, ⟨rfl, h99⟩⟩) (Nat.le_of_ble_eq_true rfl) (Nat.le_of_ble_eq_true rfl)) (fun v9 u9 H locs hp hG => ?_)
  obtain ⟨⟨q1, hq2, hi3, rfl⟩, hu9⟩ := hp
  rw [hu9] at hG
  have hk4 : kNum i9 nr = true := by rw [hi3]; exact kNum_of hq2 (by omega)
  refine W.widen (k := 1) (n := 6) (Nat.le_of_ble_eq_true rfl) (Nat.le_of_ble_eq_true rfl) ?_
  refine W.eq (g2 := F0 m 6 ls [.ref (ra q1), .ref hs]) rfl ?_
  refine k_callV (nn := 1) (C := RX3) hC hG ks hSh.1 (ci := 4) rfl (K_X3_priceOf l hfl D cI cJ cZ cO z mi ws ks hs hd lr li hpr kp lim ret clm fP ni ia pi par rt ra wa me va dn nr pr fA kli kei edi leni mci gi klr ker edr lenr mcr gr hSh q1 hq2) gX3_rateOf_X3_priceOf rfl rfl (by decide +kernel) ⟨(Nat.le_of_ble_eq_true rfl), (Nat.le_of_ble_eq_true rfl)⟩ hl.1 rfl (Nat.le_of_ble_eq_true rfl) dX3_rateOf_6 ⟨(Nat.le_of_ble_eq_true rfl), (Nat.le_of_ble_eq_true rfl)⟩ (fun _ _ _ _ _ _ hp => hp.elim) (fun v9 u9 H locs hp hG => ?_)
  obtain ⟨rfl, hu9⟩ := hp
  rw [hu9] at hG
  refine W.widen (k := 1) (n := 6) (Nat.le_of_ble_eq_true rfl) (Nat.le_of_ble_eq_true rfl) ?_
  refine W.eq (g2 := F0 m 9 ls [.int (kPr fA fP q1)]) rfl ?_
  exact k_reti hC hr hG ⟨⟨q1, hq2, hi3, rfl⟩, rfl⟩ (Nat.le_of_ble_eq_true rfl) (Nat.le_of_ble_eq_true rfl) dX3_rateOf_9

set_option maxHeartbeats 4000000 in
set_option maxRecDepth 100000 in
/-- quantity -/
theorem K_X3_quantity (l : Launch) (hfl : l.stackTraces = false) (D : va_G) (cI cJ cZ cO : ClassId) (z mi : Nat) (ws : va_W) (ks : Nat) (hs : Nat) (hd : Nat) (lr : Nat) (li : Nat) (hpr : Nat) (kp : Nat) (lim : Int32) (ret : Int32) (clm : Int64) (fP : Nat → Int32) (ni : Nat) (ia : Nat → Nat) (pi : Nat → Nat) (par : Nat → Option Nat) (rt : Nat → Option Nat) (ra : Nat → Nat) (wa : Nat → Int32) (me : Nat → Int32) (va : Nat → Int32) (dn : Nat → Int32) (nr : Nat) (pr : Nat → Nat) (fA : Nat → Int32) (kli : Nat) (kei : Nat) (edi : Nat) (leni : Nat) (mci : Int32) (gi : Nat → Option Nat) (klr : Nat) (ker : Nat) (edr : Nat) (lenr : Nat) (mcr : Int32) (gr : Nat → Option Nat) (hSh : kSh cI cO z ws ks hs hd lr li hpr kp lim ret clm fP ni ia pi par rt ra wa me va dn nr pr fA kli kei edi leni mci gi klr ker edr lenr mcr gr) (i9 : Int32) : kM l D (kTy cI cJ cZ cO) z mi yX3_quantity wsX3_quantity ({ frames := 7, cells := 2, slots := 12, locals := 141 } : Room) [.ref hs, .int i9] (ws) (fun v u => (∃ j, j < ni ∧ i9 = nI j ∧ v = some (.int (kMw wa me j).toInt32)) ∧ u = ws ∧ kLe rt i9 = true) (fun E u => u = ws ∧ ((E = kIOB ∧ (kNum i9 ni) = false) ∨ (E = kISE ∧ (kNum i9 ni) = true ∧ (kLe rt i9) = false))) := by
  refine kM.of hfl (cc := cX3_quantity) (maxL := 3) (ret := (some .int)) (by decide) rfl (Nat.le_of_ble_eq_true rfl) ?_
  intro p e s m args below meth c A ls hC hr hmn hG hl
  have hx := hC.x
  have hb := hC.b
  have hl : lv_has ls 3 [(0, .ref hs), (1, .int i9)] := hl
  have hn30 : ni ≤ 30 ∧ nr ≤ 12 := hSh.2.2.1
  refine lv_aload_n hx hb dX3_quantity_0 rfl (lv_at hl 0 rfl) ?_
  refine lv_iload_n hx hb dX3_quantity_1 rfl (lv_at hl 1 rfl) ?_
  refine k_callV (nn := 1) (C := RX3) hC hG ks hSh.1 (ci := 4) rfl (K_X3_itemAt l hfl D cI cJ cZ cO z mi ws ks hs hd lr li hpr kp lim ret clm fP ni ia pi par rt ra wa me va dn nr pr fA kli kei edi leni mci gi klr ker edr lenr mcr gr hSh i9) gX3_quantity_X3_itemAt rfl rfl (by decide +kernel) ⟨(Nat.le_of_ble_eq_true rfl), (Nat.le_of_ble_eq_true rfl)⟩ hl.1 rfl (Nat.le_of_ble_eq_true rfl) dX3_quantity_2 ⟨(Nat.le_of_ble_eq_true rfl), (Nat.le_of_ble_eq_true rfl)⟩ (fun E9 ce9 q9 u9 H9 locs9 hp9 hG9 h91 h92 h93 => k_out hC hG9 h91 h92 h93 (by obtain ⟨rfl, rfl, h99⟩ := hp9; exact ⟨rfl, Or.inl ⟨rfl, h99⟩⟩) (Nat.le_of_ble_eq_true rfl) (Nat.le_of_ble_eq_true rfl)) (fun v9 u9 H locs hp hG => ?_)
  obtain ⟨⟨j1, hj2, hi3, rfl⟩, hu9⟩ := hp
  rw [hu9] at hG
  have hk4 : kNum i9 ni = true := by rw [hi3]; exact kNum_of hj2 (by omega)
  refine W.widen (k := 1) (n := 6) (Nat.le_of_ble_eq_true rfl) (Nat.le_of_ble_eq_true rfl) ?_
  refine W.eq (g2 := F0 m 5 ls [.ref (ia j1)]) rfl ?_
  refine lv_astore_n (lv' := [(2, .ref (ia j1)), (0, .ref hs), (1, .int i9)]) hx hb dX3_quantity_5 rfl hl (by decide) rfl (fun ls hl => ?_)
  refine lv_aload_n hx hb dX3_quantity_6 rfl (lv_at hl 0 rfl) ?_
  refine k_callS (nn := 1) hC hG (K_X3_checkLeaf l hfl D cI cJ cZ cO z mi ws ks hs hd lr li hpr kp lim ret clm fP ni ia pi par rt ra wa me va dn nr pr fA kli kei edi leni mci gi klr ker edr lenr mcr gr hSh j1 hj2) gX3_quantity_X3_checkLeaf rfl rfl (by decide +kernel) ⟨(Nat.le_of_ble_eq_true rfl), (Nat.le_of_ble_eq_true rfl)⟩ hl.1 rfl (Nat.le_of_ble_eq_true rfl) dX3_quantity_7 ⟨(Nat.le_of_ble_eq_true rfl), (Nat.le_of_ble_eq_true rfl)⟩ (fun E9 ce9 q9 u9 H9 locs9 hp9 hG9 h91 h92 h93 => k_out hC hG9 h91 h92 h93 (by obtain ⟨rfl, rfl, h98⟩ := hp9; exact ⟨rfl, Or.inr (⟨rfl, hk4, ((kLe_at hi3 (by omega)).trans h98)⟩)⟩) (Nat.le_of_ble_eq_true rfl) (Nat.le_of_ble_eq_true rfl)) (fun v9 u9 H locs hp hG => ?_)
  obtain ⟨rfl, hu9, hc5⟩ := hp
  rw [hu9] at hG
  have hk6 : kLe rt i9 = true := (kLe_at hi3 (by omega)).trans hc5
  refine W.widen (k := 2) (n := 12) (Nat.le_of_ble_eq_true rfl) (Nat.le_of_ble_eq_true rfl) ?_
  refine W.eq (g2 := F0 m 10 ls []) rfl ?_
  refine lv_aload_n hx hb dX3_quantity_10 rfl (lv_at hl 0 rfl) ?_
  refine k_callV (nn := 0) (C := RX1) hC hG (pi j1) (hSh.2.2.2.1.1 j1 hj2) (ci := 2) rfl (K_X1_measureWithWaste l hfl D cI cJ cZ cO z mi (ws) (pi j1) (ia j1) ((par j1).map ia) ((rt j1).map ra) (wa j1) (me j1) (va j1) (dn j1) (hSh.2.2.2.1.1 j1 hj2)) gX3_quantity_X1_measureWithWaste rfl rfl (by decide +kernel) ⟨(Nat.le_of_ble_eq_true rfl), (Nat.le_of_ble_eq_true rfl)⟩ hl.1 rfl (Nat.le_of_ble_eq_true rfl) dX3_quantity_11 ⟨(Nat.le_of_ble_eq_true rfl), (Nat.le_of_ble_eq_true rfl)⟩ (fun _ _ _ _ _ _ hp => hp.elim) (fun v9 u9 H locs hp hG => ?_)
  obtain ⟨rfl, hu9⟩ := hp
  rw [hu9] at hG
  refine W.widen (k := 2) (n := 12) (Nat.le_of_ble_eq_true rfl) (Nat.le_of_ble_eq_true rfl) ?_
  refine W.eq (g2 := F0 m 14 ls [.long (kMw wa me j1)]) rfl ?_
  refine lv_l2i hx hb dX3_quantity_14 rfl ?_
  exact k_reti hC hr hG ⟨⟨j1, hj2, hi3, rfl⟩, rfl, hk6⟩ (Nat.le_of_ble_eq_true rfl) (Nat.le_of_ble_eq_true rfl) dX3_quantity_15

