set_option maxHeartbeats 4000000 in
set_option maxRecDepth 100000 in
/-- checkClosed -/
theorem K_X3_checkClosed (l : Launch) (hfl : l.stackTraces = false) (D : va_G) (cI cJ cZ cO : ClassId) (z mi : Nat) (hd : Nat) (ho : Nat) (hwn : Nat) (hq : Nat) (BO : Nat → Nat → Bool) (BW : Nat → Nat → Bool) (fQ : Nat → Int32) (oc : Nat) (bx : Int32) (by9 : Int32) (x : Int32) (y : Int32) (ot : Int32) (tw : Int32) (bg : Bool) (cl : Bool) (hs : Nat) (lr : Nat) (li : Nat) (hpr : Nat) (lim : Int32) (ret : Int32) (clm : Int64) (fP : Nat → Int32) (rest : va_W)  : kM l D (kTy cI cJ cZ cO) z mi yX3_checkClosed wsX3_checkClosed ({ frames := 6, cells := 1, slots := 6, locals := 90 } : Room) [.ref hs] ((hd, .inr (1, [.ref ho, .ref hwn, .ref hq, .int (nI oc), .int bx, .int by9, .int x, .int y, .int ot, .int tw, .int (kb bg), .int (kb cl)])) :: (ho, .inl (cJ, 41, .inr (.inl (fun i9 => kRow (BO i9))))) :: (hwn, .inl (cJ, 41, .inr (.inl (fun i9 => kRow (BW i9))))) :: (hq, .inl (cI, 10, .inl fQ)) :: (hs, .inr (4, [.ref hd, .ref lr, .ref li, .ref hpr, .int lim, .int ret, .long clm])) :: (hpr, .inl (cI, 3, .inl fP)) :: rest) (fun v u => v = none ∧ u = (hd, .inr (1, [.ref ho, .ref hwn, .ref hq, .int (nI oc), .int bx, .int by9, .int x, .int y, .int ot, .int tw, .int (kb bg), .int (kb cl)])) :: (ho, .inl (cJ, 41, .inr (.inl (fun i9 => kRow (BO i9))))) :: (hwn, .inl (cJ, 41, .inr (.inl (fun i9 => kRow (BW i9))))) :: (hq, .inl (cI, 10, .inl fQ)) :: (hs, .inr (4, [.ref hd, .ref lr, .ref li, .ref hpr, .int lim, .int ret, .long clm])) :: (hpr, .inl (cI, 3, .inl fP)) :: rest ∧ cl = true) (fun E u => u = (hd, .inr (1, [.ref ho, .ref hwn, .ref hq, .int (nI oc), .int bx, .int by9, .int x, .int y, .int ot, .int tw, .int (kb bg), .int (kb cl)])) :: (ho, .inl (cJ, 41, .inr (.inl (fun i9 => kRow (BO i9))))) :: (hwn, .inl (cJ, 41, .inr (.inl (fun i9 => kRow (BW i9))))) :: (hq, .inl (cI, 10, .inl fQ)) :: (hs, .inr (4, [.ref hd, .ref lr, .ref li, .ref hpr, .int lim, .int ret, .long clm])) :: (hpr, .inl (cI, 3, .inl fP)) :: rest ∧ (E = kISE ∧ cl = false)) := by
  refine kM.of hfl (cc := cX3_checkClosed) (maxL := 1) (ret := none) (by decide) rfl (Nat.le_of_ble_eq_true rfl) ?_
  intro p e s m args below meth c A ls hC hr hmn hG hl
  have hx := hC.x
  have hb := hC.b
  have hl : lv_has ls 1 [(0, .ref hs)] := hl
  have hi_RX0 : ∀ w ∈ wsX00, w ∈ wsX3_checkClosed := fun w h => List.mem_cons_of_mem _ (List.mem_append_left _ (List.mem_append_right _ h))
  have hi_RX3 : ∀ w ∈ wsX30, w ∈ wsX3_checkClosed := fun w h => List.mem_cons_of_mem _ (List.mem_append_left _ (List.mem_append_left _ (List.mem_append_right _ h)))
  refine lv_aload_n hx hb dX3_checkClosed_0 rfl (lv_at hl 0 rfl) ?_
  refine k_get (C := RX3) (T := TX3) (N := 7) (ci := 4) (v := .ref hd) (fs := [.ref hd, .ref lr, .ref li, .ref hpr, .int lim, .int ret, .long clm]) hC hG hi_RX3 4 rfl rfl 0 (by decide) (List.mem_of_getElem? (i := 3) rfl) rfl rfl dX3_checkClosed_1 ?_
  refine k_get (C := RX0) (T := TX0) (N := 12) (ci := 1) (v := .int (kb cl)) (fs := [.ref ho, .ref hwn, .ref hq, .int (nI oc), .int bx, .int by9, .int x, .int y, .int ot, .int tw, .int (kb bg), .int (kb cl)]) hC hG hi_RX0 0 rfl rfl 11 (by decide) (List.mem_of_getElem? (i := 4) rfl) rfl rfl dX3_checkClosed_4 ?_
  refine k_ifB_ne (tgt := 20) hx hb dX3_checkClosed_7 (by decide) (fun c_1 => ?_) (fun c_1 => ?_)
  · exact k_retv hC hr hG ⟨rfl, rfl, c_1⟩ (Nat.le_of_ble_eq_true rfl) (Nat.le_of_ble_eq_true rfl) dX3_checkClosed_20
  · exact k_throw (text := "no closed drawing") (is := 195) (ic := 60) (cls := "java/lang/IllegalStateException") hC hG rfl (by decide +kernel) (List.mem_of_getElem? (i := 1) rfl) (List.mem_of_getElem? (i := 2) rfl) (by decide) (fun w h => List.mem_cons_of_mem _ (List.mem_append_right _ h)) (by decide +kernel) (by decide +kernel) hl.1 dX3_checkClosed_10 dX3_checkClosed_13 dX3_checkClosed_14 dX3_checkClosed_16 dX3_checkClosed_19 ⟨(Nat.le_of_ble_eq_true rfl), (Nat.le_of_ble_eq_true rfl)⟩ ⟨(Nat.le_of_ble_eq_true rfl), (Nat.le_of_ble_eq_true rfl)⟩ ⟨(Nat.le_of_ble_eq_true rfl), (Nat.le_of_ble_eq_true rfl)⟩ (⟨rfl, ⟨rfl, c_1⟩⟩)

set_option maxHeartbeats 4000000 in
set_option maxRecDepth 100000 in
/-- begin -/
theorem K_X3_begin (l : Launch) (hfl : l.stackTraces = false) (D : va_G) (cI cJ cZ cO : ClassId) (z mi : Nat) (hd : Nat) (ho : Nat) (hwn : Nat) (hq : Nat) (BO : Nat → Nat → Bool) (BW : Nat → Nat → Bool) (fQ : Nat → Int32) (oc : Nat) (bx : Int32) (by9 : Int32) (x : Int32) (y : Int32) (ot : Int32) (tw : Int32) (bg : Bool) (cl : Bool) (hs : Nat) (lr : Nat) (li : Nat) (hpr : Nat) (lim : Int32) (ret : Int32) (clm : Int64) (fP : Nat → Int32) (rest : va_W) (xa ya : Int32) : kM l D (kTy cI cJ cZ cO) z mi yX3_begin wsX3_begin ({ frames := 7, cells := 2, slots := 12, locals := 112 } : Room) [.ref hs, .int xa, .int ya] ((hd, .inr (1, [.ref ho, .ref hwn, .ref hq, .int (nI oc), .int bx, .int by9, .int x, .int y, .int ot, .int tw, .int (kb bg), .int (kb cl)])) :: (ho, .inl (cJ, 41, .inr (.inl (fun i9 => kRow (BO i9))))) :: (hwn, .inl (cJ, 41, .inr (.inl (fun i9 => kRow (BW i9))))) :: (hq, .inl (cI, 10, .inl fQ)) :: (hs, .inr (4, [.ref hd, .ref lr, .ref li, .ref hpr, .int lim, .int ret, .long clm])) :: (hpr, .inl (cI, 3, .inl fP)) :: rest) (fun v u => v = none ∧ u = (hd, .inr (1, [.ref ho, .ref hwn, .ref hq, .int (nI 0), .int xa, .int ya, .int xa, .int ya, .int 0, .int 0, .int (kb true), .int (kb false)])) :: (ho, .inl (cJ, 41, .inr (.inl (fun i9 => kRow ((kSt2 (fun _ _ => false) xa.toNatClampNeg ya.toNatClampNeg) i9))))) :: (hwn, .inl (cJ, 41, .inr (.inl (fun i9 => kRow ((fun _ _ => false) i9))))) :: (hq, .inl (cI, 10, .inl (fun _ => 0))) :: (hs, .inr (4, [.ref hd, .ref lr, .ref li, .ref hpr, .int lim, .int ret, .long clm])) :: (hpr, .inl (cI, 3, .inl fP)) :: rest ∧ ((kIn xa 0 40) && (kIn ya 0 40)) = true) (fun E u => u = (hd, .inr (1, [.ref ho, .ref hwn, .ref hq, .int (nI oc), .int bx, .int by9, .int x, .int y, .int ot, .int tw, .int (kb bg), .int (kb cl)])) :: (ho, .inl (cJ, 41, .inr (.inl (fun i9 => kRow (BO i9))))) :: (hwn, .inl (cJ, 41, .inr (.inl (fun i9 => kRow (BW i9))))) :: (hq, .inl (cI, 10, .inl fQ)) :: (hs, .inr (4, [.ref hd, .ref lr, .ref li, .ref hpr, .int lim, .int ret, .long clm])) :: (hpr, .inl (cI, 3, .inl fP)) :: rest ∧ (E = kIAE ∧ ((kIn xa 0 40) && (kIn ya 0 40)) = false)) := by
  refine kM.of hfl (cc := cX3_begin) (maxL := 3) (ret := none) (by decide) rfl (Nat.le_of_ble_eq_true rfl) ?_
  intro p e s m args below meth c A ls hC hr hmn hG hl
  have hx := hC.x
  have hb := hC.b
  have hl : lv_has ls 3 [(0, .ref hs), (1, .int xa), (2, .int ya)] := hl
  have hi_RX3 : ∀ w ∈ wsX30, w ∈ wsX3_begin := fun w h => List.mem_cons_of_mem _ (List.mem_append_left _ (List.mem_append_left _ (List.mem_append_right _ h)))
  refine lv_iload_n hx hb dX3_begin_0 rfl (lv_at hl 1 rfl) ?_
  refine lv_iconst (v := 0) hx hb dX3_begin_1 (by decide) ?_
  refine lv_bipush (v := 40) hx hb dX3_begin_2 (by decide) ?_
  refine k_callS (nn := 3) hC hG (K_X3_checkRange l hfl D cI cJ cZ cO z mi ((hd, .inr (1, [.ref ho, .ref hwn, .ref hq, .int (nI oc), .int bx, .int by9, .int x, .int y, .int ot, .int tw, .int (kb bg), .int (kb cl)])) :: (ho, .inl (cJ, 41, .inr (.inl (fun i9 => kRow (BO i9))))) :: (hwn, .inl (cJ, 41, .inr (.inl (fun i9 => kRow (BW i9))))) :: (hq, .inl (cI, 10, .inl fQ)) :: (hs, .inr (4, [.ref hd, .ref lr, .ref li, .ref hpr, .int lim, .int ret, .long clm])) :: (hpr, .inl (cI, 3, .inl fP)) :: rest) xa 0 40) gX3_begin_X3_checkRange rfl rfl (by decide +kernel) ⟨(Nat.le_of_ble_eq_true rfl), (Nat.le_of_ble_eq_true rfl)⟩ hl.1 rfl (Nat.le_of_ble_eq_true rfl) dX3_begin_4 ⟨(Nat.le_of_ble_eq_true rfl), (Nat.le_of_ble_eq_true rfl)⟩ (fun E9 ce9 q9 u9 H9 locs9 hp9 hG9 h91 h92 h93 => k_out hC hG9 h91 h92 h93 (by obtain ⟨rfl, hu8, h99⟩ := hp9; rw [hu8]; exact ⟨rfl, ⟨rfl, (by rw [h99]; first | done | rfl)⟩⟩) (Nat.le_of_ble_eq_true rfl) (Nat.le_of_ble_eq_true rfl)) (fun v9 u9 H locs hp hG => ?_)
  obtain ⟨rfl, hu9, hr1⟩ := hp
  rw [hu9] at hG
  refine W.widen (k := 1) (n := 6) (Nat.le_of_ble_eq_true rfl) (Nat.le_of_ble_eq_true rfl) ?_
  refine W.eq (g2 := F0 m 7 ls []) rfl ?_
  refine lv_iload_n hx hb dX3_begin_7 rfl (lv_at hl 2 rfl) ?_
  refine lv_iconst (v := 0) hx hb dX3_begin_8 (by decide) ?_
  refine lv_bipush (v := 40) hx hb dX3_begin_9 (by decide) ?_
  refine k_callS (nn := 3) hC hG (K_X3_checkRange l hfl D cI cJ cZ cO z mi ((hd, .inr (1, [.ref ho, .ref hwn, .ref hq, .int (nI oc), .int bx, .int by9, .int x, .int y, .int ot, .int tw, .int (kb bg), .int (kb cl)])) :: (ho, .inl (cJ, 41, .inr (.inl (fun i9 => kRow (BO i9))))) :: (hwn, .inl (cJ, 41, .inr (.inl (fun i9 => kRow (BW i9))))) :: (hq, .inl (cI, 10, .inl fQ)) :: (hs, .inr (4, [.ref hd, .ref lr, .ref li, .ref hpr, .int lim, .int ret, .long clm])) :: (hpr, .inl (cI, 3, .inl fP)) :: rest) ya 0 40) gX3_begin_X3_checkRange rfl rfl (by decide +kernel) ⟨(Nat.le_of_ble_eq_true rfl), (Nat.le_of_ble_eq_true rfl)⟩ hl.1 rfl (Nat.le_of_ble_eq_true rfl) dX3_begin_11 ⟨(Nat.le_of_ble_eq_true rfl), (Nat.le_of_ble_eq_true rfl)⟩ (fun E9 ce9 q9 u9 H9 locs9 hp9 hG9 h91 h92 h93 => k_out hC hG9 h91 h92 h93 (by obtain ⟨rfl, hu8, h99⟩ := hp9; rw [hu8]; exact ⟨rfl, ⟨rfl, (by rw [h99, hr1]; first | done | rfl)⟩⟩) (Nat.le_of_ble_eq_true rfl) (Nat.le_of_ble_eq_true rfl)) (fun v9 u9 H locs hp hG => ?_)
  obtain ⟨rfl, hu9, hr2⟩ := hp
  rw [hu9] at hG
  refine W.widen (k := 2) (n := 12) (Nat.le_of_ble_eq_true rfl) (Nat.le_of_ble_eq_true rfl) ?_
  refine W.eq (g2 := F0 m 14 ls []) rfl ?_
  refine lv_aload_n hx hb dX3_begin_14 rfl (lv_at hl 0 rfl) ?_
  refine k_get (C := RX3) (T := TX3) (N := 7) (ci := 4) (v := .ref hd) (fs := [.ref hd, .ref lr, .ref li, .ref hpr, .int lim, .int ret, .long clm]) hC hG hi_RX3 4 rfl rfl 0 (by decide) (List.mem_of_getElem? (i := 1) rfl) rfl rfl dX3_begin_15 ?_
  refine lv_iload_n hx hb dX3_begin_18 rfl (lv_at hl 1 rfl) ?_
  refine lv_iload_n hx hb dX3_begin_19 rfl (lv_at hl 2 rfl) ?_
  refine k_callV (nn := 2) (C := RX0) hC hG 0 rfl (ci := 1) rfl (K_X0_startAt l hfl D cI cJ cZ cO z mi hd ho hwn hq BO BW fQ oc bx by9 x y ot tw bg cl ((hs, .inr (4, [.ref hd, .ref lr, .ref li, .ref hpr, .int lim, .int ret, .long clm])) :: (hpr, .inl (cI, 3, .inl fP)) :: rest) xa ya (by unfold kPl; rw [hr2, hr1]; rfl)) gX3_begin_X0_startAt rfl rfl (by decide +kernel) ⟨(Nat.le_of_ble_eq_true rfl), (Nat.le_of_ble_eq_true rfl)⟩ hl.1 rfl (Nat.le_of_ble_eq_true rfl) dX3_begin_20 ⟨(Nat.le_of_ble_eq_true rfl), (Nat.le_of_ble_eq_true rfl)⟩ (fun _ _ _ _ _ _ hp => hp.elim) (fun v9 u9 H locs hp hG => ?_)
  obtain ⟨rfl, rfl⟩ := hp
  have hG : kG D A s ((hd, .inr (1, [.ref ho, .ref hwn, .ref hq, .int (nI 0), .int xa, .int ya, .int xa, .int ya, .int 0, .int 0, .int (kb true), .int (kb false)])) :: (ho, .inl (cJ, 41, .inr (.inl (fun i9 => kRow ((kSt2 (fun _ _ => false) xa.toNatClampNeg ya.toNatClampNeg) i9))))) :: (hwn, .inl (cJ, 41, .inr (.inl (fun i9 => kRow ((fun _ _ => false) i9))))) :: (hq, .inl (cI, 10, .inl (fun _ => 0))) :: (hs, .inr (4, [.ref hd, .ref lr, .ref li, .ref hpr, .int lim, .int ret, .long clm])) :: (hpr, .inl (cI, 3, .inl fP)) :: rest) H locs := hG
  refine W.widen (k := 2) (n := 12) (Nat.le_of_ble_eq_true rfl) (Nat.le_of_ble_eq_true rfl) ?_
  refine W.eq (g2 := F0 m 23 ls []) rfl ?_
  exact k_retv hC hr hG ⟨rfl, rfl, (by rw [hr2, hr1]; first | done | rfl)⟩ (Nat.le_of_ble_eq_true rfl) (Nat.le_of_ble_eq_true rfl) dX3_begin_23

set_option maxHeartbeats 4000000 in
set_option maxRecDepth 100000 in
/-- limit -/
theorem K_X3_limit (l : Launch) (hfl : l.stackTraces = false) (D : va_G) (cI cJ cZ cO : ClassId) (z mi : Nat) (hd : Nat) (ho : Nat) (hwn : Nat) (hq : Nat) (BO : Nat → Nat → Bool) (BW : Nat → Nat → Bool) (fQ : Nat → Int32) (oc : Nat) (bx : Int32) (by9 : Int32) (x : Int32) (y : Int32) (ot : Int32) (tw : Int32) (bg : Bool) (cl : Bool) (hs : Nat) (lr : Nat) (li : Nat) (hpr : Nat) (lim : Int32) (ret : Int32) (clm : Int64) (fP : Nat → Int32) (rest : va_W) (nv : Int32) : kM l D (kTy cI cJ cZ cO) z mi yX3_limit wsX3_limit ({ frames := 7, cells := 1, slots := 6, locals := 112 } : Room) [.ref hs, .int nv] ((hd, .inr (1, [.ref ho, .ref hwn, .ref hq, .int (nI oc), .int bx, .int by9, .int x, .int y, .int ot, .int tw, .int (kb bg), .int (kb cl)])) :: (ho, .inl (cJ, 41, .inr (.inl (fun i9 => kRow (BO i9))))) :: (hwn, .inl (cJ, 41, .inr (.inl (fun i9 => kRow (BW i9))))) :: (hq, .inl (cI, 10, .inl fQ)) :: (hs, .inr (4, [.ref hd, .ref lr, .ref li, .ref hpr, .int lim, .int ret, .long clm])) :: (hpr, .inl (cI, 3, .inl fP)) :: rest) (fun v u => v = some (.int lim) ∧ u = (hd, .inr (1, [.ref ho, .ref hwn, .ref hq, .int (nI oc), .int bx, .int by9, .int x, .int y, .int ot, .int tw, .int (kb bg), .int (kb cl)])) :: (ho, .inl (cJ, 41, .inr (.inl (fun i9 => kRow (BO i9))))) :: (hwn, .inl (cJ, 41, .inr (.inl (fun i9 => kRow (BW i9))))) :: (hq, .inl (cI, 10, .inl fQ)) :: (hs, .inr (4, [.ref hd, .ref lr, .ref li, .ref hpr, .int nv, .int ret, .long clm])) :: (hpr, .inl (cI, 3, .inl fP)) :: rest ∧ (kIn nv 0 1600) = true) (fun E u => u = (hd, .inr (1, [.ref ho, .ref hwn, .ref hq, .int (nI oc), .int bx, .int by9, .int x, .int y, .int ot, .int tw, .int (kb bg), .int (kb cl)])) :: (ho, .inl (cJ, 41, .inr (.inl (fun i9 => kRow (BO i9))))) :: (hwn, .inl (cJ, 41, .inr (.inl (fun i9 => kRow (BW i9))))) :: (hq, .inl (cI, 10, .inl fQ)) :: (hs, .inr (4, [.ref hd, .ref lr, .ref li, .ref hpr, .int lim, .int ret, .long clm])) :: (hpr, .inl (cI, 3, .inl fP)) :: rest ∧ (E = kIAE ∧ (kIn nv 0 1600) = false)) := by
  refine kM.of hfl (cc := cX3_limit) (maxL := 3) (ret := (some .int)) (by decide) rfl (Nat.le_of_ble_eq_true rfl) ?_
  intro p e s m args below meth c A ls hC hr hmn hG hl
  have hx := hC.x
  have hb := hC.b
  have hl : lv_has ls 3 [(0, .ref hs), (1, .int nv)] := hl
  have hi_RX3 : ∀ w ∈ wsX30, w ∈ wsX3_limit := fun w h => List.mem_cons_of_mem _ (List.mem_append_left _ (List.mem_append_right _ h))
  refine lv_iload_n hx hb dX3_limit_0 rfl (lv_at hl 1 rfl) ?_
  refine lv_iconst (v := 0) hx hb dX3_limit_1 (by decide) ?_
  refine lv_sipush (v := 1600) hx hb dX3_limit_2 (by decide) ?_
  refine k_callS (nn := 3) hC hG (K_X3_checkRange l hfl D cI cJ cZ cO z mi ((hd, .inr (1, [.ref ho, .ref hwn, .ref hq, .int (nI oc), .int bx, .int by9, .int x, .int y, .int ot, .int tw, .int (kb bg), .int (kb cl)])) :: (ho, .inl (cJ, 41, .inr (.inl (fun i9 => kRow (BO i9))))) :: (hwn, .inl (cJ, 41, .inr (.inl (fun i9 => kRow (BW i9))))) :: (hq, .inl (cI, 10, .inl fQ)) :: (hs, .inr (4, [.ref hd, .ref lr, .ref li, .ref hpr, .int lim, .int ret, .long clm])) :: (hpr, .inl (cI, 3, .inl fP)) :: rest) nv 0 1600) gX3_limit_X3_checkRange rfl rfl (by decide +kernel) ⟨(Nat.le_of_ble_eq_true rfl), (Nat.le_of_ble_eq_true rfl)⟩ hl.1 rfl (Nat.le_of_ble_eq_true rfl) dX3_limit_5 ⟨(Nat.le_of_ble_eq_true rfl), (Nat.le_of_ble_eq_true rfl)⟩ (fun E9 ce9 q9 u9 H9 locs9 hp9 hG9 h91 h92 h93 => k_out hC hG9 h91 h92 h93 (by obtain ⟨rfl, hu8, h99⟩ := hp9; rw [hu8]; exact ⟨rfl, ⟨rfl, h99⟩⟩) (Nat.le_of_ble_eq_true rfl) (Nat.le_of_ble_eq_true rfl)) (fun v9 u9 H locs hp hG => ?_)
  obtain ⟨rfl, hu9, hr1⟩ := hp
  rw [hu9] at hG
  refine W.widen (k := 1) (n := 6) (Nat.le_of_ble_eq_true rfl) (Nat.le_of_ble_eq_true rfl) ?_
  refine W.eq (g2 := F0 m 8 ls []) rfl ?_
  refine lv_aload_n hx hb dX3_limit_8 rfl (lv_at hl 0 rfl) ?_
  refine k_get (C := RX3) (T := TX3) (N := 7) (ci := 4) (v := .int lim) (fs := [.ref hd, .ref lr, .ref li, .ref hpr, .int lim, .int ret, .long clm]) hC hG hi_RX3 4 rfl rfl 4 (by decide) (List.mem_of_getElem? (i := 1) rfl) rfl rfl dX3_limit_9 ?_
  refine lv_istore_n (lv' := [(2, .int lim), (0, .ref hs), (1, .int nv)]) hx hb dX3_limit_12 rfl hl (by decide) rfl (fun ls hl => ?_)
  refine lv_aload_n hx hb dX3_limit_13 rfl (lv_at hl 1 rfl) ?_
  refine lv_iload_n hx hb dX3_limit_14 rfl (lv_at hl 2 rfl) ?_
  refine k_put (C := RX3) (T := TX3) (N := 7) (ci := 4) (v := .int nv) (fs := [.ref hd, .ref lr, .ref li, .ref hpr, .int lim, .int ret, .long clm]) hC hG hi_RX3 tyX3_ok nmX3 4 rfl rfl 4 (by decide) (List.mem_of_getElem? (i := 1) rfl) rfl rfl rfl rfl (Nat.le_of_ble_eq_true rfl) dX3_limit_15 (fun H locs hG => ?_)
  have hG : kG D A s ((hd, .inr (1, [.ref ho, .ref hwn, .ref hq, .int (nI oc), .int bx, .int by9, .int x, .int y, .int ot, .int tw, .int (kb bg), .int (kb cl)])) :: (ho, .inl (cJ, 41, .inr (.inl (fun i9 => kRow (BO i9))))) :: (hwn, .inl (cJ, 41, .inr (.inl (fun i9 => kRow (BW i9))))) :: (hq, .inl (cI, 10, .inl fQ)) :: (hs, .inr (4, [.ref hd, .ref lr, .ref li, .ref hpr, .int nv, .int ret, .long clm])) :: (hpr, .inl (cI, 3, .inl fP)) :: rest) H locs := hG
  refine lv_iload_n hx hb dX3_limit_18 rfl (lv_at hl 0 rfl) ?_
  exact k_reti hC hr hG ⟨rfl, rfl, hr1⟩ (Nat.le_of_ble_eq_true rfl) (Nat.le_of_ble_eq_true rfl) dX3_limit_19

set_option maxHeartbeats 4000000 in
set_option maxRecDepth 100000 in
/-- retention -/
theorem K_X3_retention (l : Launch) (hfl : l.stackTraces = false) (D : va_G) (cI cJ cZ cO : ClassId) (z mi : Nat) (hd : Nat) (ho : Nat) (hwn : Nat) (hq : Nat) (BO : Nat → Nat → Bool) (BW : Nat → Nat → Bool) (fQ : Nat → Int32) (oc : Nat) (bx : Int32) (by9 : Int32) (x : Int32) (y : Int32) (ot : Int32) (tw : Int32) (bg : Bool) (cl : Bool) (hs : Nat) (lr : Nat) (li : Nat) (hpr : Nat) (lim : Int32) (ret : Int32) (clm : Int64) (fP : Nat → Int32) (rest : va_W) (nv : Int32) : kM l D (kTy cI cJ cZ cO) z mi yX3_retention wsX3_retention ({ frames := 7, cells := 1, slots := 6, locals := 112 } : Room) [.ref hs, .int nv] ((hd, .inr (1, [.ref ho, .ref hwn, .ref hq, .int (nI oc), .int bx, .int by9, .int x, .int y, .int ot, .int tw, .int (kb bg), .int (kb cl)])) :: (ho, .inl (cJ, 41, .inr (.inl (fun i9 => kRow (BO i9))))) :: (hwn, .inl (cJ, 41, .inr (.inl (fun i9 => kRow (BW i9))))) :: (hq, .inl (cI, 10, .inl fQ)) :: (hs, .inr (4, [.ref hd, .ref lr, .ref li, .ref hpr, .int lim, .int ret, .long clm])) :: (hpr, .inl (cI, 3, .inl fP)) :: rest) (fun v u => v = some (.int ret) ∧ u = (hd, .inr (1, [.ref ho, .ref hwn, .ref hq, .int (nI oc), .int bx, .int by9, .int x, .int y, .int ot, .int tw, .int (kb bg), .int (kb cl)])) :: (ho, .inl (cJ, 41, .inr (.inl (fun i9 => kRow (BO i9))))) :: (hwn, .inl (cJ, 41, .inr (.inl (fun i9 => kRow (BW i9))))) :: (hq, .inl (cI, 10, .inl fQ)) :: (hs, .inr (4, [.ref hd, .ref lr, .ref li, .ref hpr, .int lim, .int nv, .long clm])) :: (hpr, .inl (cI, 3, .inl fP)) :: rest ∧ (kIn nv 0 20) = true) (fun E u => u = (hd, .inr (1, [.ref ho, .ref hwn, .ref hq, .int (nI oc), .int bx, .int by9, .int x, .int y, .int ot, .int tw, .int (kb bg), .int (kb cl)])) :: (ho, .inl (cJ, 41, .inr (.inl (fun i9 => kRow (BO i9))))) :: (hwn, .inl (cJ, 41, .inr (.inl (fun i9 => kRow (BW i9))))) :: (hq, .inl (cI, 10, .inl fQ)) :: (hs, .inr (4, [.ref hd, .ref lr, .ref li, .ref hpr, .int lim, .int ret, .long clm])) :: (hpr, .inl (cI, 3, .inl fP)) :: rest ∧ (E = kIAE ∧ (kIn nv 0 20) = false)) := by
  refine kM.of hfl (cc := cX3_retention) (maxL := 3) (ret := (some .int)) (by decide) rfl (Nat.le_of_ble_eq_true rfl) ?_
  intro p e s m args below meth c A ls hC hr hmn hG hl
  have hx := hC.x
  have hb := hC.b
  have hl : lv_has ls 3 [(0, .ref hs), (1, .int nv)] := hl
  have hi_RX3 : ∀ w ∈ wsX30, w ∈ wsX3_retention := fun w h => List.mem_cons_of_mem _ (List.mem_append_left _ (List.mem_append_right _ h))
  refine lv_iload_n hx hb dX3_retention_0 rfl (lv_at hl 1 rfl) ?_
  refine lv_iconst (v := 0) hx hb dX3_retention_1 (by decide) ?_
  refine lv_bipush (v := 20) hx hb dX3_retention_2 (by decide) ?_
  refine k_callS (nn := 3) hC hG (K_X3_checkRange l hfl D cI cJ cZ cO z mi ((hd, .inr (1, [.ref ho, .ref hwn, .ref hq, .int (nI oc), .int bx, .int by9, .int x, .int y, .int ot, .int tw, .int (kb bg), .int (kb cl)])) :: (ho, .inl (cJ, 41, .inr (.inl (fun i9 => kRow (BO i9))))) :: (hwn, .inl (cJ, 41, .inr (.inl (fun i9 => kRow (BW i9))))) :: (hq, .inl (cI, 10, .inl fQ)) :: (hs, .inr (4, [.ref hd, .ref lr, .ref li, .ref hpr, .int lim, .int ret, .long clm])) :: (hpr, .inl (cI, 3, .inl fP)) :: rest) nv 0 20) gX3_retention_X3_checkRange rfl rfl (by decide +kernel) ⟨(Nat.le_of_ble_eq_true rfl), (Nat.le_of_ble_eq_true rfl)⟩ hl.1 rfl (Nat.le_of_ble_eq_true rfl) dX3_retention_4 ⟨(Nat.le_of_ble_eq_true rfl), (Nat.le_of_ble_eq_true rfl)⟩ (fun E9 ce9 q9 u9 H9 locs9 hp9 hG9 h91 h92 h93 => k_out hC hG9 h91 h92 h93 (by obtain ⟨rfl, hu8, h99⟩ := hp9; rw [hu8]; exact ⟨rfl, ⟨rfl, h99⟩⟩) (Nat.le_of_ble_eq_true rfl) (Nat.le_of_ble_eq_true rfl)) (fun v9 u9 H locs hp hG => ?_)
  obtain ⟨rfl, hu9, hr1⟩ := hp
  rw [hu9] at hG
  refine W.widen (k := 1) (n := 6) (Nat.le_of_ble_eq_true rfl) (Nat.le_of_ble_eq_true rfl) ?_
  refine W.eq (g2 := F0 m 7 ls []) rfl ?_
  refine lv_aload_n hx hb dX3_retention_7 rfl (lv_at hl 0 rfl) ?_
  refine k_get (C := RX3) (T := TX3) (N := 7) (ci := 4) (v := .int ret) (fs := [.ref hd, .ref lr, .ref li, .ref hpr, .int lim, .int ret, .long clm]) hC hG hi_RX3 4 rfl rfl 5 (by decide) (List.mem_of_getElem? (i := 1) rfl) rfl rfl dX3_retention_8 ?_
  refine lv_istore_n (lv' := [(2, .int ret), (0, .ref hs), (1, .int nv)]) hx hb dX3_retention_11 rfl hl (by decide) rfl (fun ls hl => ?_)
  refine lv_aload_n hx hb dX3_retention_12 rfl (lv_at hl 1 rfl) ?_
  refine lv_iload_n hx hb dX3_retention_13 rfl (lv_at hl 2 rfl) ?_
  refine k_put (C := RX3) (T := TX3) (N := 7) (ci := 4) (v := .int nv) (fs := [.ref hd, .ref lr, .ref li, .ref hpr, .int lim, .int ret, .long clm]) hC hG hi_RX3 tyX3_ok nmX3 4 rfl rfl 5 (by decide) (List.mem_of_getElem? (i := 1) rfl) rfl rfl rfl rfl (Nat.le_of_ble_eq_true rfl) dX3_retention_14 (fun H locs hG => ?_)
  have hG : kG D A s ((hd, .inr (1, [.ref ho, .ref hwn, .ref hq, .int (nI oc), .int bx, .int by9, .int x, .int y, .int ot, .int tw, .int (kb bg), .int (kb cl)])) :: (ho, .inl (cJ, 41, .inr (.inl (fun i9 => kRow (BO i9))))) :: (hwn, .inl (cJ, 41, .inr (.inl (fun i9 => kRow (BW i9))))) :: (hq, .inl (cI, 10, .inl fQ)) :: (hs, .inr (4, [.ref hd, .ref lr, .ref li, .ref hpr, .int lim, .int nv, .long clm])) :: (hpr, .inl (cI, 3, .inl fP)) :: rest) H locs := hG
  refine lv_iload_n hx hb dX3_retention_17 rfl (lv_at hl 0 rfl) ?_
  exact k_reti hC hr hG ⟨rfl, rfl, hr1⟩ (Nat.le_of_ble_eq_true rfl) (Nat.le_of_ble_eq_true rfl) dX3_retention_18

set_option maxHeartbeats 4000000 in
set_option maxRecDepth 100000 in
/-- claimed -/
theorem K_X3_claimed (l : Launch) (hfl : l.stackTraces = false) (D : va_G) (cI cJ cZ cO : ClassId) (z mi : Nat) (hd : Nat) (ho : Nat) (hwn : Nat) (hq : Nat) (BO : Nat → Nat → Bool) (BW : Nat → Nat → Bool) (fQ : Nat → Int32) (oc : Nat) (bx : Int32) (by9 : Int32) (x : Int32) (y : Int32) (ot : Int32) (tw : Int32) (bg : Bool) (cl : Bool) (hs : Nat) (lr : Nat) (li : Nat) (hpr : Nat) (lim : Int32) (ret : Int32) (clm : Int64) (fP : Nat → Int32) (rest : va_W)  : kM l D (kTy cI cJ cZ cO) z mi yX3_claimed wsX3_claimed ({ frames := 0, cells := 0, slots := 0, locals := 0 } : Room) [.ref hs] ((hd, .inr (1, [.ref ho, .ref hwn, .ref hq, .int (nI oc), .int bx, .int by9, .int x, .int y, .int ot, .int tw, .int (kb bg), .int (kb cl)])) :: (ho, .inl (cJ, 41, .inr (.inl (fun i9 => kRow (BO i9))))) :: (hwn, .inl (cJ, 41, .inr (.inl (fun i9 => kRow (BW i9))))) :: (hq, .inl (cI, 10, .inl fQ)) :: (hs, .inr (4, [.ref hd, .ref lr, .ref li, .ref hpr, .int lim, .int ret, .long clm])) :: (hpr, .inl (cI, 3, .inl fP)) :: rest) (fun v u => v = some (.long clm) ∧ u = (hd, .inr (1, [.ref ho, .ref hwn, .ref hq, .int (nI oc), .int bx, .int by9, .int x, .int y, .int ot, .int tw, .int (kb bg), .int (kb cl)])) :: (ho, .inl (cJ, 41, .inr (.inl (fun i9 => kRow (BO i9))))) :: (hwn, .inl (cJ, 41, .inr (.inl (fun i9 => kRow (BW i9))))) :: (hq, .inl (cI, 10, .inl fQ)) :: (hs, .inr (4, [.ref hd, .ref lr, .ref li, .ref hpr, .int lim, .int ret, .long clm])) :: (hpr, .inl (cI, 3, .inl fP)) :: rest) (fun _ _ => False) := by
  refine kM.of hfl (cc := cX3_claimed) (maxL := 1) (ret := (some .long)) (by decide) rfl (Nat.le_of_ble_eq_true rfl) ?_
  intro p e s m args below meth c A ls hC hr hmn hG hl
  have hx := hC.x
  have hb := hC.b
  have hl : lv_has ls 1 [(0, .ref hs)] := hl
  have hi_RX3 : ∀ w ∈ wsX30, w ∈ wsX3_claimed := fun w h => List.mem_cons_of_mem _ (List.mem_append_right _ h)
  refine lv_aload_n hx hb dX3_claimed_0 rfl (lv_at hl 0 rfl) ?_
  refine k_get (C := RX3) (T := TX3) (N := 7) (ci := 4) (v := .long clm) (fs := [.ref hd, .ref lr, .ref li, .ref hpr, .int lim, .int ret, .long clm]) hC hG hi_RX3 4 rfl rfl 6 (by decide) (List.mem_of_getElem? (i := 1) rfl) rfl rfl dX3_claimed_1 ?_
  exact k_retl hC hr hG ⟨rfl, rfl⟩ (Nat.le_of_ble_eq_true rfl) (Nat.le_of_ble_eq_true rfl) dX3_claimed_4

set_option maxHeartbeats 4000000 in
set_option maxRecDepth 100000 in
/-- price -/
theorem K_X3_price (l : Launch) (hfl : l.stackTraces = false) (D : va_G) (cI cJ cZ cO : ClassId) (z mi : Nat) (hd : Nat) (ho : Nat) (hwn : Nat) (hq : Nat) (BO : Nat → Nat → Bool) (BW : Nat → Nat → Bool) (fQ : Nat → Int32) (oc : Nat) (bx : Int32) (by9 : Int32) (x : Int32) (y : Int32) (ot : Int32) (tw : Int32) (bg : Bool) (cl : Bool) (hs : Nat) (lr : Nat) (li : Nat) (hpr : Nat) (lim : Int32) (ret : Int32) (clm : Int64) (fP : Nat → Int32) (rest : va_W) (kd ct : Int32) : kM l D (kTy cI cJ cZ cO) z mi yX3_price wsX3_price ({ frames := 7, cells := 2, slots := 12, locals := 112 } : Room) [.ref hs, .int kd, .int ct] ((hd, .inr (1, [.ref ho, .ref hwn, .ref hq, .int (nI oc), .int bx, .int by9, .int x, .int y, .int ot, .int tw, .int (kb bg), .int (kb cl)])) :: (ho, .inl (cJ, 41, .inr (.inl (fun i9 => kRow (BO i9))))) :: (hwn, .inl (cJ, 41, .inr (.inl (fun i9 => kRow (BW i9))))) :: (hq, .inl (cI, 10, .inl fQ)) :: (hs, .inr (4, [.ref hd, .ref lr, .ref li, .ref hpr, .int lim, .int ret, .long clm])) :: (hpr, .inl (cI, 3, .inl fP)) :: rest) (fun v u => v = some (.int (fP kd.toNatClampNeg)) ∧ u = (hd, .inr (1, [.ref ho, .ref hwn, .ref hq, .int (nI oc), .int bx, .int by9, .int x, .int y, .int ot, .int tw, .int (kb bg), .int (kb cl)])) :: (ho, .inl (cJ, 41, .inr (.inl (fun i9 => kRow (BO i9))))) :: (hwn, .inl (cJ, 41, .inr (.inl (fun i9 => kRow (BW i9))))) :: (hq, .inl (cI, 10, .inl fQ)) :: (hs, .inr (4, [.ref hd, .ref lr, .ref li, .ref hpr, .int lim, .int ret, .long clm])) :: (hpr, .inl (cI, 3, .inl (upd fP kd.toNatClampNeg ct))) :: rest ∧ ((kIn kd 0 2) && (kIn ct 0 1000)) = true) (fun E u => u = (hd, .inr (1, [.ref ho, .ref hwn, .ref hq, .int (nI oc), .int bx, .int by9, .int x, .int y, .int ot, .int tw, .int (kb bg), .int (kb cl)])) :: (ho, .inl (cJ, 41, .inr (.inl (fun i9 => kRow (BO i9))))) :: (hwn, .inl (cJ, 41, .inr (.inl (fun i9 => kRow (BW i9))))) :: (hq, .inl (cI, 10, .inl fQ)) :: (hs, .inr (4, [.ref hd, .ref lr, .ref li, .ref hpr, .int lim, .int ret, .long clm])) :: (hpr, .inl (cI, 3, .inl fP)) :: rest ∧ (E = kIAE ∧ ((kIn kd 0 2) && (kIn ct 0 1000)) = false)) := by
  refine kM.of hfl (cc := cX3_price) (maxL := 4) (ret := (some .int)) (by decide) rfl (Nat.le_of_ble_eq_true rfl) ?_
  intro p e s m args below meth c A ls hC hr hmn hG hl
  have hx := hC.x
  have hb := hC.b
  have hl : lv_has ls 4 [(0, .ref hs), (1, .int kd), (2, .int ct)] := hl
  have hi_RX3 : ∀ w ∈ wsX30, w ∈ wsX3_price := fun w h => List.mem_cons_of_mem _ (List.mem_append_left _ (List.mem_append_right _ h))
  refine lv_iload_n hx hb dX3_price_0 rfl (lv_at hl 1 rfl) ?_
  refine lv_iconst (v := 0) hx hb dX3_price_1 (by decide) ?_
  refine lv_iconst (v := 2) hx hb dX3_price_2 (by decide) ?_
  refine k_callS (nn := 3) hC hG (K_X3_checkRange l hfl D cI cJ cZ cO z mi ((hd, .inr (1, [.ref ho, .ref hwn, .ref hq, .int (nI oc), .int bx, .int by9, .int x, .int y, .int ot, .int tw, .int (kb bg), .int (kb cl)])) :: (ho, .inl (cJ, 41, .inr (.inl (fun i9 => kRow (BO i9))))) :: (hwn, .inl (cJ, 41, .inr (.inl (fun i9 => kRow (BW i9))))) :: (hq, .inl (cI, 10, .inl fQ)) :: (hs, .inr (4, [.ref hd, .ref lr, .ref li, .ref hpr, .int lim, .int ret, .long clm])) :: (hpr, .inl (cI, 3, .inl fP)) :: rest) kd 0 2) gX3_price_X3_checkRange rfl rfl (by decide +kernel) ⟨(Nat.le_of_ble_eq_true rfl), (Nat.le_of_ble_eq_true rfl)⟩ hl.1 rfl (Nat.le_of_ble_eq_true rfl) dX3_price_3 ⟨(Nat.le_of_ble_eq_true rfl), (Nat.le_of_ble_eq_true rfl)⟩ (fun E9 ce9 q9 u9 H9 locs9 hp9 hG9 h91 h92 h93 => k_out hC hG9 h91 h92 h93 (by obtain ⟨rfl, hu8, h99⟩ := hp9; rw [hu8]; exact ⟨rfl, ⟨rfl, (by rw [h99]; first | done | rfl)⟩⟩) (Nat.le_of_ble_eq_true rfl) (Nat.le_of_ble_eq_true rfl)) (fun v9 u9 H locs hp hG => ?_)
  obtain ⟨rfl, hu9, hr1⟩ := hp
  rw [hu9] at hG
  refine W.widen (k := 1) (n := 6) (Nat.le_of_ble_eq_true rfl) (Nat.le_of_ble_eq_true rfl) ?_
  refine W.eq (g2 := F0 m 6 ls []) rfl ?_
  refine lv_iload_n hx hb dX3_price_6 rfl (lv_at hl 2 rfl) ?_
  refine lv_iconst (v := 0) hx hb dX3_price_7 (by decide) ?_
  refine lv_sipush (v := 1000) hx hb dX3_price_8 (by decide) ?_
  refine k_callS (nn := 3) hC hG (K_X3_checkRange l hfl D cI cJ cZ cO z mi ((hd, .inr (1, [.ref ho, .ref hwn, .ref hq, .int (nI oc), .int bx, .int by9, .int x, .int y, .int ot, .int tw, .int (kb bg), .int (kb cl)])) :: (ho, .inl (cJ, 41, .inr (.inl (fun i9 => kRow (BO i9))))) :: (hwn, .inl (cJ, 41, .inr (.inl (fun i9 => kRow (BW i9))))) :: (hq, .inl (cI, 10, .inl fQ)) :: (hs, .inr (4, [.ref hd, .ref lr, .ref li, .ref hpr, .int lim, .int ret, .long clm])) :: (hpr, .inl (cI, 3, .inl fP)) :: rest) ct 0 1000) gX3_price_X3_checkRange rfl rfl (by decide +kernel) ⟨(Nat.le_of_ble_eq_true rfl), (Nat.le_of_ble_eq_true rfl)⟩ hl.1 rfl (Nat.le_of_ble_eq_true rfl) dX3_price_11 ⟨(Nat.le_of_ble_eq_true rfl), (Nat.le_of_ble_eq_true rfl)⟩ (fun E9 ce9 q9 u9 H9 locs9 hp9 hG9 h91 h92 h93 => k_out hC hG9 h91 h92 h93 (by obtain ⟨rfl, hu8, h99⟩ := hp9; rw [hu8]; exact ⟨rfl, ⟨rfl, (by rw [h99, hr1]; first | done | rfl)⟩⟩) (Nat.le_of_ble_eq_true rfl) (Nat.le_of_ble_eq_true rfl)) (fun v9 u9 H locs hp hG => ?_)
  obtain ⟨rfl, hu9, hr2⟩ := hp
  rw [hu9] at hG
  refine W.widen (k := 2) (n := 12) (Nat.le_of_ble_eq_true rfl) (Nat.le_of_ble_eq_true rfl) ?_
  refine W.eq (g2 := F0 m 14 ls []) rfl ?_
  refine lv_aload_n hx hb dX3_price_14 rfl (lv_at hl 0 rfl) ?_
  refine k_get (C := RX3) (T := TX3) (N := 7) (ci := 4) (v := .ref hpr) (fs := [.ref hd, .ref lr, .ref li, .ref hpr, .int lim, .int ret, .long clm]) hC hG hi_RX3 4 rfl rfl 3 (by decide) (List.mem_of_getElem? (i := 1) rfl) rfl rfl dX3_price_15 ?_
  refine lv_iload_n hx hb dX3_price_18 rfl (lv_at hl 1 rfl) ?_
  refine va_iald (f := fP) hx hb hC.K hG.1 5 0 rfl rfl (kIn3 hr1) dX3_price_19 ?_
  refine lv_istore_n (lv' := [(3, .int (fP kd.toNatClampNeg)), (0, .ref hs), (1, .int kd), (2, .int ct)]) hx hb dX3_price_20 rfl hl (by decide) rfl (fun ls hl => ?_)
  refine lv_aload_n hx hb dX3_price_21 rfl (lv_at hl 1 rfl) ?_
  refine k_get (C := RX3) (T := TX3) (N := 7) (ci := 4) (v := .ref hpr) (fs := [.ref hd, .ref lr, .ref li, .ref hpr, .int lim, .int ret, .long clm]) hC hG hi_RX3 4 rfl rfl 3 (by decide) (List.mem_of_getElem? (i := 1) rfl) rfl rfl dX3_price_22 ?_
  refine lv_iload_n hx hb dX3_price_25 rfl (lv_at hl 2 rfl) ?_
  refine lv_iload_n hx hb dX3_price_26 rfl (lv_at hl 3 rfl) ?_
  refine va_iast (f := fP) (x := ct) hx hb hC.K hG.1 hG.2.1 hG.2.2 5 0 rfl rfl (kIn3 hr1) dX3_price_27 (fun H locs h1 h2 h3 => ?_)
  have hG : kG D A s ((hd, .inr (1, [.ref ho, .ref hwn, .ref hq, .int (nI oc), .int bx, .int by9, .int x, .int y, .int ot, .int tw, .int (kb bg), .int (kb cl)])) :: (ho, .inl (cJ, 41, .inr (.inl (fun i9 => kRow (BO i9))))) :: (hwn, .inl (cJ, 41, .inr (.inl (fun i9 => kRow (BW i9))))) :: (hq, .inl (cI, 10, .inl fQ)) :: (hs, .inr (4, [.ref hd, .ref lr, .ref li, .ref hpr, .int lim, .int ret, .long clm])) :: (hpr, .inl (cI, 3, .inl (upd fP kd.toNatClampNeg ct))) :: rest) H locs := ⟨h1, h2, h3⟩
  refine lv_iload_n hx hb dX3_price_28 rfl (lv_at hl 0 rfl) ?_
  exact k_reti hC hr hG ⟨rfl, rfl, (by rw [hr2, hr1]; first | done | rfl)⟩ (Nat.le_of_ble_eq_true rfl) (Nat.le_of_ble_eq_true rfl) dX3_price_29

set_option maxHeartbeats 4000000 in
set_option maxRecDepth 100000 in
/-- area -/
theorem K_X3_area (l : Launch) (hfl : l.stackTraces = false) (D : va_G) (cI cJ cZ cO : ClassId) (z mi : Nat) (hd : Nat) (ho : Nat) (hwn : Nat) (hq : Nat) (BO : Nat → Nat → Bool) (BW : Nat → Nat → Bool) (fQ : Nat → Int32) (oc : Nat) (bx : Int32) (by9 : Int32) (x : Int32) (y : Int32) (ot : Int32) (tw : Int32) (bg : Bool) (cl : Bool) (hs : Nat) (lr : Nat) (li : Nat) (hpr : Nat) (lim : Int32) (ret : Int32) (clm : Int64) (fP : Nat → Int32) (rest : va_W)  : kM l D (kTy cI cJ cZ cO) z mi yX3_area wsX3_area ({ frames := 7, cells := 1, slots := 6, locals := 110 } : Room) [.ref hs] ((hd, .inr (1, [.ref ho, .ref hwn, .ref hq, .int (nI oc), .int bx, .int by9, .int x, .int y, .int ot, .int tw, .int (kb bg), .int (kb cl)])) :: (ho, .inl (cJ, 41, .inr (.inl (fun i9 => kRow (BO i9))))) :: (hwn, .inl (cJ, 41, .inr (.inl (fun i9 => kRow (BW i9))))) :: (hq, .inl (cI, 10, .inl fQ)) :: (hs, .inr (4, [.ref hd, .ref lr, .ref li, .ref hpr, .int lim, .int ret, .long clm])) :: (hpr, .inl (cI, 3, .inl fP)) :: rest) (fun v u => v = some (.int (kAb tw)) ∧ u = (hd, .inr (1, [.ref ho, .ref hwn, .ref hq, .int (nI oc), .int bx, .int by9, .int x, .int y, .int ot, .int tw, .int (kb bg), .int (kb cl)])) :: (ho, .inl (cJ, 41, .inr (.inl (fun i9 => kRow (BO i9))))) :: (hwn, .inl (cJ, 41, .inr (.inl (fun i9 => kRow (BW i9))))) :: (hq, .inl (cI, 10, .inl fQ)) :: (hs, .inr (4, [.ref hd, .ref lr, .ref li, .ref hpr, .int lim, .int ret, .long clm])) :: (hpr, .inl (cI, 3, .inl fP)) :: rest ∧ cl = true) (fun E u => u = (hd, .inr (1, [.ref ho, .ref hwn, .ref hq, .int (nI oc), .int bx, .int by9, .int x, .int y, .int ot, .int tw, .int (kb bg), .int (kb cl)])) :: (ho, .inl (cJ, 41, .inr (.inl (fun i9 => kRow (BO i9))))) :: (hwn, .inl (cJ, 41, .inr (.inl (fun i9 => kRow (BW i9))))) :: (hq, .inl (cI, 10, .inl fQ)) :: (hs, .inr (4, [.ref hd, .ref lr, .ref li, .ref hpr, .int lim, .int ret, .long clm])) :: (hpr, .inl (cI, 3, .inl fP)) :: rest ∧ (E = kISE ∧ cl = false)) := by
  refine kM.of hfl (cc := cX3_area) (maxL := 1) (ret := (some .int)) (by decide) rfl (Nat.le_of_ble_eq_true rfl) ?_
  intro p e s m args below meth c A ls hC hr hmn hG hl
  have hx := hC.x
  have hb := hC.b
  have hl : lv_has ls 1 [(0, .ref hs)] := hl
  have hi_RX3 : ∀ w ∈ wsX30, w ∈ wsX3_area := fun w h => List.mem_cons_of_mem _ (List.mem_append_left _ (List.mem_append_left _ (List.mem_append_right _ h)))
  refine lv_aload_n hx hb dX3_area_0 rfl (lv_at hl 0 rfl) ?_
  refine k_callV (nn := 0) (C := RX3) hC hG 4 rfl (ci := 4) rfl (K_X3_checkClosed l hfl D cI cJ cZ cO z mi hd ho hwn hq BO BW fQ oc bx by9 x y ot tw bg cl hs lr li hpr lim ret clm fP rest ) gX3_area_X3_checkClosed rfl rfl (by decide +kernel) ⟨(Nat.le_of_ble_eq_true rfl), (Nat.le_of_ble_eq_true rfl)⟩ hl.1 rfl (Nat.le_of_ble_eq_true rfl) dX3_area_1 ⟨(Nat.le_of_ble_eq_true rfl), (Nat.le_of_ble_eq_true rfl)⟩ (fun E9 ce9 q9 u9 H9 locs9 hp9 hG9 h91 h92 h93 => k_out hC hG9 h91 h92 h93 (by obtain ⟨rfl, rfl, h99⟩ := hp9; exact ⟨rfl, ⟨rfl, h99⟩⟩) (Nat.le_of_ble_eq_true rfl) (Nat.le_of_ble_eq_true rfl)) (fun v9 u9 H locs hp hG => ?_)
  obtain ⟨rfl, rfl, hk1⟩ := hp
  refine W.widen (k := 1) (n := 6) (Nat.le_of_ble_eq_true rfl) (Nat.le_of_ble_eq_true rfl) ?_
  refine W.eq (g2 := F0 m 4 ls []) rfl ?_
  refine lv_aload_n hx hb dX3_area_4 rfl (lv_at hl 0 rfl) ?_
  refine k_get (C := RX3) (T := TX3) (N := 7) (ci := 4) (v := .ref hd) (fs := [.ref hd, .ref lr, .ref li, .ref hpr, .int lim, .int ret, .long clm]) hC hG hi_RX3 4 rfl rfl 0 (by decide) (List.mem_of_getElem? (i := 1) rfl) rfl rfl dX3_area_5 ?_
  refine k_callV (nn := 0) (C := RX0) hC hG 0 rfl (ci := 1) rfl (K_X0_areaByCorners l hfl D cI cJ cZ cO z mi hd ho hwn hq BO BW fQ oc bx by9 x y ot tw bg cl ((hs, .inr (4, [.ref hd, .ref lr, .ref li, .ref hpr, .int lim, .int ret, .long clm])) :: (hpr, .inl (cI, 3, .inl fP)) :: rest) ) gX3_area_X0_areaByCorners rfl rfl (by decide +kernel) ⟨(Nat.le_of_ble_eq_true rfl), (Nat.le_of_ble_eq_true rfl)⟩ hl.1 rfl (Nat.le_of_ble_eq_true rfl) dX3_area_8 ⟨(Nat.le_of_ble_eq_true rfl), (Nat.le_of_ble_eq_true rfl)⟩ (fun _ _ _ _ _ _ hp => hp.elim) (fun v9 u9 H locs hp hG => ?_)
  obtain ⟨rfl, rfl⟩ := hp
  refine W.widen (k := 1) (n := 6) (Nat.le_of_ble_eq_true rfl) (Nat.le_of_ble_eq_true rfl) ?_
  refine W.eq (g2 := F0 m 11 ls [.int (kAb tw)]) rfl ?_
  exact k_reti hC hr hG ⟨rfl, rfl, hk1⟩ (Nat.le_of_ble_eq_true rfl) (Nat.le_of_ble_eq_true rfl) dX3_area_11

set_option maxHeartbeats 4000000 in
set_option maxRecDepth 100000 in
/-- areaByStrips -/
theorem K_X3_areaByStrips (l : Launch) (hfl : l.stackTraces = false) (D : va_G) (cI cJ cZ cO : ClassId) (z mi : Nat) (hd : Nat) (ho : Nat) (hwn : Nat) (hq : Nat) (BO : Nat → Nat → Bool) (BW : Nat → Nat → Bool) (fQ : Nat → Int32) (oc : Nat) (bx : Int32) (by9 : Int32) (x : Int32) (y : Int32) (ot : Int32) (tw : Int32) (bg : Bool) (cl : Bool) (hs : Nat) (lr : Nat) (li : Nat) (hpr : Nat) (lim : Int32) (ret : Int32) (clm : Int64) (fP : Nat → Int32) (rest : va_W)  : kM l D (kTy cI cJ cZ cO) z mi yX3_areaByStrips wsX3_areaByStrips ({ frames := 7, cells := 1, slots := 6, locals := 110 } : Room) [.ref hs] ((hd, .inr (1, [.ref ho, .ref hwn, .ref hq, .int (nI oc), .int bx, .int by9, .int x, .int y, .int ot, .int tw, .int (kb bg), .int (kb cl)])) :: (ho, .inl (cJ, 41, .inr (.inl (fun i9 => kRow (BO i9))))) :: (hwn, .inl (cJ, 41, .inr (.inl (fun i9 => kRow (BW i9))))) :: (hq, .inl (cI, 10, .inl fQ)) :: (hs, .inr (4, [.ref hd, .ref lr, .ref li, .ref hpr, .int lim, .int ret, .long clm])) :: (hpr, .inl (cI, 3, .inl fP)) :: rest) (fun v u => v = some (.int (kSq BW 40)) ∧ u = (hd, .inr (1, [.ref ho, .ref hwn, .ref hq, .int (nI oc), .int bx, .int by9, .int x, .int y, .int ot, .int tw, .int (kb bg), .int (kb cl)])) :: (ho, .inl (cJ, 41, .inr (.inl (fun i9 => kRow (BO i9))))) :: (hwn, .inl (cJ, 41, .inr (.inl (fun i9 => kRow (BW i9))))) :: (hq, .inl (cI, 10, .inl fQ)) :: (hs, .inr (4, [.ref hd, .ref lr, .ref li, .ref hpr, .int lim, .int ret, .long clm])) :: (hpr, .inl (cI, 3, .inl fP)) :: rest ∧ cl = true) (fun E u => u = (hd, .inr (1, [.ref ho, .ref hwn, .ref hq, .int (nI oc), .int bx, .int by9, .int x, .int y, .int ot, .int tw, .int (kb bg), .int (kb cl)])) :: (ho, .inl (cJ, 41, .inr (.inl (fun i9 => kRow (BO i9))))) :: (hwn, .inl (cJ, 41, .inr (.inl (fun i9 => kRow (BW i9))))) :: (hq, .inl (cI, 10, .inl fQ)) :: (hs, .inr (4, [.ref hd, .ref lr, .ref li, .ref hpr, .int lim, .int ret, .long clm])) :: (hpr, .inl (cI, 3, .inl fP)) :: rest ∧ (E = kISE ∧ cl = false)) := by
  refine kM.of hfl (cc := cX3_areaByStrips) (maxL := 1) (ret := (some .int)) (by decide) rfl (Nat.le_of_ble_eq_true rfl) ?_
  intro p e s m args below meth c A ls hC hr hmn hG hl
  have hx := hC.x
  have hb := hC.b
  have hl : lv_has ls 1 [(0, .ref hs)] := hl
  have hi_RX3 : ∀ w ∈ wsX30, w ∈ wsX3_areaByStrips := fun w h => List.mem_cons_of_mem _ (List.mem_append_left _ (List.mem_append_left _ (List.mem_append_right _ h)))
  refine lv_aload_n hx hb dX3_areaByStrips_0 rfl (lv_at hl 0 rfl) ?_
  refine k_callV (nn := 0) (C := RX3) hC hG 4 rfl (ci := 4) rfl (K_X3_checkClosed l hfl D cI cJ cZ cO z mi hd ho hwn hq BO BW fQ oc bx by9 x y ot tw bg cl hs lr li hpr lim ret clm fP rest ) gX3_areaByStrips_X3_checkClosed rfl rfl (by decide +kernel) ⟨(Nat.le_of_ble_eq_true rfl), (Nat.le_of_ble_eq_true rfl)⟩ hl.1 rfl (Nat.le_of_ble_eq_true rfl) dX3_areaByStrips_1 ⟨(Nat.le_of_ble_eq_true rfl), (Nat.le_of_ble_eq_true rfl)⟩ (fun E9 ce9 q9 u9 H9 locs9 hp9 hG9 h91 h92 h93 => k_out hC hG9 h91 h92 h93 (by obtain ⟨rfl, rfl, h99⟩ := hp9; exact ⟨rfl, ⟨rfl, h99⟩⟩) (Nat.le_of_ble_eq_true rfl) (Nat.le_of_ble_eq_true rfl)) (fun v9 u9 H locs hp hG => ?_)
  obtain ⟨rfl, rfl, hk1⟩ := hp
  refine W.widen (k := 1) (n := 6) (Nat.le_of_ble_eq_true rfl) (Nat.le_of_ble_eq_true rfl) ?_
  refine W.eq (g2 := F0 m 4 ls []) rfl ?_
  refine lv_aload_n hx hb dX3_areaByStrips_4 rfl (lv_at hl 0 rfl) ?_
  refine k_get (C := RX3) (T := TX3) (N := 7) (ci := 4) (v := .ref hd) (fs := [.ref hd, .ref lr, .ref li, .ref hpr, .int lim, .int ret, .long clm]) hC hG hi_RX3 4 rfl rfl 0 (by decide) (List.mem_of_getElem? (i := 1) rfl) rfl rfl dX3_areaByStrips_5 ?_
  refine k_callV (nn := 0) (C := RX0) hC hG 0 rfl (ci := 1) rfl (K_X0_squaresInside l hfl D cI cJ cZ cO z mi hd ho hwn hq BO BW fQ oc bx by9 x y ot tw bg cl ((hs, .inr (4, [.ref hd, .ref lr, .ref li, .ref hpr, .int lim, .int ret, .long clm])) :: (hpr, .inl (cI, 3, .inl fP)) :: rest) ) gX3_areaByStrips_X0_squaresInside rfl rfl (by decide +kernel) ⟨(Nat.le_of_ble_eq_true rfl), (Nat.le_of_ble_eq_true rfl)⟩ hl.1 rfl (Nat.le_of_ble_eq_true rfl) dX3_areaByStrips_8 ⟨(Nat.le_of_ble_eq_true rfl), (Nat.le_of_ble_eq_true rfl)⟩ (fun _ _ _ _ _ _ hp => hp.elim) (fun v9 u9 H locs hp hG => ?_)
  obtain ⟨rfl, rfl⟩ := hp
  refine W.widen (k := 1) (n := 6) (Nat.le_of_ble_eq_true rfl) (Nat.le_of_ble_eq_true rfl) ?_
  refine W.eq (g2 := F0 m 11 ls [.int (kSq BW 40)]) rfl ?_
  exact k_reti hC hr hG ⟨rfl, rfl, hk1⟩ (Nat.le_of_ble_eq_true rfl) (Nat.le_of_ble_eq_true rfl) dX3_areaByStrips_11

set_option maxHeartbeats 4000000 in
set_option maxRecDepth 100000 in
/-- netArea -/
theorem K_X3_netArea (l : Launch) (hfl : l.stackTraces = false) (D : va_G) (cI cJ cZ cO : ClassId) (z mi : Nat) (hd : Nat) (ho : Nat) (hwn : Nat) (hq : Nat) (BO : Nat → Nat → Bool) (BW : Nat → Nat → Bool) (fQ : Nat → Int32) (oc : Nat) (bx : Int32) (by9 : Int32) (x : Int32) (y : Int32) (ot : Int32) (tw : Int32) (bg : Bool) (cl : Bool) (hs : Nat) (lr : Nat) (li : Nat) (hpr : Nat) (lim : Int32) (ret : Int32) (clm : Int64) (fP : Nat → Int32) (rest : va_W)  : kM l D (kTy cI cJ cZ cO) z mi yX3_netArea wsX3_netArea ({ frames := 7, cells := 1, slots := 6, locals := 110 } : Room) [.ref hs] ((hd, .inr (1, [.ref ho, .ref hwn, .ref hq, .int (nI oc), .int bx, .int by9, .int x, .int y, .int ot, .int tw, .int (kb bg), .int (kb cl)])) :: (ho, .inl (cJ, 41, .inr (.inl (fun i9 => kRow (BO i9))))) :: (hwn, .inl (cJ, 41, .inr (.inl (fun i9 => kRow (BW i9))))) :: (hq, .inl (cI, 10, .inl fQ)) :: (hs, .inr (4, [.ref hd, .ref lr, .ref li, .ref hpr, .int lim, .int ret, .long clm])) :: (hpr, .inl (cI, 3, .inl fP)) :: rest) (fun v u => v = some (.int (kAl fQ lim tw)) ∧ u = (hd, .inr (1, [.ref ho, .ref hwn, .ref hq, .int (nI oc), .int bx, .int by9, .int x, .int y, .int ot, .int tw, .int (kb bg), .int (kb cl)])) :: (ho, .inl (cJ, 41, .inr (.inl (fun i9 => kRow (BO i9))))) :: (hwn, .inl (cJ, 41, .inr (.inl (fun i9 => kRow (BW i9))))) :: (hq, .inl (cI, 10, .inl fQ)) :: (hs, .inr (4, [.ref hd, .ref lr, .ref li, .ref hpr, .int lim, .int ret, .long clm])) :: (hpr, .inl (cI, 3, .inl fP)) :: rest ∧ cl = true) (fun E u => u = (hd, .inr (1, [.ref ho, .ref hwn, .ref hq, .int (nI oc), .int bx, .int by9, .int x, .int y, .int ot, .int tw, .int (kb bg), .int (kb cl)])) :: (ho, .inl (cJ, 41, .inr (.inl (fun i9 => kRow (BO i9))))) :: (hwn, .inl (cJ, 41, .inr (.inl (fun i9 => kRow (BW i9))))) :: (hq, .inl (cI, 10, .inl fQ)) :: (hs, .inr (4, [.ref hd, .ref lr, .ref li, .ref hpr, .int lim, .int ret, .long clm])) :: (hpr, .inl (cI, 3, .inl fP)) :: rest ∧ (E = kISE ∧ cl = false)) := by
  refine kM.of hfl (cc := cX3_netArea) (maxL := 1) (ret := (some .int)) (by decide) rfl (Nat.le_of_ble_eq_true rfl) ?_
  intro p e s m args below meth c A ls hC hr hmn hG hl
  have hx := hC.x
  have hb := hC.b
  have hl : lv_has ls 1 [(0, .ref hs)] := hl
  have hi_RX3 : ∀ w ∈ wsX30, w ∈ wsX3_netArea := fun w h => List.mem_cons_of_mem _ (List.mem_append_left _ (List.mem_append_left _ (List.mem_append_right _ h)))
  refine lv_aload_n hx hb dX3_netArea_0 rfl (lv_at hl 0 rfl) ?_
  refine k_callV (nn := 0) (C := RX3) hC hG 4 rfl (ci := 4) rfl (K_X3_checkClosed l hfl D cI cJ cZ cO z mi hd ho hwn hq BO BW fQ oc bx by9 x y ot tw bg cl hs lr li hpr lim ret clm fP rest ) gX3_netArea_X3_checkClosed rfl rfl (by decide +kernel) ⟨(Nat.le_of_ble_eq_true rfl), (Nat.le_of_ble_eq_true rfl)⟩ hl.1 rfl (Nat.le_of_ble_eq_true rfl) dX3_netArea_1 ⟨(Nat.le_of_ble_eq_true rfl), (Nat.le_of_ble_eq_true rfl)⟩ (fun E9 ce9 q9 u9 H9 locs9 hp9 hG9 h91 h92 h93 => k_out hC hG9 h91 h92 h93 (by obtain ⟨rfl, rfl, h99⟩ := hp9; exact ⟨rfl, ⟨rfl, h99⟩⟩) (Nat.le_of_ble_eq_true rfl) (Nat.le_of_ble_eq_true rfl)) (fun v9 u9 H locs hp hG => ?_)
  obtain ⟨rfl, rfl, hk1⟩ := hp
  refine W.widen (k := 1) (n := 6) (Nat.le_of_ble_eq_true rfl) (Nat.le_of_ble_eq_true rfl) ?_
  refine W.eq (g2 := F0 m 4 ls []) rfl ?_
  refine lv_aload_n hx hb dX3_netArea_4 rfl (lv_at hl 0 rfl) ?_
  refine k_get (C := RX3) (T := TX3) (N := 7) (ci := 4) (v := .ref hd) (fs := [.ref hd, .ref lr, .ref li, .ref hpr, .int lim, .int ret, .long clm]) hC hG hi_RX3 4 rfl rfl 0 (by decide) (List.mem_of_getElem? (i := 1) rfl) rfl rfl dX3_netArea_5 ?_
  refine lv_aload_n hx hb dX3_netArea_8 rfl (lv_at hl 0 rfl) ?_
  refine k_get (C := RX3) (T := TX3) (N := 7) (ci := 4) (v := .int lim) (fs := [.ref hd, .ref lr, .ref li, .ref hpr, .int lim, .int ret, .long clm]) hC hG hi_RX3 4 rfl rfl 4 (by decide) (List.mem_of_getElem? (i := 2) rfl) rfl rfl dX3_netArea_9 ?_
  refine k_callV (nn := 1) (C := RX0) hC hG 0 rfl (ci := 1) rfl (K_X0_areaLeft l hfl D cI cJ cZ cO z mi hd ho hwn hq BO BW fQ oc bx by9 x y ot tw bg cl ((hs, .inr (4, [.ref hd, .ref lr, .ref li, .ref hpr, .int lim, .int ret, .long clm])) :: (hpr, .inl (cI, 3, .inl fP)) :: rest) lim) gX3_netArea_X0_areaLeft rfl rfl (by decide +kernel) ⟨(Nat.le_of_ble_eq_true rfl), (Nat.le_of_ble_eq_true rfl)⟩ hl.1 rfl (Nat.le_of_ble_eq_true rfl) dX3_netArea_12 ⟨(Nat.le_of_ble_eq_true rfl), (Nat.le_of_ble_eq_true rfl)⟩ (fun _ _ _ _ _ _ hp => hp.elim) (fun v9 u9 H locs hp hG => ?_)
  obtain ⟨rfl, rfl⟩ := hp
  refine W.widen (k := 1) (n := 6) (Nat.le_of_ble_eq_true rfl) (Nat.le_of_ble_eq_true rfl) ?_
  refine W.eq (g2 := F0 m 15 ls [.int (kAl fQ lim tw)]) rfl ?_
  exact k_reti hC hr hG ⟨rfl, rfl, hk1⟩ (Nat.le_of_ble_eq_true rfl) (Nat.le_of_ble_eq_true rfl) dX3_netArea_15

