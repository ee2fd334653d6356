set_option maxHeartbeats 4000000 in
set_option maxRecDepth 100000 in
/-- Drawing(): its rows made -/
theorem K_X0_init (l : Launch) (hfl : l.stackTraces = false) (D : va_G) (cI cJ cZ cO : ClassId) (z mi : Nat) (hd : Nat) : kM l D (kTy cI cJ cZ cO) z mi yX0_init wsX0_init ({ frames := 1, cells := 3, slots := 92, locals := 30 } : Room) [.ref hd] ([(hd, .inr (1, [.null, .null, .null, .int 0, .int 0, .int 0, .int 0, .int 0, .int 0, .int 0, .int 0, .int 0]))]) (fun v u => v = none ∧ ∃ ho hwn hq : Nat, u = (hd, .inr (1, [.ref ho, .ref hwn, .ref hq, .int (nI 0), .int 0, .int 0, .int 0, .int 0, .int 0, .int 0, .int (kb false), .int (kb false)])) :: (ho, .inl (cJ, 41, .inr (.inl (fun i9 => kRow ((fun _ _ => false) i9))))) :: (hwn, .inl (cJ, 41, .inr (.inl (fun i9 => kRow ((fun _ _ => false) i9))))) :: (hq, .inl (cI, 10, .inl (fun _ => 0))) :: []) (fun _ _ => False) := by
  refine kM.of hfl (cc := cX0_init) (maxL := 1) (ret := none) (by decide) rfl (Nat.le_of_ble_eq_true rfl) ?_
  intro p e s m args below meth c A ls hC hr hmn hG hl
  have hx := hC.x
  have hb := hC.b
  have hl : lv_has ls 1 [(0, .ref hd)] := hl
  have hi_RX0 : ∀ w ∈ wsX00, w ∈ wsX0_init := fun w h => List.mem_cons_of_mem _ (List.mem_append_right _ h)
  refine lv_aload_n hx hb dX0_init_0 rfl (lv_at hl 0 rfl) ?_
  refine W.objInit hx hb hC.o (hC.t _ (List.mem_of_getElem? (i := 1) rfl)) (hC.t _ (List.mem_of_getElem? (i := 2) rfl)) (hC.t _ (List.mem_of_getElem? (i := 3) rfl)) rfl (hl.1.trans hC.nl.symm) rfl dX0_init_1 (Nat.le_of_ble_eq_true rfl) (Nat.le_of_ble_eq_true rfl) ?_
  refine W.eq (g2 := F0 m 4 ls []) rfl ?_
  refine lv_aload_n hx hb dX0_init_4 rfl (lv_at hl 0 rfl) ?_
  refine lv_bipush (v := 41) hx hb dX0_init_5 (by decide) ?_
  refine k_newJ  hC hG (N := 41) (List.mem_of_getElem? (i := 4) rfl) (by decide) (by decide) (by decide) (Nat.le_of_ble_eq_true rfl) (Nat.le_of_ble_eq_true rfl) dX0_init_7 (fun qa1 H hG => ?_)
  have hG : kG D A s ([(hd, .inr (1, [.null, .null, .null, .int 0, .int 0, .int 0, .int 0, .int 0, .int 0, .int 0, .int 0, .int 0])), (qa1, .inl (cJ, 41, .inr (.inl (fun _ => 0))))]) H _ := hG
  refine W.widen (k := 1) (n := 41) (Nat.le_of_ble_eq_true rfl) (Nat.le_of_ble_eq_true rfl) ?_
  refine k_putF (C := RX0) (T := TX0) (N := 12) (ci := 1) (v := .ref qa1) (fs := [.null, .null, .null, .int 0, .int 0, .int 0, .int 0, .int 0, .int 0, .int 0, .int 0, .int 0]) hC hG hi_RX0 tyX0_ok nmX0 0 rfl rfl 0 (by decide) (List.mem_of_getElem? (i := 5) rfl) rfl rfl hmn rfl rfl rfl (Nat.le_of_ble_eq_true rfl) dX0_init_9 (fun H locs hG => ?_)
  have hG : kG D A s ([(hd, .inr (1, [.ref qa1, .null, .null, .int 0, .int 0, .int 0, .int 0, .int 0, .int 0, .int 0, .int 0, .int 0])), (qa1, .inl (cJ, 41, .inr (.inl (fun _ => 0))))]) H locs := hG
  refine lv_aload_n hx hb dX0_init_12 rfl (lv_at hl 0 rfl) ?_
  refine lv_bipush (v := 41) hx hb dX0_init_13 (by decide) ?_
  refine k_newJ  hC hG (N := 41) (List.mem_of_getElem? (i := 4) rfl) (by decide) (by decide) (by decide) (Nat.le_of_ble_eq_true rfl) (Nat.le_of_ble_eq_true rfl) dX0_init_15 (fun qa2 H hG => ?_)
  have hG : kG D A s ([(hd, .inr (1, [.ref qa1, .null, .null, .int 0, .int 0, .int 0, .int 0, .int 0, .int 0, .int 0, .int 0, .int 0])), (qa1, .inl (cJ, 41, .inr (.inl (fun _ => 0)))), (qa2, .inl (cJ, 41, .inr (.inl (fun _ => 0))))]) H _ := hG
  refine W.widen (k := 2) (n := 82) (Nat.le_of_ble_eq_true rfl) (Nat.le_of_ble_eq_true rfl) ?_
  refine k_putF (C := RX0) (T := TX0) (N := 12) (ci := 1) (v := .ref qa2) (fs := [.ref qa1, .null, .null, .int 0, .int 0, .int 0, .int 0, .int 0, .int 0, .int 0, .int 0, .int 0]) hC hG hi_RX0 tyX0_ok nmX0 0 rfl rfl 1 (by decide) (List.mem_of_getElem? (i := 6) rfl) rfl rfl hmn rfl rfl rfl (Nat.le_of_ble_eq_true rfl) dX0_init_17 (fun H locs hG => ?_)
  have hG : kG D A s ([(hd, .inr (1, [.ref qa1, .ref qa2, .null, .int 0, .int 0, .int 0, .int 0, .int 0, .int 0, .int 0, .int 0, .int 0])), (qa1, .inl (cJ, 41, .inr (.inl (fun _ => 0)))), (qa2, .inl (cJ, 41, .inr (.inl (fun _ => 0))))]) H locs := hG
  refine lv_aload_n hx hb dX0_init_20 rfl (lv_at hl 0 rfl) ?_
  refine lv_bipush (v := 10) hx hb dX0_init_21 (by decide) ?_
  refine k_newI  hC hG (N := 10) (List.mem_of_getElem? (i := 7) rfl) (by decide) (by decide) (by decide) (Nat.le_of_ble_eq_true rfl) (Nat.le_of_ble_eq_true rfl) dX0_init_23 (fun qa3 H hG => ?_)
  have hG : kG D A s ([(hd, .inr (1, [.ref qa1, .ref qa2, .null, .int 0, .int 0, .int 0, .int 0, .int 0, .int 0, .int 0, .int 0, .int 0])), (qa1, .inl (cJ, 41, .inr (.inl (fun _ => 0)))), (qa2, .inl (cJ, 41, .inr (.inl (fun _ => 0)))), (qa3, .inl (cI, 10, .inl (fun _ => 0)))]) H _ := hG
  refine W.widen (k := 3) (n := 92) (Nat.le_of_ble_eq_true rfl) (Nat.le_of_ble_eq_true rfl) ?_
  refine k_putF (C := RX0) (T := TX0) (N := 12) (ci := 1) (v := .ref qa3) (fs := [.ref qa1, .ref qa2, .null, .int 0, .int 0, .int 0, .int 0, .int 0, .int 0, .int 0, .int 0, .int 0]) hC hG hi_RX0 tyX0_ok nmX0 0 rfl rfl 2 (by decide) (List.mem_of_getElem? (i := 8) rfl) rfl rfl hmn rfl rfl rfl (Nat.le_of_ble_eq_true rfl) dX0_init_25 (fun H locs hG => ?_)
  have hG : kG D A s ([(hd, .inr (1, [.ref qa1, .ref qa2, .ref qa3, .int 0, .int 0, .int 0, .int 0, .int 0, .int 0, .int 0, .int 0, .int 0])), (qa1, .inl (cJ, 41, .inr (.inl (fun _ => 0)))), (qa2, .inl (cJ, 41, .inr (.inl (fun _ => 0)))), (qa3, .inl (cI, 10, .inl (fun _ => 0)))]) H locs := hG
  exact k_retv hC hr hG ⟨rfl, qa1, qa2, qa3, rfl⟩ (Nat.le_of_ble_eq_true rfl) (Nat.le_of_ble_eq_true rfl) dX0_init_28

set_option maxHeartbeats 4000000 in
set_option maxRecDepth 100000 in
/-- startAt: the drawing begun anew -/
theorem K_X0_startAt (l : Launch) (hfl : l.stackTraces = false) (D : va_G) (cI cJ cZ cO : ClassId) (z mi : Nat) (hd : Nat) (ho : Nat) (hwn : Nat) (hq : Nat) (BO : Nat → Nat → Bool) (BW : Nat → Nat → Bool) (fQ : Nat → Int32) (oc : Nat) (bx : Int32) (by9 : Int32) (x : Int32) (y : Int32) (ot : Int32) (tw : Int32) (bg : Bool) (cl : Bool) (rest : va_W) (xa ya : Int32) (hpl : kPl xa ya = true) : kM l D (kTy cI cJ cZ cO) z mi yX0_startAt wsX0_startAt ({ frames := 2, cells := 0, slots := 0, locals := 43 } : Room) [.ref hd, .int xa, .int ya] ((hd, .inr (1, [.ref ho, .ref hwn, .ref hq, .int (nI oc), .int bx, .int by9, .int x, .int y, .int ot, .int tw, .int (kb bg), .int (kb cl)])) :: (ho, .inl (cJ, 41, .inr (.inl (fun i9 => kRow (BO i9))))) :: (hwn, .inl (cJ, 41, .inr (.inl (fun i9 => kRow (BW i9))))) :: (hq, .inl (cI, 10, .inl fQ)) :: rest) (fun v u => v = none ∧ u = (hd, .inr (1, [.ref ho, .ref hwn, .ref hq, .int (nI 0), .int xa, .int ya, .int xa, .int ya, .int 0, .int 0, .int (kb true), .int (kb false)])) :: (ho, .inl (cJ, 41, .inr (.inl (fun i9 => kRow ((kSt2 (fun _ _ => false) xa.toNatClampNeg ya.toNatClampNeg) i9))))) :: (hwn, .inl (cJ, 41, .inr (.inl (fun i9 => kRow ((fun _ _ => false) i9))))) :: (hq, .inl (cI, 10, .inl (fun _ => 0))) :: rest) (fun _ _ => False) := by
  refine kM.of hfl (cc := cX0_startAt) (maxL := 3) (ret := none) (by decide) rfl (Nat.le_of_ble_eq_true rfl) ?_
  intro p e s m args below meth c A ls hC hr hmn hG hl
  have hx := hC.x
  have hb := hC.b
  have hl : lv_has ls 3 [(0, .ref hd), (1, .int xa), (2, .int ya)] := hl
  have hi_RX0 : ∀ w ∈ wsX00, w ∈ wsX0_startAt := fun w h => List.mem_cons_of_mem _ (List.mem_append_right _ h)
  refine lv_aload_n hx hb dX0_startAt_0 rfl (lv_at hl 0 rfl) ?_
  refine k_get (C := RX0) (T := TX0) (N := 12) (ci := 1) (v := .ref ho) (fs := [.ref ho, .ref hwn, .ref hq, .int (nI oc), .int bx, .int by9, .int x, .int y, .int ot, .int tw, .int (kb bg), .int (kb cl)]) hC hG hi_RX0 0 rfl rfl 0 (by decide) (List.mem_of_getElem? (i := 1) rfl) rfl rfl dX0_startAt_1 ?_
  refine lv_lconst (v := 0) hx hb dX0_startAt_4 (by decide) ?_
  refine k_callS (nn := 2) hC hG (K_J7_fill_d0a16 l hfl D cI cJ cZ cO z mi ((hd, .inr (1, [.ref ho, .ref hwn, .ref hq, .int (nI oc), .int bx, .int by9, .int x, .int y, .int ot, .int tw, .int (kb bg), .int (kb cl)])) :: (ho, .inl (cJ, 41, .inr (.inl (fun i9 => kRow (BO i9))))) :: (hwn, .inl (cJ, 41, .inr (.inl (fun i9 => kRow (BW i9))))) :: (hq, .inl (cI, 10, .inl fQ)) :: rest) 1 ho 41 (fun i9 => kRow (BO i9)) 0 (by decide) rfl) gX0_startAt_J7_fill_d0a16 rfl rfl (by decide +kernel) ⟨(Nat.le_of_ble_eq_true rfl), (Nat.le_of_ble_eq_true rfl)⟩ hl.1 rfl (Nat.le_of_ble_eq_true rfl) dX0_startAt_5 ⟨(Nat.le_of_ble_eq_true rfl), (Nat.le_of_ble_eq_true rfl)⟩ (fun _ _ _ _ _ _ hp => hp.elim) (fun v9 u9 H locs hp hG => ?_)
  obtain ⟨rfl, rfl⟩ := hp
  have hG : kG D A s ((hd, .inr (1, [.ref ho, .ref hwn, .ref hq, .int (nI oc), .int bx, .int by9, .int x, .int y, .int ot, .int tw, .int (kb bg), .int (kb cl)])) :: (ho, .inl (cJ, 41, .inr (.inl (fun _ => 0)))) :: (hwn, .inl (cJ, 41, .inr (.inl (fun i9 => kRow (BW i9))))) :: (hq, .inl (cI, 10, .inl fQ)) :: rest) H locs := hG
  refine W.widen (k := 0) (n := 0) (Nat.le_of_ble_eq_true rfl) (Nat.le_of_ble_eq_true rfl) ?_
  refine W.eq (g2 := F0 m 8 ls []) rfl ?_
  rw [kRowZ] at hG
  have hG : kG D A s ((hd, .inr (1, [.ref ho, .ref hwn, .ref hq, .int (nI oc), .int bx, .int by9, .int x, .int y, .int ot, .int tw, .int (kb bg), .int (kb cl)])) :: (ho, .inl (cJ, 41, .inr (.inl (fun i9 => kRow ((fun _ _ => false) i9))))) :: (hwn, .inl (cJ, 41, .inr (.inl (fun i9 => kRow (BW i9))))) :: (hq, .inl (cI, 10, .inl fQ)) :: rest) H locs := hG
  refine lv_aload_n hx hb dX0_startAt_8 rfl (lv_at hl 0 rfl) ?_
  refine k_get (C := RX0) (T := TX0) (N := 12) (ci := 1) (v := .ref hwn) (fs := [.ref ho, .ref hwn, .ref hq, .int (nI oc), .int bx, .int by9, .int x, .int y, .int ot, .int tw, .int (kb bg), .int (kb cl)]) hC hG hi_RX0 0 rfl rfl 1 (by decide) (List.mem_of_getElem? (i := 2) rfl) rfl rfl dX0_startAt_9 ?_
  refine lv_lconst (v := 0) hx hb dX0_startAt_12 (by decide) ?_
  refine k_callS (nn := 2) hC hG (K_J7_fill_d0a16 l hfl D cI cJ cZ cO z mi ((hd, .inr (1, [.ref ho, .ref hwn, .ref hq, .int (nI oc), .int bx, .int by9, .int x, .int y, .int ot, .int tw, .int (kb bg), .int (kb cl)])) :: (ho, .inl (cJ, 41, .inr (.inl (fun i9 => kRow ((fun _ _ => false) i9))))) :: (hwn, .inl (cJ, 41, .inr (.inl (fun i9 => kRow (BW i9))))) :: (hq, .inl (cI, 10, .inl fQ)) :: rest) 2 hwn 41 (fun i9 => kRow (BW i9)) 0 (by decide) rfl) gX0_startAt_J7_fill_d0a16 rfl rfl (by decide +kernel) ⟨(Nat.le_of_ble_eq_true rfl), (Nat.le_of_ble_eq_true rfl)⟩ hl.1 rfl (Nat.le_of_ble_eq_true rfl) dX0_startAt_13 ⟨(Nat.le_of_ble_eq_true rfl), (Nat.le_of_ble_eq_true rfl)⟩ (fun _ _ _ _ _ _ hp => hp.elim) (fun v9 u9 H locs hp hG => ?_)
  obtain ⟨rfl, rfl⟩ := hp
  have hG : kG D A s ((hd, .inr (1, [.ref ho, .ref hwn, .ref hq, .int (nI oc), .int bx, .int by9, .int x, .int y, .int ot, .int tw, .int (kb bg), .int (kb cl)])) :: (ho, .inl (cJ, 41, .inr (.inl (fun i9 => kRow ((fun _ _ => false) i9))))) :: (hwn, .inl (cJ, 41, .inr (.inl (fun _ => 0)))) :: (hq, .inl (cI, 10, .inl fQ)) :: rest) H locs := hG
  refine W.widen (k := 0) (n := 0) (Nat.le_of_ble_eq_true rfl) (Nat.le_of_ble_eq_true rfl) ?_
  refine W.eq (g2 := F0 m 16 ls []) rfl ?_
  rw [kRowZ] at hG
  have hG : kG D A s ((hd, .inr (1, [.ref ho, .ref hwn, .ref hq, .int (nI oc), .int bx, .int by9, .int x, .int y, .int ot, .int tw, .int (kb bg), .int (kb cl)])) :: (ho, .inl (cJ, 41, .inr (.inl (fun i9 => kRow ((fun _ _ => false) i9))))) :: (hwn, .inl (cJ, 41, .inr (.inl (fun i9 => kRow ((fun _ _ => false) i9))))) :: (hq, .inl (cI, 10, .inl fQ)) :: rest) H locs := hG
  refine lv_aload_n hx hb dX0_startAt_16 rfl (lv_at hl 0 rfl) ?_
  refine k_get (C := RX0) (T := TX0) (N := 12) (ci := 1) (v := .ref hq) (fs := [.ref ho, .ref hwn, .ref hq, .int (nI oc), .int bx, .int by9, .int x, .int y, .int ot, .int tw, .int (kb bg), .int (kb cl)]) hC hG hi_RX0 0 rfl rfl 2 (by decide) (List.mem_of_getElem? (i := 3) rfl) rfl rfl dX0_startAt_17 ?_
  refine lv_iconst (v := 0) hx hb dX0_startAt_20 (by decide) ?_
  refine k_callS (nn := 2) hC hG (K_J7_fill_53178 l hfl D cI cJ cZ cO z mi ((hd, .inr (1, [.ref ho, .ref hwn, .ref hq, .int (nI oc), .int bx, .int by9, .int x, .int y, .int ot, .int tw, .int (kb bg), .int (kb cl)])) :: (ho, .inl (cJ, 41, .inr (.inl (fun i9 => kRow ((fun _ _ => false) i9))))) :: (hwn, .inl (cJ, 41, .inr (.inl (fun i9 => kRow ((fun _ _ => false) i9))))) :: (hq, .inl (cI, 10, .inl fQ)) :: rest) 3 hq 10 fQ 0 (by decide) rfl) gX0_startAt_J7_fill_53178 rfl rfl (by decide +kernel) ⟨(Nat.le_of_ble_eq_true rfl), (Nat.le_of_ble_eq_true rfl)⟩ hl.1 rfl (Nat.le_of_ble_eq_true rfl) dX0_startAt_21 ⟨(Nat.le_of_ble_eq_true rfl), (Nat.le_of_ble_eq_true rfl)⟩ (fun _ _ _ _ _ _ hp => hp.elim) (fun v9 u9 H locs hp hG => ?_)
  obtain ⟨rfl, rfl⟩ := hp
  have hG : kG D A s ((hd, .inr (1, [.ref ho, .ref hwn, .ref hq, .int (nI oc), .int bx, .int by9, .int x, .int y, .int ot, .int tw, .int (kb bg), .int (kb cl)])) :: (ho, .inl (cJ, 41, .inr (.inl (fun i9 => kRow ((fun _ _ => false) i9))))) :: (hwn, .inl (cJ, 41, .inr (.inl (fun i9 => kRow ((fun _ _ => false) i9))))) :: (hq, .inl (cI, 10, .inl (fun _ => 0))) :: rest) H locs := hG
  refine W.widen (k := 0) (n := 0) (Nat.le_of_ble_eq_true rfl) (Nat.le_of_ble_eq_true rfl) ?_
  refine W.eq (g2 := F0 m 24 ls []) rfl ?_
  refine lv_aload_n hx hb dX0_startAt_24 rfl (lv_at hl 0 rfl) ?_
  refine lv_iconst (v := 0) hx hb dX0_startAt_25 (by decide) ?_
  refine k_put (C := RX0) (T := TX0) (N := 12) (ci := 1) (v := .int 0) (fs := [.ref ho, .ref hwn, .ref hq, .int (nI oc), .int bx, .int by9, .int x, .int y, .int ot, .int tw, .int (kb bg), .int (kb cl)]) hC hG hi_RX0 tyX0_ok nmX0 0 rfl rfl 3 (by decide) (List.mem_of_getElem? (i := 4) rfl) rfl rfl rfl rfl (Nat.le_of_ble_eq_true rfl) dX0_startAt_26 (fun H locs hG => ?_)
  have hG : kG D A s ((hd, .inr (1, [.ref ho, .ref hwn, .ref hq, .int 0, .int bx, .int by9, .int x, .int y, .int ot, .int tw, .int (kb bg), .int (kb cl)])) :: (ho, .inl (cJ, 41, .inr (.inl (fun i9 => kRow ((fun _ _ => false) i9))))) :: (hwn, .inl (cJ, 41, .inr (.inl (fun i9 => kRow ((fun _ _ => false) i9))))) :: (hq, .inl (cI, 10, .inl (fun _ => 0))) :: rest) H locs := hG
  refine lv_aload_n hx hb dX0_startAt_29 rfl (lv_at hl 0 rfl) ?_
  refine lv_iconst (v := 0) hx hb dX0_startAt_30 (by decide) ?_
  refine k_put (C := RX0) (T := TX0) (N := 12) (ci := 1) (v := .int 0) (fs := [.ref ho, .ref hwn, .ref hq, .int 0, .int bx, .int by9, .int x, .int y, .int ot, .int tw, .int (kb bg), .int (kb cl)]) hC hG hi_RX0 tyX0_ok nmX0 0 rfl rfl 8 (by decide) (List.mem_of_getElem? (i := 5) rfl) rfl rfl rfl rfl (Nat.le_of_ble_eq_true rfl) dX0_startAt_31 (fun H locs hG => ?_)
  have hG : kG D A s ((hd, .inr (1, [.ref ho, .ref hwn, .ref hq, .int 0, .int bx, .int by9, .int x, .int y, .int 0, .int tw, .int (kb bg), .int (kb cl)])) :: (ho, .inl (cJ, 41, .inr (.inl (fun i9 => kRow ((fun _ _ => false) i9))))) :: (hwn, .inl (cJ, 41, .inr (.inl (fun i9 => kRow ((fun _ _ => false) i9))))) :: (hq, .inl (cI, 10, .inl (fun _ => 0))) :: rest) H locs := hG
  refine lv_aload_n hx hb dX0_startAt_34 rfl (lv_at hl 0 rfl) ?_
  refine lv_iconst (v := 0) hx hb dX0_startAt_35 (by decide) ?_
  refine k_put (C := RX0) (T := TX0) (N := 12) (ci := 1) (v := .int 0) (fs := [.ref ho, .ref hwn, .ref hq, .int 0, .int bx, .int by9, .int x, .int y, .int 0, .int tw, .int (kb bg), .int (kb cl)]) hC hG hi_RX0 tyX0_ok nmX0 0 rfl rfl 9 (by decide) (List.mem_of_getElem? (i := 6) rfl) rfl rfl rfl rfl (Nat.le_of_ble_eq_true rfl) dX0_startAt_36 (fun H locs hG => ?_)
  have hG : kG D A s ((hd, .inr (1, [.ref ho, .ref hwn, .ref hq, .int 0, .int bx, .int by9, .int x, .int y, .int 0, .int 0, .int (kb bg), .int (kb cl)])) :: (ho, .inl (cJ, 41, .inr (.inl (fun i9 => kRow ((fun _ _ => false) i9))))) :: (hwn, .inl (cJ, 41, .inr (.inl (fun i9 => kRow ((fun _ _ => false) i9))))) :: (hq, .inl (cI, 10, .inl (fun _ => 0))) :: rest) H locs := hG
  refine lv_aload_n hx hb dX0_startAt_39 rfl (lv_at hl 0 rfl) ?_
  refine lv_iload_n hx hb dX0_startAt_40 rfl (lv_at hl 1 rfl) ?_
  refine k_put (C := RX0) (T := TX0) (N := 12) (ci := 1) (v := .int xa) (fs := [.ref ho, .ref hwn, .ref hq, .int 0, .int bx, .int by9, .int x, .int y, .int 0, .int 0, .int (kb bg), .int (kb cl)]) hC hG hi_RX0 tyX0_ok nmX0 0 rfl rfl 4 (by decide) (List.mem_of_getElem? (i := 7) rfl) rfl rfl rfl rfl (Nat.le_of_ble_eq_true rfl) dX0_startAt_41 (fun H locs hG => ?_)
  have hG : kG D A s ((hd, .inr (1, [.ref ho, .ref hwn, .ref hq, .int 0, .int xa, .int by9, .int x, .int y, .int 0, .int 0, .int (kb bg), .int (kb cl)])) :: (ho, .inl (cJ, 41, .inr (.inl (fun i9 => kRow ((fun _ _ => false) i9))))) :: (hwn, .inl (cJ, 41, .inr (.inl (fun i9 => kRow ((fun _ _ => false) i9))))) :: (hq, .inl (cI, 10, .inl (fun _ => 0))) :: rest) H locs := hG
  refine lv_aload_n hx hb dX0_startAt_44 rfl (lv_at hl 0 rfl) ?_
  refine lv_iload_n hx hb dX0_startAt_45 rfl (lv_at hl 2 rfl) ?_
  refine k_put (C := RX0) (T := TX0) (N := 12) (ci := 1) (v := .int ya) (fs := [.ref ho, .ref hwn, .ref hq, .int 0, .int xa, .int by9, .int x, .int y, .int 0, .int 0, .int (kb bg), .int (kb cl)]) hC hG hi_RX0 tyX0_ok nmX0 0 rfl rfl 5 (by decide) (List.mem_of_getElem? (i := 8) rfl) rfl rfl rfl rfl (Nat.le_of_ble_eq_true rfl) dX0_startAt_46 (fun H locs hG => ?_)
  have hG : kG D A s ((hd, .inr (1, [.ref ho, .ref hwn, .ref hq, .int 0, .int xa, .int ya, .int x, .int y, .int 0, .int 0, .int (kb bg), .int (kb cl)])) :: (ho, .inl (cJ, 41, .inr (.inl (fun i9 => kRow ((fun _ _ => false) i9))))) :: (hwn, .inl (cJ, 41, .inr (.inl (fun i9 => kRow ((fun _ _ => false) i9))))) :: (hq, .inl (cI, 10, .inl (fun _ => 0))) :: rest) H locs := hG
  refine lv_aload_n hx hb dX0_startAt_49 rfl (lv_at hl 0 rfl) ?_
  refine lv_iload_n hx hb dX0_startAt_50 rfl (lv_at hl 1 rfl) ?_
  refine k_put (C := RX0) (T := TX0) (N := 12) (ci := 1) (v := .int xa) (fs := [.ref ho, .ref hwn, .ref hq, .int 0, .int xa, .int ya, .int x, .int y, .int 0, .int 0, .int (kb bg), .int (kb cl)]) hC hG hi_RX0 tyX0_ok nmX0 0 rfl rfl 6 (by decide) (List.mem_of_getElem? (i := 9) rfl) rfl rfl rfl rfl (Nat.le_of_ble_eq_true rfl) dX0_startAt_51 (fun H locs hG => ?_)
  have hG : kG D A s ((hd, .inr (1, [.ref ho, .ref hwn, .ref hq, .int 0, .int xa, .int ya, .int xa, .int y, .int 0, .int 0, .int (kb bg), .int (kb cl)])) :: (ho, .inl (cJ, 41, .inr (.inl (fun i9 => kRow ((fun _ _ => false) i9))))) :: (hwn, .inl (cJ, 41, .inr (.inl (fun i9 => kRow ((fun _ _ => false) i9))))) :: (hq, .inl (cI, 10, .inl (fun _ => 0))) :: rest) H locs := hG
  refine lv_aload_n hx hb dX0_startAt_54 rfl (lv_at hl 0 rfl) ?_
  refine lv_iload_n hx hb dX0_startAt_55 rfl (lv_at hl 2 rfl) ?_
  refine k_put (C := RX0) (T := TX0) (N := 12) (ci := 1) (v := .int ya) (fs := [.ref ho, .ref hwn, .ref hq, .int 0, .int xa, .int ya, .int xa, .int y, .int 0, .int 0, .int (kb bg), .int (kb cl)]) hC hG hi_RX0 tyX0_ok nmX0 0 rfl rfl 7 (by decide) (List.mem_of_getElem? (i := 10) rfl) rfl rfl rfl rfl (Nat.le_of_ble_eq_true rfl) dX0_startAt_56 (fun H locs hG => ?_)
  have hG : kG D A s ((hd, .inr (1, [.ref ho, .ref hwn, .ref hq, .int 0, .int xa, .int ya, .int xa, .int ya, .int 0, .int 0, .int (kb bg), .int (kb cl)])) :: (ho, .inl (cJ, 41, .inr (.inl (fun i9 => kRow ((fun _ _ => false) i9))))) :: (hwn, .inl (cJ, 41, .inr (.inl (fun i9 => kRow ((fun _ _ => false) i9))))) :: (hq, .inl (cI, 10, .inl (fun _ => 0))) :: rest) H locs := hG
  refine lv_aload_n hx hb dX0_startAt_59 rfl (lv_at hl 0 rfl) ?_
  refine k_get (C := RX0) (T := TX0) (N := 12) (ci := 1) (v := .ref ho) (fs := [.ref ho, .ref hwn, .ref hq, .int 0, .int xa, .int ya, .int xa, .int ya, .int 0, .int 0, .int (kb bg), .int (kb cl)]) hC hG hi_RX0 0 rfl rfl 0 (by decide) (List.mem_of_getElem? (i := 1) rfl) rfl rfl dX0_startAt_60 ?_
  refine lv_aload_n hx hb dX0_startAt_63 rfl (lv_at hl 0 rfl) ?_
  refine k_get (C := RX0) (T := TX0) (N := 12) (ci := 1) (v := .int xa) (fs := [.ref ho, .ref hwn, .ref hq, .int 0, .int xa, .int ya, .int xa, .int ya, .int 0, .int 0, .int (kb bg), .int (kb cl)]) hC hG hi_RX0 0 rfl rfl 6 (by decide) (List.mem_of_getElem? (i := 9) rfl) rfl rfl dX0_startAt_64 ?_
  refine lv_aload_n hx hb dX0_startAt_67 rfl (lv_at hl 0 rfl) ?_
  refine k_get (C := RX0) (T := TX0) (N := 12) (ci := 1) (v := .int ya) (fs := [.ref ho, .ref hwn, .ref hq, .int 0, .int xa, .int ya, .int xa, .int ya, .int 0, .int 0, .int (kb bg), .int (kb cl)]) hC hG hi_RX0 0 rfl rfl 7 (by decide) (List.mem_of_getElem? (i := 10) rfl) rfl rfl dX0_startAt_68 ?_
  refine k_callS (nn := 3) hC hG (K_X0_mark l hfl D cI cJ cZ cO z mi ((hd, .inr (1, [.ref ho, .ref hwn, .ref hq, .int 0, .int xa, .int ya, .int xa, .int ya, .int 0, .int 0, .int (kb bg), .int (kb cl)])) :: (ho, .inl (cJ, 41, .inr (.inl (fun i9 => kRow ((fun _ _ => false) i9))))) :: (hwn, .inl (cJ, 41, .inr (.inl (fun i9 => kRow ((fun _ _ => false) i9))))) :: (hq, .inl (cI, 10, .inl (fun _ => 0))) :: rest) 1 ho (fun _ _ => false) xa ya hpl rfl) gX0_startAt_X0_mark rfl rfl (by decide +kernel) ⟨(Nat.le_of_ble_eq_true rfl), (Nat.le_of_ble_eq_true rfl)⟩ hl.1 rfl (Nat.le_of_ble_eq_true rfl) dX0_startAt_71 ⟨(Nat.le_of_ble_eq_true rfl), (Nat.le_of_ble_eq_true rfl)⟩ (fun _ _ _ _ _ _ hp => hp.elim) (fun v9 u9 H locs hp hG => ?_)
  obtain ⟨rfl, rfl⟩ := hp
  have hG : kG D A s ((hd, .inr (1, [.ref ho, .ref hwn, .ref hq, .int 0, .int xa, .int ya, .int xa, .int ya, .int 0, .int 0, .int (kb bg), .int (kb cl)])) :: (ho, .inl (cJ, 41, .inr (.inl (fun i9 => kRow (kSt2 (fun _ _ => false) xa.toNatClampNeg ya.toNatClampNeg i9))))) :: (hwn, .inl (cJ, 41, .inr (.inl (fun i9 => kRow ((fun _ _ => false) i9))))) :: (hq, .inl (cI, 10, .inl (fun _ => 0))) :: rest) H locs := hG
  refine W.widen (k := 0) (n := 0) (Nat.le_of_ble_eq_true rfl) (Nat.le_of_ble_eq_true rfl) ?_
  refine W.eq (g2 := F0 m 74 ls []) rfl ?_
  refine lv_aload_n hx hb dX0_startAt_74 rfl (lv_at hl 0 rfl) ?_
  refine lv_iconst (v := 1) hx hb dX0_startAt_75 (by decide) ?_
  refine k_put (C := RX0) (T := TX0) (N := 12) (ci := 1) (v := .int 1) (fs := [.ref ho, .ref hwn, .ref hq, .int 0, .int xa, .int ya, .int xa, .int ya, .int 0, .int 0, .int (kb bg), .int (kb cl)]) hC hG hi_RX0 tyX0_ok nmX0 0 rfl rfl 10 (by decide) (List.mem_of_getElem? (i := 11) rfl) rfl rfl rfl rfl (Nat.le_of_ble_eq_true rfl) dX0_startAt_76 (fun H locs hG => ?_)
  have hG : kG D A s ((hd, .inr (1, [.ref ho, .ref hwn, .ref hq, .int 0, .int xa, .int ya, .int xa, .int ya, .int 0, .int 0, .int 1, .int (kb cl)])) :: (ho, .inl (cJ, 41, .inr (.inl (fun i9 => kRow (kSt2 (fun _ _ => false) xa.toNatClampNeg ya.toNatClampNeg i9))))) :: (hwn, .inl (cJ, 41, .inr (.inl (fun i9 => kRow ((fun _ _ => false) i9))))) :: (hq, .inl (cI, 10, .inl (fun _ => 0))) :: rest) H locs := hG
  refine lv_aload_n hx hb dX0_startAt_79 rfl (lv_at hl 0 rfl) ?_
  refine lv_iconst (v := 0) hx hb dX0_startAt_80 (by decide) ?_
  refine k_put (C := RX0) (T := TX0) (N := 12) (ci := 1) (v := .int 0) (fs := [.ref ho, .ref hwn, .ref hq, .int 0, .int xa, .int ya, .int xa, .int ya, .int 0, .int 0, .int 1, .int (kb cl)]) hC hG hi_RX0 tyX0_ok nmX0 0 rfl rfl 11 (by decide) (List.mem_of_getElem? (i := 12) rfl) rfl rfl rfl rfl (Nat.le_of_ble_eq_true rfl) dX0_startAt_81 (fun H locs hG => ?_)
  have hG : kG D A s ((hd, .inr (1, [.ref ho, .ref hwn, .ref hq, .int 0, .int xa, .int ya, .int xa, .int ya, .int 0, .int 0, .int 1, .int 0])) :: (ho, .inl (cJ, 41, .inr (.inl (fun i9 => kRow (kSt2 (fun _ _ => false) xa.toNatClampNeg ya.toNatClampNeg i9))))) :: (hwn, .inl (cJ, 41, .inr (.inl (fun i9 => kRow ((fun _ _ => false) i9))))) :: (hq, .inl (cI, 10, .inl (fun _ => 0))) :: rest) H locs := hG
  exact k_retv hC hr hG ⟨rfl, rfl⟩ (Nat.le_of_ble_eq_true rfl) (Nat.le_of_ble_eq_true rfl) dX0_startAt_84

set_option maxHeartbeats 4000000 in
set_option maxRecDepth 100000 in
/-- admits: whether a wall may go there -/
theorem K_X0_admits (l : Launch) (hfl : l.stackTraces = false) (D : va_G) (cI cJ cZ cO : ClassId) (z mi : Nat) (hd : Nat) (ho : Nat) (hwn : Nat) (hq : Nat) (BO : Nat → Nat → Bool) (BW : Nat → Nat → Bool) (fQ : Nat → Int32) (oc : Nat) (bx : Int32) (by9 : Int32) (x : Int32) (y : Int32) (ot : Int32) (tw : Int32) (bg : Bool) (cl : Bool) (rest : va_W) (d9 q9 : Int32) (hq9 : kIn q9 1 40 = true) : kM l D (kTy cI cJ cZ cO) z mi yX0_admits wsX0_admits ({ frames := 3, cells := 0, slots := 0, locals := 65 } : Room) [.ref hd, .int d9, .int q9] ((hd, .inr (1, [.ref ho, .ref hwn, .ref hq, .int (nI oc), .int bx, .int by9, .int x, .int y, .int ot, .int tw, .int (kb bg), .int (kb cl)])) :: (ho, .inl (cJ, 41, .inr (.inl (fun i9 => kRow (BO i9))))) :: (hwn, .inl (cJ, 41, .inr (.inl (fun i9 => kRow (BW i9))))) :: (hq, .inl (cI, 10, .inl fQ)) :: rest) (fun v u => v = some (.int (kb (kAd BO bx by9 x y ot d9 q9))) ∧ u = (hd, .inr (1, [.ref ho, .ref hwn, .ref hq, .int (nI oc), .int bx, .int by9, .int x, .int y, .int ot, .int tw, .int (kb bg), .int (kb cl)])) :: (ho, .inl (cJ, 41, .inr (.inl (fun i9 => kRow (BO i9))))) :: (hwn, .inl (cJ, 41, .inr (.inl (fun i9 => kRow (BW i9))))) :: (hq, .inl (cI, 10, .inl fQ)) :: rest) (fun _ _ => False) := by
  refine kM.of hfl (cc := cX0_admits) (maxL := 7) (ret := (some .boolean)) (by decide) rfl (Nat.le_of_ble_eq_true rfl) ?_
  intro p e s m args below meth c A ls hC hr hmn hG hl
  have hx := hC.x
  have hb := hC.b
  have hl : lv_has ls 7 [(0, .ref hd), (1, .int d9), (2, .int q9)] := hl
  have hi_RX0 : ∀ w ∈ wsX00, w ∈ wsX0_admits := fun w h => List.mem_cons_of_mem _ (List.mem_append_right _ h)
  refine lv_iload_n hx hb dX0_admits_0 rfl (lv_at hl 1 rfl) ?_
  refine k_callS (nn := 1) hC hG (K_X0_eastward l hfl D cI cJ cZ cO z mi ((hd, .inr (1, [.ref ho, .ref hwn, .ref hq, .int (nI oc), .int bx, .int by9, .int x, .int y, .int ot, .int tw, .int (kb bg), .int (kb cl)])) :: (ho, .inl (cJ, 41, .inr (.inl (fun i9 => kRow (BO i9))))) :: (hwn, .inl (cJ, 41, .inr (.inl (fun i9 => kRow (BW i9))))) :: (hq, .inl (cI, 10, .inl fQ)) :: rest) d9) gX0_admits_X0_eastward rfl rfl (by decide +kernel) ⟨(Nat.le_of_ble_eq_true rfl), (Nat.le_of_ble_eq_true rfl)⟩ hl.1 rfl (Nat.le_of_ble_eq_true rfl) dX0_admits_1 ⟨(Nat.le_of_ble_eq_true rfl), (Nat.le_of_ble_eq_true rfl)⟩ (fun _ _ _ _ _ _ hp => hp.elim) (fun v9 u9 H locs hp hG => ?_)
  obtain ⟨rfl, rfl⟩ := hp
  refine W.widen (k := 0) (n := 0) (Nat.le_of_ble_eq_true rfl) (Nat.le_of_ble_eq_true rfl) ?_
  refine W.eq (g2 := F0 m 4 ls [.int (kDx d9)]) rfl ?_
  refine lv_istore_n (lv' := [(3, .int (kDx d9)), (0, .ref hd), (1, .int d9), (2, .int q9)]) hx hb dX0_admits_4 rfl hl (by decide) rfl (fun ls hl => ?_)
  refine lv_iload_n hx hb dX0_admits_5 rfl (lv_at hl 2 rfl) ?_
  refine k_callS (nn := 1) hC hG (K_X0_northward l hfl D cI cJ cZ cO z mi ((hd, .inr (1, [.ref ho, .ref hwn, .ref hq, .int (nI oc), .int bx, .int by9, .int x, .int y, .int ot, .int tw, .int (kb bg), .int (kb cl)])) :: (ho, .inl (cJ, 41, .inr (.inl (fun i9 => kRow (BO i9))))) :: (hwn, .inl (cJ, 41, .inr (.inl (fun i9 => kRow (BW i9))))) :: (hq, .inl (cI, 10, .inl fQ)) :: rest) d9) gX0_admits_X0_northward rfl rfl (by decide +kernel) ⟨(Nat.le_of_ble_eq_true rfl), (Nat.le_of_ble_eq_true rfl)⟩ hl.1 rfl (Nat.le_of_ble_eq_true rfl) dX0_admits_6 ⟨(Nat.le_of_ble_eq_true rfl), (Nat.le_of_ble_eq_true rfl)⟩ (fun _ _ _ _ _ _ hp => hp.elim) (fun v9 u9 H locs hp hG => ?_)
  obtain ⟨rfl, rfl⟩ := hp
  refine W.widen (k := 0) (n := 0) (Nat.le_of_ble_eq_true rfl) (Nat.le_of_ble_eq_true rfl) ?_
  refine W.eq (g2 := F0 m 9 ls [.int (kDy d9)]) rfl ?_
  refine lv_istore (lv' := [(4, .int (kDy d9)), (3, .int (kDx d9)), (0, .ref hd), (1, .int d9), (2, .int q9)]) hx hb dX0_admits_9 hl (by decide) rfl (fun ls hl => ?_)
  refine lv_iconst (v := 1) hx hb dX0_admits_11 (by decide) ?_
  refine lv_istore (lv' := [(5, .int 1), (4, .int (kDy d9)), (3, .int (kDx d9)), (0, .ref hd), (1, .int d9), (2, .int q9)]) hx hb dX0_admits_12 hl (by decide) rfl (fun ls hl => ?_)
  obtain ⟨n9, hn1, hn2, rfl⟩ := kIn_1 hq9
  refine k_loop (σ := Nat) (fun q9 => q9 + 1 ≤ n9 ∧ kAg BO x y (kDx d9) (kDy d9) q9 = true) (fun q9 => n9 - q9) (fun q9 => (hd, .inr (1, [.ref ho, .ref hwn, .ref hq, .int (nI oc), .int bx, .int by9, .int x, .int y, .int ot, .int tw, .int (kb bg), .int (kb cl)])) :: (ho, .inl (cJ, 41, .inr (.inl (fun i9 => kRow (BO i9))))) :: (hwn, .inl (cJ, 41, .inr (.inl (fun i9 => kRow (BW i9))))) :: (hq, .inl (cI, 10, .inl fQ)) :: rest) (fun q9 => [(0, .ref hd), (1, .int d9), (2, .int (nI n9)), (3, .int (kDx d9)), (4, .int (kDy d9)), (5, .int (nI (q9 + 1)))]) 14 [] ?_ 0 (⟨by omega, rfl⟩) hG (lv_sub hl [3, 4, 5, 2, 1, 0] rfl)
  intro q9
  obtain ⟨j, rfl⟩ : ∃ z9, z9 = q9 := ⟨_, rfl⟩
  intro hI ih H locs ls hG hl
  have hI : j + 1 ≤ n9 ∧ kAg BO x y (kDx d9) (kDy d9) j = true := hI
  have hG : kG D A s ((hd, .inr (1, [.ref ho, .ref hwn, .ref hq, .int (nI oc), .int bx, .int by9, .int x, .int y, .int ot, .int tw, .int (kb bg), .int (kb cl)])) :: (ho, .inl (cJ, 41, .inr (.inl (fun i9 => kRow (BO i9))))) :: (hwn, .inl (cJ, 41, .inr (.inl (fun i9 => kRow (BW i9))))) :: (hq, .inl (cI, 10, .inl fQ)) :: rest) H locs := hG
  have hl : lv_has ls 7 [(0, .ref hd), (1, .int d9), (2, .int (nI n9)), (3, .int (kDx d9)), (4, .int (kDy d9)), (5, .int (nI (j + 1)))] := hl
  refine lv_iload hx hb dX0_admits_14 (lv_at hl 5 rfl) ?_
  refine lv_iload_n hx hb dX0_admits_16 rfl (lv_at hl 2 rfl) ?_
  refine k_icmp_ge (tgt := 54) hx hb dX0_admits_17 (by decide) (fun c_1 => ?_) (fun c_1 => ?_)
  · have hj : j + 1 = n9 := by
      rcases Nat.lt_or_ge (j + 1) n9 with h9 | h9
      · exact absurd (of_decide_eq_true c_1) (nI_ge h9 (by omega))
      · omega
    have hag : kAg BO x y (kDx d9) (kDy d9) (n9 - 1) = true := by
      rw [show n9 - 1 = j by omega]; exact hI.2
    refine lv_aload_n hx hb dX0_admits_54 rfl (lv_at hl 0 rfl) ?_
    refine k_get (C := RX0) (T := TX0) (N := 12) (ci := 1) (v := .int x) (fs := [.ref ho, .ref hwn, .ref hq, .int (nI oc), .int bx, .int by9, .int x, .int y, .int ot, .int tw, .int (kb bg), .int (kb cl)]) hC hG hi_RX0 0 rfl rfl 6 (by decide) (List.mem_of_getElem? (i := 1) rfl) rfl rfl dX0_admits_55 ?_
    refine lv_iload_n hx hb dX0_admits_58 rfl (lv_at hl 2 rfl) ?_
    refine lv_iload_n hx hb dX0_admits_59 rfl (lv_at hl 3 rfl) ?_
    refine lv_imul hx hb dX0_admits_60 ?_
    refine lv_iadd hx hb dX0_admits_61 ?_
    refine lv_istore (lv' := [(5, .int (x + ((nI n9) * (kDx d9)))), (0, .ref hd), (1, .int d9), (2, .int (nI n9)), (3, .int (kDx d9)), (4, .int (kDy d9))]) hx hb dX0_admits_62 hl (by decide) rfl (fun ls hl => ?_)
    refine lv_aload_n hx hb dX0_admits_64 rfl (lv_at hl 1 rfl) ?_
    refine k_get (C := RX0) (T := TX0) (N := 12) (ci := 1) (v := .int y) (fs := [.ref ho, .ref hwn, .ref hq, .int (nI oc), .int bx, .int by9, .int x, .int y, .int ot, .int tw, .int (kb bg), .int (kb cl)]) hC hG hi_RX0 0 rfl rfl 7 (by decide) (List.mem_of_getElem? (i := 2) rfl) rfl rfl dX0_admits_65 ?_
    refine lv_iload_n hx hb dX0_admits_68 rfl (lv_at hl 3 rfl) ?_
    refine lv_iload hx hb dX0_admits_69 (lv_at hl 5 rfl) ?_
    refine lv_imul hx hb dX0_admits_71 ?_
    refine lv_iadd hx hb dX0_admits_72 ?_
    refine lv_istore (lv' := [(6, .int (y + ((nI n9) * (kDy d9)))), (5, .int (x + ((nI n9) * (kDx d9)))), (0, .ref hd), (1, .int d9), (2, .int (nI n9)), (3, .int (kDx d9)), (4, .int (kDy d9))]) hx hb dX0_admits_73 hl (by decide) rfl (fun ls hl => ?_)
    refine lv_aload_n hx hb dX0_admits_75 rfl (lv_at hl 2 rfl) ?_
    refine lv_iload hx hb dX0_admits_76 (lv_at hl 1 rfl) ?_
    refine lv_iload hx hb dX0_admits_78 (lv_at hl 0 rfl) ?_
    refine k_callV (nn := 2) (C := RX0) hC hG 0 rfl (ci := 1) rfl (K_X0_isFree l hfl D cI cJ cZ cO z mi hd ho hwn hq BO BW fQ oc bx by9 x y ot tw bg cl rest (x + ((nI n9) * (kDx d9))) (y + ((nI n9) * (kDy d9)))) gX0_admits_X0_isFree rfl rfl (by decide +kernel) ⟨(Nat.le_of_ble_eq_true rfl), (Nat.le_of_ble_eq_true rfl)⟩ hl.1 rfl (Nat.le_of_ble_eq_true rfl) dX0_admits_80 ⟨(Nat.le_of_ble_eq_true rfl), (Nat.le_of_ble_eq_true rfl)⟩ (fun _ _ _ _ _ _ hp => hp.elim) (fun v9 u9 H locs hp hG => ?_)
    obtain ⟨rfl, rfl⟩ := hp
    refine W.widen (k := 0) (n := 0) (Nat.le_of_ble_eq_true rfl) (Nat.le_of_ble_eq_true rfl) ?_
    refine W.eq (g2 := F0 m 83 ls [.int (kb (kFr BO (x + ((nI n9) * (kDx d9))) (y + ((nI n9) * (kDy d9)))))]) rfl ?_
    refine k_joinH (D := D) (A := A) (fun v4 : Int32 => F0 m 102 ls (.int v4 :: [])) (fun v4 => v4 = kb ((kFr BO (x + ((nI n9) * (kDx d9))) (y + ((nI n9) * (kDy d9)))) || (kCz bx by9 ot (x + ((nI n9) * (kDx d9))) (y + ((nI n9) * (kDy d9)))))) ((hd, .inr (1, [.ref ho, .ref hwn, .ref hq, .int (nI oc), .int bx, .int by9, .int x, .int y, .int ot, .int tw, .int (kb bg), .int (kb cl)])) :: (ho, .inl (cJ, 41, .inr (.inl (fun i9 => kRow (BO i9))))) :: (hwn, .inl (cJ, 41, .inr (.inl (fun i9 => kRow (BW i9))))) :: (hq, .inl (cI, 10, .inl fQ)) :: rest) ?_ (fun J3 => ?_)
    · intro v4 ev4 H locs hG
      have ev4 : v4 = kb ((kFr BO (x + ((nI n9) * (kDx d9))) (y + ((nI n9) * (kDy d9)))) || (kCz bx by9 ot (x + ((nI n9) * (kDx d9))) (y + ((nI n9) * (kDy d9))))) := ev4
      subst ev4
      exact k_retz hC hr hG (kb_nar _) ⟨by unfold kAd; rw [nI_clamp (by omega), hag]; rfl, rfl⟩ (Nat.le_of_ble_eq_true rfl) (Nat.le_of_ble_eq_true rfl) dX0_admits_102
    refine k_ifB_ne (tgt := 97) hx hb dX0_admits_83 (by decide) (fun c_2 => ?_) (fun c_2 => ?_)
    · refine lv_iconst (v := 1) hx hb dX0_admits_97 (by decide) ?_
      refine lv_goto (tgt := 102) hx hb dX0_admits_98 (by decide) ?_
      exact J3 1 (by rw [c_2]; first | done | rfl) _ _ hG
    · refine lv_aload_n hx hb dX0_admits_86 rfl (lv_at hl 2 rfl) ?_
      refine lv_iload hx hb dX0_admits_87 (lv_at hl 1 rfl) ?_
      refine lv_iload hx hb dX0_admits_89 (lv_at hl 0 rfl) ?_
      refine k_callV (nn := 2) (C := RX0) hC hG 0 rfl (ci := 1) rfl (K_X0_closesAt l hfl D cI cJ cZ cO z mi hd ho hwn hq BO BW fQ oc bx by9 x y ot tw bg cl rest (x + ((nI n9) * (kDx d9))) (y + ((nI n9) * (kDy d9)))) gX0_admits_X0_closesAt rfl rfl (by decide +kernel) ⟨(Nat.le_of_ble_eq_true rfl), (Nat.le_of_ble_eq_true rfl)⟩ hl.1 rfl (Nat.le_of_ble_eq_true rfl) dX0_admits_91 ⟨(Nat.le_of_ble_eq_true rfl), (Nat.le_of_ble_eq_true rfl)⟩ (fun _ _ _ _ _ _ hp => hp.elim) (fun v9 u9 H locs hp hG => ?_)
      obtain ⟨rfl, rfl⟩ := hp
      refine W.widen (k := 0) (n := 0) (Nat.le_of_ble_eq_true rfl) (Nat.le_of_ble_eq_true rfl) ?_
      refine W.eq (g2 := F0 m 94 ls [.int (kb (kCz bx by9 ot (x + ((nI n9) * (kDx d9))) (y + ((nI n9) * (kDy d9)))))]) rfl ?_
      refine k_ifB_eq (tgt := 101) hx hb dX0_admits_94 (by decide) (fun c_5 => ?_) (fun c_5 => ?_)
      · refine lv_iconst (v := 0) hx hb dX0_admits_101 (by decide) ?_
        exact J3 0 (by rw [c_5, c_2]; first | done | rfl) _ _ hG
      · refine lv_iconst (v := 1) hx hb dX0_admits_97 (by decide) ?_
        refine lv_goto (tgt := 102) hx hb dX0_admits_98 (by decide) ?_
        exact J3 1 (by rw [c_5, c_2]; first | done | rfl) _ _ hG
  · have hj : j + 1 < n9 := by
      rcases Nat.lt_or_ge (j + 1) n9 with h9 | h9
      · exact h9
      · exact absurd (nI_le h9 (by omega)) (of_decide_eq_false c_1)
    refine lv_aload_n hx hb dX0_admits_20 rfl (lv_at hl 0 rfl) ?_
    refine lv_aload_n hx hb dX0_admits_21 rfl (lv_at hl 0 rfl) ?_
    refine k_get (C := RX0) (T := TX0) (N := 12) (ci := 1) (v := .int x) (fs := [.ref ho, .ref hwn, .ref hq, .int (nI oc), .int bx, .int by9, .int x, .int y, .int ot, .int tw, .int (kb bg), .int (kb cl)]) hC hG hi_RX0 0 rfl rfl 6 (by decide) (List.mem_of_getElem? (i := 1) rfl) rfl rfl dX0_admits_22 ?_
    refine lv_iload hx hb dX0_admits_25 (lv_at hl 5 rfl) ?_
    refine lv_iload_n hx hb dX0_admits_27 rfl (lv_at hl 3 rfl) ?_
    refine lv_imul hx hb dX0_admits_28 ?_
    refine lv_iadd hx hb dX0_admits_29 ?_
    refine lv_aload_n hx hb dX0_admits_30 rfl (lv_at hl 0 rfl) ?_
    refine k_get (C := RX0) (T := TX0) (N := 12) (ci := 1) (v := .int y) (fs := [.ref ho, .ref hwn, .ref hq, .int (nI oc), .int bx, .int by9, .int x, .int y, .int ot, .int tw, .int (kb bg), .int (kb cl)]) hC hG hi_RX0 0 rfl rfl 7 (by decide) (List.mem_of_getElem? (i := 2) rfl) rfl rfl dX0_admits_31 ?_
    refine lv_iload hx hb dX0_admits_34 (lv_at hl 5 rfl) ?_
    refine lv_iload hx hb dX0_admits_36 (lv_at hl 4 rfl) ?_
    refine lv_imul hx hb dX0_admits_38 ?_
    refine lv_iadd hx hb dX0_admits_39 ?_
    refine k_callV (nn := 2) (C := RX0) hC hG 0 rfl (ci := 1) rfl (K_X0_isFree l hfl D cI cJ cZ cO z mi hd ho hwn hq BO BW fQ oc bx by9 x y ot tw bg cl rest (x + ((nI (j + 1)) * (kDx d9))) (y + ((nI (j + 1)) * (kDy d9)))) gX0_admits_X0_isFree rfl rfl (by decide +kernel) ⟨(Nat.le_of_ble_eq_true rfl), (Nat.le_of_ble_eq_true rfl)⟩ hl.1 rfl (Nat.le_of_ble_eq_true rfl) dX0_admits_40 ⟨(Nat.le_of_ble_eq_true rfl), (Nat.le_of_ble_eq_true rfl)⟩ (fun _ _ _ _ _ _ hp => hp.elim) (fun v9 u9 H locs hp hG => ?_)
    obtain ⟨rfl, rfl⟩ := hp
    refine W.widen (k := 0) (n := 0) (Nat.le_of_ble_eq_true rfl) (Nat.le_of_ble_eq_true rfl) ?_
    refine W.eq (g2 := F0 m 43 ls [.int (kb (kFr BO (x + ((nI (j + 1)) * (kDx d9))) (y + ((nI (j + 1)) * (kDy d9)))))]) rfl ?_
    refine k_ifB_ne (tgt := 48) hx hb dX0_admits_43 (by decide) (fun c_6 => ?_) (fun c_6 => ?_)
    · refine lv_iinc (v := (nI (j + 1)) + 1) (lv' := [(5, .int ((nI (j + 1)) + 1)), (0, .ref hd), (1, .int d9), (2, .int (nI n9)), (3, .int (kDx d9)), (4, .int (kDy d9))]) hx hb dX0_admits_48 hl (k := 5) rfl rfl (by decide) rfl (fun ls hl => ?_)
      refine lv_goto (tgt := 14) hx hb dX0_admits_51 (by decide) ?_
      rw [nI_1] at hl
      exact ih (j + 1) (⟨by omega, by
                show (kAg BO x y (kDx d9) (kDy d9) j && kFr BO (x + (nI (j + 1)) * kDx d9) (y + (nI (j + 1)) * kDy d9)) = true
                rw [hI.2, c_6]; rfl⟩) (by show n9 - (j + 1) < n9 - j; omega) _ _ _ hG (lv_sub hl [1, 2, 3, 4, 5, 0] rfl)
    · refine lv_iconst (v := 0) hx hb dX0_admits_46 (by decide) ?_
      exact k_retz hC hr hG rfl ⟨by unfold kAd; rw [nI_clamp (by omega), kAg_no (k := j) (by omega) c_6]; rfl, rfl⟩ (Nat.le_of_ble_eq_true rfl) (Nat.le_of_ble_eq_true rfl) dX0_admits_47

set_option maxHeartbeats 4000000 in
set_option maxRecDepth 100000 in
/-- goOn: a wall drawn -/
theorem K_X0_goOn (l : Launch) (hfl : l.stackTraces = false) (D : va_G) (cI cJ cZ cO : ClassId) (z mi : Nat) (hd : Nat) (ho : Nat) (hwn : Nat) (hq : Nat) (BO : Nat → Nat → Bool) (BW : Nat → Nat → Bool) (fQ : Nat → Int32) (oc : Nat) (bx : Int32) (by9 : Int32) (x : Int32) (y : Int32) (ot : Int32) (tw : Int32) (bg : Bool) (cl : Bool) (rest : va_W) (d9 q9 : Int32) (hq9 : kIn q9 1 40 = true) (hpl0 : kPl x y = true) (hpl9 : ∀ k, 1 ≤ k → k ≤ q9.toNatClampNeg → kPl (x + (nI k) * kDx d9) (y + (nI k) * kDy d9) = true) : kM l D (kTy cI cJ cZ cO) z mi yX0_goOn wsX0_goOn ({ frames := 2, cells := 0, slots := 0, locals := 80 } : Room) [.ref hd, .int d9, .int q9] ((hd, .inr (1, [.ref ho, .ref hwn, .ref hq, .int (nI oc), .int bx, .int by9, .int x, .int y, .int ot, .int tw, .int (kb bg), .int (kb cl)])) :: (ho, .inl (cJ, 41, .inr (.inl (fun i9 => kRow (BO i9))))) :: (hwn, .inl (cJ, 41, .inr (.inl (fun i9 => kRow (BW i9))))) :: (hq, .inl (cI, 10, .inl fQ)) :: rest) (fun v u => v = none ∧ u = (hd, .inr (1, [.ref ho, .ref hwn, .ref hq, .int (nI oc), .int bx, .int by9, .int (x + (q9 * (kDx d9))), .int (y + (q9 * (kDy d9))), .int (ot + q9), .int (tw + ((x * (y + (q9 * (kDy d9)))) - ((x + (q9 * (kDx d9))) * y))), .int (kb bg), .int (kb ((decide ((x + (q9 * (kDx d9))) = bx)) && (decide ((y + (q9 * (kDy d9))) = by9))))])) :: (ho, .inl (cJ, 41, .inr (.inl (fun i9 => kRow ((kOv BO x y (kDx d9) (kDy d9) q9.toNatClampNeg) i9))))) :: (hwn, .inl (cJ, 41, .inr (.inl (fun i9 => kRow ((kGw BW x y (y + (q9 * (kDy d9)))) i9))))) :: (hq, .inl (cI, 10, .inl fQ)) :: rest) (fun _ _ => False) := by
  refine kM.of hfl (cc := cX0_goOn) (maxL := 8) (ret := none) (by decide) rfl (Nat.le_of_ble_eq_true rfl) ?_
  intro p e s m args below meth c A ls hC hr hmn hG hl
  have hx := hC.x
  have hb := hC.b
  have hl : lv_has ls 8 [(0, .ref hd), (1, .int d9), (2, .int q9)] := hl
  have hi_RX0 : ∀ w ∈ wsX00, w ∈ wsX0_goOn := fun w h => List.mem_cons_of_mem _ (List.mem_append_right _ h)
  refine lv_iload_n hx hb dX0_goOn_0 rfl (lv_at hl 1 rfl) ?_
  refine k_callS (nn := 1) hC hG (K_X0_eastward l hfl D cI cJ cZ cO z mi ((hd, .inr (1, [.ref ho, .ref hwn, .ref hq, .int (nI oc), .int bx, .int by9, .int x, .int y, .int ot, .int tw, .int (kb bg), .int (kb cl)])) :: (ho, .inl (cJ, 41, .inr (.inl (fun i9 => kRow (BO i9))))) :: (hwn, .inl (cJ, 41, .inr (.inl (fun i9 => kRow (BW i9))))) :: (hq, .inl (cI, 10, .inl fQ)) :: rest) d9) gX0_goOn_X0_eastward rfl rfl (by decide +kernel) ⟨(Nat.le_of_ble_eq_true rfl), (Nat.le_of_ble_eq_true rfl)⟩ hl.1 rfl (Nat.le_of_ble_eq_true rfl) dX0_goOn_1 ⟨(Nat.le_of_ble_eq_true rfl), (Nat.le_of_ble_eq_true rfl)⟩ (fun _ _ _ _ _ _ hp => hp.elim) (fun v9 u9 H locs hp hG => ?_)
  obtain ⟨rfl, rfl⟩ := hp
  refine W.widen (k := 0) (n := 0) (Nat.le_of_ble_eq_true rfl) (Nat.le_of_ble_eq_true rfl) ?_
  refine W.eq (g2 := F0 m 4 ls [.int (kDx d9)]) rfl ?_
  refine lv_istore_n (lv' := [(3, .int (kDx d9)), (0, .ref hd), (1, .int d9), (2, .int q9)]) hx hb dX0_goOn_4 rfl hl (by decide) rfl (fun ls hl => ?_)
  refine lv_iload_n hx hb dX0_goOn_5 rfl (lv_at hl 2 rfl) ?_
  refine k_callS (nn := 1) hC hG (K_X0_northward l hfl D cI cJ cZ cO z mi ((hd, .inr (1, [.ref ho, .ref hwn, .ref hq, .int (nI oc), .int bx, .int by9, .int x, .int y, .int ot, .int tw, .int (kb bg), .int (kb cl)])) :: (ho, .inl (cJ, 41, .inr (.inl (fun i9 => kRow (BO i9))))) :: (hwn, .inl (cJ, 41, .inr (.inl (fun i9 => kRow (BW i9))))) :: (hq, .inl (cI, 10, .inl fQ)) :: rest) d9) gX0_goOn_X0_northward rfl rfl (by decide +kernel) ⟨(Nat.le_of_ble_eq_true rfl), (Nat.le_of_ble_eq_true rfl)⟩ hl.1 rfl (Nat.le_of_ble_eq_true rfl) dX0_goOn_6 ⟨(Nat.le_of_ble_eq_true rfl), (Nat.le_of_ble_eq_true rfl)⟩ (fun _ _ _ _ _ _ hp => hp.elim) (fun v9 u9 H locs hp hG => ?_)
  obtain ⟨rfl, rfl⟩ := hp
  refine W.widen (k := 0) (n := 0) (Nat.le_of_ble_eq_true rfl) (Nat.le_of_ble_eq_true rfl) ?_
  refine W.eq (g2 := F0 m 9 ls [.int (kDy d9)]) rfl ?_
  refine lv_istore (lv' := [(4, .int (kDy d9)), (3, .int (kDx d9)), (0, .ref hd), (1, .int d9), (2, .int q9)]) hx hb dX0_goOn_9 hl (by decide) rfl (fun ls hl => ?_)
  refine lv_iconst (v := 1) hx hb dX0_goOn_11 (by decide) ?_
  refine lv_istore (lv' := [(5, .int 1), (4, .int (kDy d9)), (3, .int (kDx d9)), (0, .ref hd), (1, .int d9), (2, .int q9)]) hx hb dX0_goOn_12 hl (by decide) rfl (fun ls hl => ?_)
  obtain ⟨n9, hn1, hn2, rfl⟩ := kIn_1 hq9
  have hpl : ∀ k, 1 ≤ k → k ≤ n9 → kPl (x + (nI k) * kDx d9) (y + (nI k) * kDy d9) = true := by
    intro k h1 h2
    exact hpl9 k h1 (by rw [nI_clamp (by omega)]; exact h2)
  refine k_loop (σ := Nat) (fun q9 => q9 ≤ n9) (fun q9 => n9 - q9) (fun q9 => (hd, .inr (1, [.ref ho, .ref hwn, .ref hq, .int (nI oc), .int bx, .int by9, .int x, .int y, .int ot, .int tw, .int (kb bg), .int (kb cl)])) :: (ho, .inl (cJ, 41, .inr (.inl (fun i9 => kRow ((kOv BO x y (kDx d9) (kDy d9) q9) i9))))) :: (hwn, .inl (cJ, 41, .inr (.inl (fun i9 => kRow (BW i9))))) :: (hq, .inl (cI, 10, .inl fQ)) :: rest) (fun q9 => [(0, .ref hd), (1, .int d9), (2, .int (nI n9)), (3, .int (kDx d9)), (4, .int (kDy d9)), (5, .int (nI (q9 + 1)))]) 14 [] ?_ 0 (Nat.zero_le _) hG (lv_sub hl [3, 4, 5, 2, 1, 0] rfl)
  intro q9
  obtain ⟨j, rfl⟩ : ∃ z9, z9 = q9 := ⟨_, rfl⟩
  intro hI ih H locs ls hG hl
  have hI : j ≤ n9 := hI
  have hG : kG D A s ((hd, .inr (1, [.ref ho, .ref hwn, .ref hq, .int (nI oc), .int bx, .int by9, .int x, .int y, .int ot, .int tw, .int (kb bg), .int (kb cl)])) :: (ho, .inl (cJ, 41, .inr (.inl (fun i9 => kRow ((kOv BO x y (kDx d9) (kDy d9) j) i9))))) :: (hwn, .inl (cJ, 41, .inr (.inl (fun i9 => kRow (BW i9))))) :: (hq, .inl (cI, 10, .inl fQ)) :: rest) H locs := hG
  have hl : lv_has ls 8 [(0, .ref hd), (1, .int d9), (2, .int (nI n9)), (3, .int (kDx d9)), (4, .int (kDy d9)), (5, .int (nI (j + 1)))] := hl
  refine lv_iload hx hb dX0_goOn_14 (lv_at hl 5 rfl) ?_
  refine lv_iload_n hx hb dX0_goOn_16 rfl (lv_at hl 2 rfl) ?_
  refine k_icmp_gt (tgt := 52) hx hb dX0_goOn_17 (by decide) (fun c_1 => ?_) (fun c_1 => ?_)
  · have hj : j = n9 := by
      rcases Nat.lt_or_ge n9 (j + 1) with h9 | h9
      · omega
      · exact absurd (of_decide_eq_true c_1) (nI_nlt h9 (by omega))
    rw [hj] at hG
    obtain ⟨b, hb9, hy⟩ := kIn_ex40 (kPl_y hpl0)
    obtain ⟨b2, hb2, hy2⟩ := kIn_ex40 (kPl_y (hpl n9 hn1 (Nat.le_refl _)))
    refine lv_aload_n hx hb dX0_goOn_52 rfl (lv_at hl 0 rfl) ?_
    refine k_get (C := RX0) (T := TX0) (N := 12) (ci := 1) (v := .int x) (fs := [.ref ho, .ref hwn, .ref hq, .int (nI oc), .int bx, .int by9, .int x, .int y, .int ot, .int tw, .int (kb bg), .int (kb cl)]) hC hG hi_RX0 0 rfl rfl 6 (by decide) (List.mem_of_getElem? (i := 2) rfl) rfl rfl dX0_goOn_53 ?_
    refine lv_iload_n hx hb dX0_goOn_56 rfl (lv_at hl 2 rfl) ?_
    refine lv_iload_n hx hb dX0_goOn_57 rfl (lv_at hl 3 rfl) ?_
    refine lv_imul hx hb dX0_goOn_58 ?_
    refine lv_iadd hx hb dX0_goOn_59 ?_
    refine lv_istore (lv' := [(5, .int (x + ((nI n9) * (kDx d9)))), (0, .ref hd), (1, .int d9), (2, .int (nI n9)), (3, .int (kDx d9)), (4, .int (kDy d9))]) hx hb dX0_goOn_60 hl (by decide) rfl (fun ls hl => ?_)
    refine lv_aload_n hx hb dX0_goOn_62 rfl (lv_at hl 1 rfl) ?_
    refine k_get (C := RX0) (T := TX0) (N := 12) (ci := 1) (v := .int y) (fs := [.ref ho, .ref hwn, .ref hq, .int (nI oc), .int bx, .int by9, .int x, .int y, .int ot, .int tw, .int (kb bg), .int (kb cl)]) hC hG hi_RX0 0 rfl rfl 7 (by decide) (List.mem_of_getElem? (i := 3) rfl) rfl rfl dX0_goOn_63 ?_
    refine lv_iload_n hx hb dX0_goOn_66 rfl (lv_at hl 3 rfl) ?_
    refine lv_iload hx hb dX0_goOn_67 (lv_at hl 5 rfl) ?_
    refine lv_imul hx hb dX0_goOn_69 ?_
    refine lv_iadd hx hb dX0_goOn_70 ?_
    refine lv_istore (lv' := [(6, .int (y + ((nI n9) * (kDy d9)))), (5, .int (x + ((nI n9) * (kDx d9)))), (0, .ref hd), (1, .int d9), (2, .int (nI n9)), (3, .int (kDx d9)), (4, .int (kDy d9))]) hx hb dX0_goOn_71 hl (by decide) rfl (fun ls hl => ?_)
    refine lv_aload_n hx hb dX0_goOn_73 rfl (lv_at hl 2 rfl) ?_
    refine k_get (C := RX0) (T := TX0) (N := 12) (ci := 1) (v := .int y) (fs := [.ref ho, .ref hwn, .ref hq, .int (nI oc), .int bx, .int by9, .int x, .int y, .int ot, .int tw, .int (kb bg), .int (kb cl)]) hC hG hi_RX0 0 rfl rfl 7 (by decide) (List.mem_of_getElem? (i := 3) rfl) rfl rfl dX0_goOn_74 ?_
    refine lv_iload hx hb dX0_goOn_77 (lv_at hl 0 rfl) ?_
    refine va_mmin hx hb (hC.nl.trans hl.1.symm) hC.o (hC.t _ (List.mem_of_getElem? (i := 4) rfl)) (hC.t _ (List.mem_of_getElem? (i := 5) rfl)) (hC.t _ (List.mem_of_getElem? (i := 6) rfl)) (hC.t _ (List.mem_of_getElem? (i := 7) rfl)) (Nat.le_of_ble_eq_true rfl) (Nat.le_of_ble_eq_true rfl) (Nat.le_of_ble_eq_true rfl) (Nat.le_of_ble_eq_true rfl) dX0_goOn_79 ?_
    refine k_topi (y := nI (min b b2)) (by rw [hy2, hy]; exact kMinI hb9 hb2) ?_
    refine lv_istore (lv' := [(7, .int (nI (min b b2))), (6, .int (y + ((nI n9) * (kDy d9)))), (5, .int (x + ((nI n9) * (kDx d9)))), (0, .ref hd), (1, .int d9), (2, .int (nI n9)), (3, .int (kDx d9)), (4, .int (kDy d9))]) hx hb dX0_goOn_82 hl (by decide) rfl (fun ls hl => ?_)
    refine k_loop (σ := Nat) (fun q9 => min b b2 + q9 ≤ max b b2) (fun q9 => max b b2 - q9) (fun q9 => (hd, .inr (1, [.ref ho, .ref hwn, .ref hq, .int (nI oc), .int bx, .int by9, .int x, .int y, .int ot, .int tw, .int (kb bg), .int (kb cl)])) :: (ho, .inl (cJ, 41, .inr (.inl (fun i9 => kRow ((kOv BO x y (kDx d9) (kDy d9) n9) i9))))) :: (hwn, .inl (cJ, 41, .inr (.inl (fun i9 => kRow ((kWv BW x.toNatClampNeg (min b b2) q9) i9))))) :: (hq, .inl (cI, 10, .inl fQ)) :: rest) (fun q9 => [(0, .ref hd), (2, .int (nI n9)), (5, .int (x + ((nI n9) * (kDx d9)))), (6, .int (y + ((nI n9) * (kDy d9)))), (7, .int (nI (min b b2 + q9)))]) 84 [] ?_ 0 (by show min b b2 + 0 ≤ max b b2; omega) hG (lv_sub hl [3, 5, 2, 1, 0] rfl)
    intro q9
    obtain ⟨k, rfl⟩ : ∃ z9, z9 = q9 := ⟨_, rfl⟩
    intro hI ih H locs ls hG hl
    have hI : min b b2 + k ≤ max b b2 := hI
    have hG : kG D A s ((hd, .inr (1, [.ref ho, .ref hwn, .ref hq, .int (nI oc), .int bx, .int by9, .int x, .int y, .int ot, .int tw, .int (kb bg), .int (kb cl)])) :: (ho, .inl (cJ, 41, .inr (.inl (fun i9 => kRow ((kOv BO x y (kDx d9) (kDy d9) n9) i9))))) :: (hwn, .inl (cJ, 41, .inr (.inl (fun i9 => kRow ((kWv BW x.toNatClampNeg (min b b2) k) i9))))) :: (hq, .inl (cI, 10, .inl fQ)) :: rest) H locs := hG
    have hl : lv_has ls 8 [(0, .ref hd), (2, .int (nI n9)), (5, .int (x + ((nI n9) * (kDx d9)))), (6, .int (y + ((nI n9) * (kDy d9)))), (7, .int (nI (min b b2 + k)))] := hl
    refine lv_iload hx hb dX0_goOn_84 (lv_at hl 4 rfl) ?_
    refine lv_aload_n hx hb dX0_goOn_86 rfl (lv_at hl 0 rfl) ?_
    refine k_get (C := RX0) (T := TX0) (N := 12) (ci := 1) (v := .int y) (fs := [.ref ho, .ref hwn, .ref hq, .int (nI oc), .int bx, .int by9, .int x, .int y, .int ot, .int tw, .int (kb bg), .int (kb cl)]) hC hG hi_RX0 0 rfl rfl 7 (by decide) (List.mem_of_getElem? (i := 3) rfl) rfl rfl dX0_goOn_87 ?_
    refine lv_iload hx hb dX0_goOn_90 (lv_at hl 3 rfl) ?_
    refine va_mmax hx hb (hC.nl.trans hl.1.symm) hC.o (hC.t _ (List.mem_of_getElem? (i := 8) rfl)) (hC.t _ (List.mem_of_getElem? (i := 9) rfl)) (hC.t _ (List.mem_of_getElem? (i := 6) rfl)) (hC.t _ (List.mem_of_getElem? (i := 10) rfl)) (Nat.le_of_ble_eq_true rfl) (Nat.le_of_ble_eq_true rfl) (Nat.le_of_ble_eq_true rfl) (Nat.le_of_ble_eq_true rfl) dX0_goOn_92 ?_
    refine k_topi (y := nI (max b b2)) (by rw [hy2, hy]; exact kMaxI hb9 hb2) ?_
    refine k_icmp_ge (tgt := 117) hx hb dX0_goOn_95 (by decide) (fun c_2 => ?_) (fun c_2 => ?_)
    · have hk : k = max b b2 - min b b2 := by
        rcases Nat.lt_or_ge (min b b2 + k) (max b b2) with h9 | h9
        · exact absurd (of_decide_eq_true c_2) (nI_ge h9 (by omega))
        · omega
      have hgw : kWv BW x.toNatClampNeg (min b b2) k = kGw BW x y (y + ((nI n9) * (kDy d9))) := by
        unfold kGw
        rw [hy2, hy, nI_clamp (by omega), nI_clamp (by omega), hk]
      rw [hgw] at hG
      refine lv_aload_n hx hb dX0_goOn_117 rfl (lv_at hl 0 rfl) ?_
      refine lv_dup hx hb dX0_goOn_118 rfl ?_
      refine k_get (C := RX0) (T := TX0) (N := 12) (ci := 1) (v := .int tw) (fs := [.ref ho, .ref hwn, .ref hq, .int (nI oc), .int bx, .int by9, .int x, .int y, .int ot, .int tw, .int (kb bg), .int (kb cl)]) hC hG hi_RX0 0 rfl rfl 9 (by decide) (List.mem_of_getElem? (i := 12) rfl) rfl rfl dX0_goOn_119 ?_
      refine lv_aload_n hx hb dX0_goOn_122 rfl (lv_at hl 0 rfl) ?_
      refine k_get (C := RX0) (T := TX0) (N := 12) (ci := 1) (v := .int x) (fs := [.ref ho, .ref hwn, .ref hq, .int (nI oc), .int bx, .int by9, .int x, .int y, .int ot, .int tw, .int (kb bg), .int (kb cl)]) hC hG hi_RX0 0 rfl rfl 6 (by decide) (List.mem_of_getElem? (i := 2) rfl) rfl rfl dX0_goOn_123 ?_
      refine lv_iload hx hb dX0_goOn_126 (lv_at hl 3 rfl) ?_
      refine lv_imul hx hb dX0_goOn_128 ?_
      refine lv_iload hx hb dX0_goOn_129 (lv_at hl 2 rfl) ?_
      refine lv_aload_n hx hb dX0_goOn_131 rfl (lv_at hl 0 rfl) ?_
      refine k_get (C := RX0) (T := TX0) (N := 12) (ci := 1) (v := .int y) (fs := [.ref ho, .ref hwn, .ref hq, .int (nI oc), .int bx, .int by9, .int x, .int y, .int ot, .int tw, .int (kb bg), .int (kb cl)]) hC hG hi_RX0 0 rfl rfl 7 (by decide) (List.mem_of_getElem? (i := 3) rfl) rfl rfl dX0_goOn_132 ?_
      refine lv_imul hx hb dX0_goOn_135 ?_
      refine lv_isub hx hb dX0_goOn_136 ?_
      refine lv_iadd hx hb dX0_goOn_137 ?_
      refine k_put (C := RX0) (T := TX0) (N := 12) (ci := 1) (v := .int (tw + ((x * (y + ((nI n9) * (kDy d9)))) - ((x + ((nI n9) * (kDx d9))) * y)))) (fs := [.ref ho, .ref hwn, .ref hq, .int (nI oc), .int bx, .int by9, .int x, .int y, .int ot, .int tw, .int (kb bg), .int (kb cl)]) hC hG hi_RX0 tyX0_ok nmX0 0 rfl rfl 9 (by decide) (List.mem_of_getElem? (i := 12) rfl) rfl rfl rfl rfl (Nat.le_of_ble_eq_true rfl) dX0_goOn_138 (fun H locs hG => ?_)
      have hG : kG D A s ((hd, .inr (1, [.ref ho, .ref hwn, .ref hq, .int (nI oc), .int bx, .int by9, .int x, .int y, .int ot, .int (tw + ((x * (y + ((nI n9) * (kDy d9)))) - ((x + ((nI n9) * (kDx d9))) * y))), .int (kb bg), .int (kb cl)])) :: (ho, .inl (cJ, 41, .inr (.inl (fun i9 => kRow ((kOv BO x y (kDx d9) (kDy d9) n9) i9))))) :: (hwn, .inl (cJ, 41, .inr (.inl (fun i9 => kRow ((kGw BW x y (y + ((nI n9) * (kDy d9)))) i9))))) :: (hq, .inl (cI, 10, .inl fQ)) :: rest) H locs := hG
      refine lv_aload_n hx hb dX0_goOn_141 rfl (lv_at hl 0 rfl) ?_
      refine lv_dup hx hb dX0_goOn_142 rfl ?_
      refine k_get (C := RX0) (T := TX0) (N := 12) (ci := 1) (v := .int ot) (fs := [.ref ho, .ref hwn, .ref hq, .int (nI oc), .int bx, .int by9, .int x, .int y, .int ot, .int (tw + ((x * (y + ((nI n9) * (kDy d9)))) - ((x + ((nI n9) * (kDx d9))) * y))), .int (kb bg), .int (kb cl)]) hC hG hi_RX0 0 rfl rfl 8 (by decide) (List.mem_of_getElem? (i := 13) rfl) rfl rfl dX0_goOn_143 ?_
      refine lv_iload_n hx hb dX0_goOn_146 rfl (lv_at hl 1 rfl) ?_
      refine lv_iadd hx hb dX0_goOn_147 ?_
      refine k_put (C := RX0) (T := TX0) (N := 12) (ci := 1) (v := .int (ot + (nI n9))) (fs := [.ref ho, .ref hwn, .ref hq, .int (nI oc), .int bx, .int by9, .int x, .int y, .int ot, .int (tw + ((x * (y + ((nI n9) * (kDy d9)))) - ((x + ((nI n9) * (kDx d9))) * y))), .int (kb bg), .int (kb cl)]) hC hG hi_RX0 tyX0_ok nmX0 0 rfl rfl 8 (by decide) (List.mem_of_getElem? (i := 13) rfl) rfl rfl rfl rfl (Nat.le_of_ble_eq_true rfl) dX0_goOn_148 (fun H locs hG => ?_)
      have hG : kG D A s ((hd, .inr (1, [.ref ho, .ref hwn, .ref hq, .int (nI oc), .int bx, .int by9, .int x, .int y, .int (ot + (nI n9)), .int (tw + ((x * (y + ((nI n9) * (kDy d9)))) - ((x + ((nI n9) * (kDx d9))) * y))), .int (kb bg), .int (kb cl)])) :: (ho, .inl (cJ, 41, .inr (.inl (fun i9 => kRow ((kOv BO x y (kDx d9) (kDy d9) n9) i9))))) :: (hwn, .inl (cJ, 41, .inr (.inl (fun i9 => kRow ((kGw BW x y (y + ((nI n9) * (kDy d9)))) i9))))) :: (hq, .inl (cI, 10, .inl fQ)) :: rest) H locs := hG
      refine lv_aload_n hx hb dX0_goOn_151 rfl (lv_at hl 0 rfl) ?_
      refine lv_iload hx hb dX0_goOn_152 (lv_at hl 2 rfl) ?_
      refine k_put (C := RX0) (T := TX0) (N := 12) (ci := 1) (v := .int (x + ((nI n9) * (kDx d9)))) (fs := [.ref ho, .ref hwn, .ref hq, .int (nI oc), .int bx, .int by9, .int x, .int y, .int (ot + (nI n9)), .int (tw + ((x * (y + ((nI n9) * (kDy d9)))) - ((x + ((nI n9) * (kDx d9))) * y))), .int (kb bg), .int (kb cl)]) hC hG hi_RX0 tyX0_ok nmX0 0 rfl rfl 6 (by decide) (List.mem_of_getElem? (i := 2) rfl) rfl rfl rfl rfl (Nat.le_of_ble_eq_true rfl) dX0_goOn_154 (fun H locs hG => ?_)
      have hG : kG D A s ((hd, .inr (1, [.ref ho, .ref hwn, .ref hq, .int (nI oc), .int bx, .int by9, .int (x + ((nI n9) * (kDx d9))), .int y, .int (ot + (nI n9)), .int (tw + ((x * (y + ((nI n9) * (kDy d9)))) - ((x + ((nI n9) * (kDx d9))) * y))), .int (kb bg), .int (kb cl)])) :: (ho, .inl (cJ, 41, .inr (.inl (fun i9 => kRow ((kOv BO x y (kDx d9) (kDy d9) n9) i9))))) :: (hwn, .inl (cJ, 41, .inr (.inl (fun i9 => kRow ((kGw BW x y (y + ((nI n9) * (kDy d9)))) i9))))) :: (hq, .inl (cI, 10, .inl fQ)) :: rest) H locs := hG
      refine lv_aload_n hx hb dX0_goOn_157 rfl (lv_at hl 0 rfl) ?_
      refine lv_iload hx hb dX0_goOn_158 (lv_at hl 3 rfl) ?_
      refine k_put (C := RX0) (T := TX0) (N := 12) (ci := 1) (v := .int (y + ((nI n9) * (kDy d9)))) (fs := [.ref ho, .ref hwn, .ref hq, .int (nI oc), .int bx, .int by9, .int (x + ((nI n9) * (kDx d9))), .int y, .int (ot + (nI n9)), .int (tw + ((x * (y + ((nI n9) * (kDy d9)))) - ((x + ((nI n9) * (kDx d9))) * y))), .int (kb bg), .int (kb cl)]) hC hG hi_RX0 tyX0_ok nmX0 0 rfl rfl 7 (by decide) (List.mem_of_getElem? (i := 3) rfl) rfl rfl rfl rfl (Nat.le_of_ble_eq_true rfl) dX0_goOn_160 (fun H locs hG => ?_)
      have hG : kG D A s ((hd, .inr (1, [.ref ho, .ref hwn, .ref hq, .int (nI oc), .int bx, .int by9, .int (x + ((nI n9) * (kDx d9))), .int (y + ((nI n9) * (kDy d9))), .int (ot + (nI n9)), .int (tw + ((x * (y + ((nI n9) * (kDy d9)))) - ((x + ((nI n9) * (kDx d9))) * y))), .int (kb bg), .int (kb cl)])) :: (ho, .inl (cJ, 41, .inr (.inl (fun i9 => kRow ((kOv BO x y (kDx d9) (kDy d9) n9) i9))))) :: (hwn, .inl (cJ, 41, .inr (.inl (fun i9 => kRow ((kGw BW x y (y + ((nI n9) * (kDy d9)))) i9))))) :: (hq, .inl (cI, 10, .inl fQ)) :: rest) H locs := hG
      refine lv_aload_n hx hb dX0_goOn_163 rfl (lv_at hl 0 rfl) ?_
      refine lv_aload_n hx hb dX0_goOn_164 rfl (lv_at hl 0 rfl) ?_
      refine k_get (C := RX0) (T := TX0) (N := 12) (ci := 1) (v := .int (x + ((nI n9) * (kDx d9)))) (fs := [.ref ho, .ref hwn, .ref hq, .int (nI oc), .int bx, .int by9, .int (x + ((nI n9) * (kDx d9))), .int (y + ((nI n9) * (kDy d9))), .int (ot + (nI n9)), .int (tw + ((x * (y + ((nI n9) * (kDy d9)))) - ((x + ((nI n9) * (kDx d9))) * y))), .int (kb bg), .int (kb cl)]) hC hG hi_RX0 0 rfl rfl 6 (by decide) (List.mem_of_getElem? (i := 2) rfl) rfl rfl dX0_goOn_165 ?_
      refine lv_aload_n hx hb dX0_goOn_168 rfl (lv_at hl 0 rfl) ?_
      refine k_get (C := RX0) (T := TX0) (N := 12) (ci := 1) (v := .int bx) (fs := [.ref ho, .ref hwn, .ref hq, .int (nI oc), .int bx, .int by9, .int (x + ((nI n9) * (kDx d9))), .int (y + ((nI n9) * (kDy d9))), .int (ot + (nI n9)), .int (tw + ((x * (y + ((nI n9) * (kDy d9)))) - ((x + ((nI n9) * (kDx d9))) * y))), .int (kb bg), .int (kb cl)]) hC hG hi_RX0 0 rfl rfl 4 (by decide) (List.mem_of_getElem? (i := 14) rfl) rfl rfl dX0_goOn_169 ?_
      refine k_joinH (D := D) (A := A) (fun v5 : Int32 => F0 m 191 ls (.int v5 :: [.ref hd])) (fun v5 => v5 = kb ((decide ((x + ((nI n9) * (kDx d9))) = bx)) && (decide ((y + ((nI n9) * (kDy d9))) = by9)))) ((hd, .inr (1, [.ref ho, .ref hwn, .ref hq, .int (nI oc), .int bx, .int by9, .int (x + ((nI n9) * (kDx d9))), .int (y + ((nI n9) * (kDy d9))), .int (ot + (nI n9)), .int (tw + ((x * (y + ((nI n9) * (kDy d9)))) - ((x + ((nI n9) * (kDx d9))) * y))), .int (kb bg), .int (kb cl)])) :: (ho, .inl (cJ, 41, .inr (.inl (fun i9 => kRow ((kOv BO x y (kDx d9) (kDy d9) n9) i9))))) :: (hwn, .inl (cJ, 41, .inr (.inl (fun i9 => kRow ((kGw BW x y (y + ((nI n9) * (kDy d9)))) i9))))) :: (hq, .inl (cI, 10, .inl fQ)) :: rest) ?_ (fun J4 => ?_)
      · intro v5 ev5 H locs hG
        have ev5 : v5 = kb ((decide ((x + ((nI n9) * (kDx d9))) = bx)) && (decide ((y + ((nI n9) * (kDy d9))) = by9))) := ev5
        subst ev5
        refine k_put (C := RX0) (T := TX0) (N := 12) (ci := 1) (v := .int (kb ((decide ((x + ((nI n9) * (kDx d9))) = bx)) && (decide ((y + ((nI n9) * (kDy d9))) = by9))))) (fs := [.ref ho, .ref hwn, .ref hq, .int (nI oc), .int bx, .int by9, .int (x + ((nI n9) * (kDx d9))), .int (y + ((nI n9) * (kDy d9))), .int (ot + (nI n9)), .int (tw + ((x * (y + ((nI n9) * (kDy d9)))) - ((x + ((nI n9) * (kDx d9))) * y))), .int (kb bg), .int (kb cl)]) hC hG hi_RX0 tyX0_ok nmX0 0 rfl rfl 11 (by decide) (List.mem_of_getElem? (i := 16) rfl) rfl rfl (kb_nar _) (kb_fit _) (Nat.le_of_ble_eq_true rfl) dX0_goOn_191 (fun H locs hG => ?_)
        have hG : kG D A s ((hd, .inr (1, [.ref ho, .ref hwn, .ref hq, .int (nI oc), .int bx, .int by9, .int (x + ((nI n9) * (kDx d9))), .int (y + ((nI n9) * (kDy d9))), .int (ot + (nI n9)), .int (tw + ((x * (y + ((nI n9) * (kDy d9)))) - ((x + ((nI n9) * (kDx d9))) * y))), .int (kb bg), .int (kb ((decide ((x + ((nI n9) * (kDx d9))) = bx)) && (decide ((y + ((nI n9) * (kDy d9))) = by9))))])) :: (ho, .inl (cJ, 41, .inr (.inl (fun i9 => kRow ((kOv BO x y (kDx d9) (kDy d9) n9) i9))))) :: (hwn, .inl (cJ, 41, .inr (.inl (fun i9 => kRow ((kGw BW x y (y + ((nI n9) * (kDy d9)))) i9))))) :: (hq, .inl (cI, 10, .inl fQ)) :: rest) H locs := hG
        exact k_retv hC hr hG ⟨rfl, by rw [nI_clamp (by omega)]⟩ (Nat.le_of_ble_eq_true rfl) (Nat.le_of_ble_eq_true rfl) dX0_goOn_194
      refine k_icmp_ne (tgt := 190) hx hb dX0_goOn_172 (by decide) (fun c_3 => ?_) (fun c_3 => ?_)
      · refine lv_iconst (v := 0) hx hb dX0_goOn_190 (by decide) ?_
        exact J4 0 (by rw [c_3]; first | done | rfl) _ _ hG
      · refine lv_aload_n hx hb dX0_goOn_175 rfl (lv_at hl 0 rfl) ?_
        refine k_get (C := RX0) (T := TX0) (N := 12) (ci := 1) (v := .int (y + ((nI n9) * (kDy d9)))) (fs := [.ref ho, .ref hwn, .ref hq, .int (nI oc), .int bx, .int by9, .int (x + ((nI n9) * (kDx d9))), .int (y + ((nI n9) * (kDy d9))), .int (ot + (nI n9)), .int (tw + ((x * (y + ((nI n9) * (kDy d9)))) - ((x + ((nI n9) * (kDx d9))) * y))), .int (kb bg), .int (kb cl)]) hC hG hi_RX0 0 rfl rfl 7 (by decide) (List.mem_of_getElem? (i := 3) rfl) rfl rfl dX0_goOn_176 ?_
        refine lv_aload_n hx hb dX0_goOn_179 rfl (lv_at hl 0 rfl) ?_
        refine k_get (C := RX0) (T := TX0) (N := 12) (ci := 1) (v := .int by9) (fs := [.ref ho, .ref hwn, .ref hq, .int (nI oc), .int bx, .int by9, .int (x + ((nI n9) * (kDx d9))), .int (y + ((nI n9) * (kDy d9))), .int (ot + (nI n9)), .int (tw + ((x * (y + ((nI n9) * (kDy d9)))) - ((x + ((nI n9) * (kDx d9))) * y))), .int (kb bg), .int (kb cl)]) hC hG hi_RX0 0 rfl rfl 5 (by decide) (List.mem_of_getElem? (i := 15) rfl) rfl rfl dX0_goOn_180 ?_
        refine k_icmp_ne (tgt := 190) hx hb dX0_goOn_183 (by decide) (fun c_6 => ?_) (fun c_6 => ?_)
        · refine lv_iconst (v := 0) hx hb dX0_goOn_190 (by decide) ?_
          exact J4 0 (by rw [c_6, c_3]; first | done | rfl) _ _ hG
        · refine lv_iconst (v := 1) hx hb dX0_goOn_186 (by decide) ?_
          refine lv_goto (tgt := 191) hx hb dX0_goOn_187 (by decide) ?_
          exact J4 1 (by rw [c_6, c_3]; first | done | rfl) _ _ hG
    · have hk : min b b2 + k < max b b2 := by
        rcases Nat.lt_or_ge (min b b2 + k) (max b b2) with h9 | h9
        · exact h9
        · exact absurd (nI_le h9 (by omega)) (of_decide_eq_false c_2)
      refine lv_aload_n hx hb dX0_goOn_98 rfl (lv_at hl 0 rfl) ?_
      refine k_get (C := RX0) (T := TX0) (N := 12) (ci := 1) (v := .ref hwn) (fs := [.ref ho, .ref hwn, .ref hq, .int (nI oc), .int bx, .int by9, .int x, .int y, .int ot, .int tw, .int (kb bg), .int (kb cl)]) hC hG hi_RX0 0 rfl rfl 1 (by decide) (List.mem_of_getElem? (i := 11) rfl) rfl rfl dX0_goOn_99 ?_
      refine lv_aload_n hx hb dX0_goOn_102 rfl (lv_at hl 0 rfl) ?_
      refine k_get (C := RX0) (T := TX0) (N := 12) (ci := 1) (v := .int x) (fs := [.ref ho, .ref hwn, .ref hq, .int (nI oc), .int bx, .int by9, .int x, .int y, .int ot, .int tw, .int (kb bg), .int (kb cl)]) hC hG hi_RX0 0 rfl rfl 6 (by decide) (List.mem_of_getElem? (i := 2) rfl) rfl rfl dX0_goOn_103 ?_
      refine lv_iload hx hb dX0_goOn_106 (lv_at hl 4 rfl) ?_
      refine k_callS (nn := 3) hC hG (K_X0_mark l hfl D cI cJ cZ cO z mi ((hd, .inr (1, [.ref ho, .ref hwn, .ref hq, .int (nI oc), .int bx, .int by9, .int x, .int y, .int ot, .int tw, .int (kb bg), .int (kb cl)])) :: (ho, .inl (cJ, 41, .inr (.inl (fun i9 => kRow ((kOv BO x y (kDx d9) (kDy d9) n9) i9))))) :: (hwn, .inl (cJ, 41, .inr (.inl (fun i9 => kRow ((kWv BW x.toNatClampNeg (min b b2) k) i9))))) :: (hq, .inl (cI, 10, .inl fQ)) :: rest) 2 hwn (kWv BW x.toNatClampNeg (min b b2) k) x (nI (min b b2 + k)) (kPl_xn (kPl_x hpl0) (by omega)) rfl) gX0_goOn_X0_mark rfl rfl (by decide +kernel) ⟨(Nat.le_of_ble_eq_true rfl), (Nat.le_of_ble_eq_true rfl)⟩ hl.1 rfl (Nat.le_of_ble_eq_true rfl) dX0_goOn_108 ⟨(Nat.le_of_ble_eq_true rfl), (Nat.le_of_ble_eq_true rfl)⟩ (fun _ _ _ _ _ _ hp => hp.elim) (fun v9 u9 H locs hp hG => ?_)
      obtain ⟨rfl, rfl⟩ := hp
      have hG : kG D A s ((hd, .inr (1, [.ref ho, .ref hwn, .ref hq, .int (nI oc), .int bx, .int by9, .int x, .int y, .int ot, .int tw, .int (kb bg), .int (kb cl)])) :: (ho, .inl (cJ, 41, .inr (.inl (fun i9 => kRow ((kOv BO x y (kDx d9) (kDy d9) n9) i9))))) :: (hwn, .inl (cJ, 41, .inr (.inl (fun i9 => kRow (kSt2 (kWv BW x.toNatClampNeg (min b b2) k) x.toNatClampNeg (nI (min b b2 + k)).toNatClampNeg i9))))) :: (hq, .inl (cI, 10, .inl fQ)) :: rest) H locs := hG
      refine W.widen (k := 0) (n := 0) (Nat.le_of_ble_eq_true rfl) (Nat.le_of_ble_eq_true rfl) ?_
      refine W.eq (g2 := F0 m 111 ls []) rfl ?_
      refine lv_iinc (v := (nI (min b b2 + k)) + 1) (lv' := [(7, .int ((nI (min b b2 + k)) + 1)), (0, .ref hd), (2, .int (nI n9)), (5, .int (x + ((nI n9) * (kDx d9)))), (6, .int (y + ((nI n9) * (kDy d9))))]) hx hb dX0_goOn_111 hl (k := 4) rfl rfl (by decide) rfl (fun ls hl => ?_)
      refine lv_goto (tgt := 84) hx hb dX0_goOn_114 (by decide) ?_
      rw [nI_1] at hl
      rw [nI_clamp (n := min b b2 + k) (by omega)] at hG
      exact ih (k + 1) (by show min b b2 + (k + 1) ≤ max b b2; omega) (by show max b b2 - (k + 1) < max b b2 - k; omega) _ _ _ hG (lv_sub hl [1, 2, 3, 4, 0] rfl)
  · have hj : j + 1 ≤ n9 := by
      rcases Nat.lt_or_ge n9 (j + 1) with h9 | h9
      · exact absurd (nI_lt h9 (by omega)) (of_decide_eq_false c_1)
      · exact h9
    refine lv_aload_n hx hb dX0_goOn_20 rfl (lv_at hl 0 rfl) ?_
    refine k_get (C := RX0) (T := TX0) (N := 12) (ci := 1) (v := .ref ho) (fs := [.ref ho, .ref hwn, .ref hq, .int (nI oc), .int bx, .int by9, .int x, .int y, .int ot, .int tw, .int (kb bg), .int (kb cl)]) hC hG hi_RX0 0 rfl rfl 0 (by decide) (List.mem_of_getElem? (i := 1) rfl) rfl rfl dX0_goOn_21 ?_
    refine lv_aload_n hx hb dX0_goOn_24 rfl (lv_at hl 0 rfl) ?_
    refine k_get (C := RX0) (T := TX0) (N := 12) (ci := 1) (v := .int x) (fs := [.ref ho, .ref hwn, .ref hq, .int (nI oc), .int bx, .int by9, .int x, .int y, .int ot, .int tw, .int (kb bg), .int (kb cl)]) hC hG hi_RX0 0 rfl rfl 6 (by decide) (List.mem_of_getElem? (i := 2) rfl) rfl rfl dX0_goOn_25 ?_
    refine lv_iload hx hb dX0_goOn_28 (lv_at hl 5 rfl) ?_
    refine lv_iload_n hx hb dX0_goOn_30 rfl (lv_at hl 3 rfl) ?_
    refine lv_imul hx hb dX0_goOn_31 ?_
    refine lv_iadd hx hb dX0_goOn_32 ?_
    refine lv_aload_n hx hb dX0_goOn_33 rfl (lv_at hl 0 rfl) ?_
    refine k_get (C := RX0) (T := TX0) (N := 12) (ci := 1) (v := .int y) (fs := [.ref ho, .ref hwn, .ref hq, .int (nI oc), .int bx, .int by9, .int x, .int y, .int ot, .int tw, .int (kb bg), .int (kb cl)]) hC hG hi_RX0 0 rfl rfl 7 (by decide) (List.mem_of_getElem? (i := 3) rfl) rfl rfl dX0_goOn_34 ?_
    refine lv_iload hx hb dX0_goOn_37 (lv_at hl 5 rfl) ?_
    refine lv_iload hx hb dX0_goOn_39 (lv_at hl 4 rfl) ?_
    refine lv_imul hx hb dX0_goOn_41 ?_
    refine lv_iadd hx hb dX0_goOn_42 ?_
    refine k_callS (nn := 3) hC hG (K_X0_mark l hfl D cI cJ cZ cO z mi ((hd, .inr (1, [.ref ho, .ref hwn, .ref hq, .int (nI oc), .int bx, .int by9, .int x, .int y, .int ot, .int tw, .int (kb bg), .int (kb cl)])) :: (ho, .inl (cJ, 41, .inr (.inl (fun i9 => kRow ((kOv BO x y (kDx d9) (kDy d9) j) i9))))) :: (hwn, .inl (cJ, 41, .inr (.inl (fun i9 => kRow (BW i9))))) :: (hq, .inl (cI, 10, .inl fQ)) :: rest) 1 ho (kOv BO x y (kDx d9) (kDy d9) j) (x + ((nI (j + 1)) * (kDx d9))) (y + ((nI (j + 1)) * (kDy d9))) (hpl (j + 1) (by omega) hj) rfl) gX0_goOn_X0_mark rfl rfl (by decide +kernel) ⟨(Nat.le_of_ble_eq_true rfl), (Nat.le_of_ble_eq_true rfl)⟩ hl.1 rfl (Nat.le_of_ble_eq_true rfl) dX0_goOn_43 ⟨(Nat.le_of_ble_eq_true rfl), (Nat.le_of_ble_eq_true rfl)⟩ (fun _ _ _ _ _ _ hp => hp.elim) (fun v9 u9 H locs hp hG => ?_)
    obtain ⟨rfl, rfl⟩ := hp
    have hG : kG D A s ((hd, .inr (1, [.ref ho, .ref hwn, .ref hq, .int (nI oc), .int bx, .int by9, .int x, .int y, .int ot, .int tw, .int (kb bg), .int (kb cl)])) :: (ho, .inl (cJ, 41, .inr (.inl (fun i9 => kRow (kSt2 (kOv BO x y (kDx d9) (kDy d9) j) (x + ((nI (j + 1)) * (kDx d9))).toNatClampNeg (y + ((nI (j + 1)) * (kDy d9))).toNatClampNeg i9))))) :: (hwn, .inl (cJ, 41, .inr (.inl (fun i9 => kRow (BW i9))))) :: (hq, .inl (cI, 10, .inl fQ)) :: rest) H locs := hG
    refine W.widen (k := 0) (n := 0) (Nat.le_of_ble_eq_true rfl) (Nat.le_of_ble_eq_true rfl) ?_
    refine W.eq (g2 := F0 m 46 ls []) rfl ?_
    refine lv_iinc (v := (nI (j + 1)) + 1) (lv' := [(5, .int ((nI (j + 1)) + 1)), (0, .ref hd), (1, .int d9), (2, .int (nI n9)), (3, .int (kDx d9)), (4, .int (kDy d9))]) hx hb dX0_goOn_46 hl (k := 5) rfl rfl (by decide) rfl (fun ls hl => ?_)
    refine lv_goto (tgt := 14) hx hb dX0_goOn_49 (by decide) ?_
    rw [nI_1] at hl
    exact ih (j + 1) (show j + 1 ≤ n9 from hj) (by show n9 - (j + 1) < n9 - j; omega) _ _ _ hG (lv_sub hl [1, 2, 3, 4, 5, 0] rfl)

