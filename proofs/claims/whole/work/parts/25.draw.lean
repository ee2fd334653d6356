set_option maxHeartbeats 4000000 in
set_option maxRecDepth 100000 in
/-- isPlace -/
theorem K_X0_isPlace (l : Launch) (hfl : l.stackTraces = false) (D : va_G) (cI cJ cZ cO : ClassId) (z mi : Nat) (ws : va_W) (x y : Int32) : kM l D (kTy cI cJ cZ cO) z mi yX0_isPlace wsX0_isPlace ({ frames := 0, cells := 0, slots := 0, locals := 0 } : Room) [.int x, .int y] (ws) (fun v u => v = some (.int (kb (kPl x y))) ∧ u = ws) (fun _ _ => False) := by
  refine kM.of hfl (cc := cX0_isPlace) (maxL := 2) (ret := (some .boolean)) (by decide) rfl (Nat.le_of_ble_eq_true rfl) ?_
  intro p e s m args below meth c A ls hC hr hmn hG hl
  have hx := hC.x
  have hb := hC.b
  have hl : lv_has ls 2 [(0, .int x), (1, .int y)] := hl
  refine lv_iload_n hx hb dX0_isPlace_0 rfl (lv_at hl 0 rfl) ?_
  refine k_joinH (D := D) (A := A) (fun v3 : Int32 => F0 m 25 ls (.int v3 :: [])) (fun v3 => v3 = kb (!(decide (x < (0 : Int32))) && (!(decide (40 < x)) && (!(decide (y < (0 : Int32))) && (!(decide (40 < y))))))) (ws) ?_ (fun J2 => ?_)
  · intro v3 ev3 H locs hG
    have ev3 : v3 = kb (!(decide (x < (0 : Int32))) && (!(decide (40 < x)) && (!(decide (y < (0 : Int32))) && (!(decide (40 < y)))))) := ev3
    subst ev3
    exact k_retz hC hr hG (kb_nar _) ⟨by unfold kPl kIn; simp [Bool.and_assoc], rfl⟩ (Nat.le_of_ble_eq_true rfl) (Nat.le_of_ble_eq_true rfl) dX0_isPlace_25
  refine k_if_lt (tgt := 24) hx hb dX0_isPlace_1 (by decide) (fun c_1 => ?_) (fun c_1 => ?_)
  · refine lv_iconst (v := 0) hx hb dX0_isPlace_24 (by decide) ?_
    exact J2 0 (by rw [c_1]; first | done | rfl) _ _ hG
  · refine lv_iload_n hx hb dX0_isPlace_4 rfl (lv_at hl 0 rfl) ?_
    refine lv_bipush (v := 40) hx hb dX0_isPlace_5 (by decide) ?_
    refine k_icmp_gt (tgt := 24) hx hb dX0_isPlace_7 (by decide) (fun c_4 => ?_) (fun c_4 => ?_)
    · refine lv_iconst (v := 0) hx hb dX0_isPlace_24 (by decide) ?_
      exact J2 0 (by rw [c_4, c_1]; first | done | rfl) _ _ hG
    · refine lv_iload_n hx hb dX0_isPlace_10 rfl (lv_at hl 1 rfl) ?_
      refine k_if_lt (tgt := 24) hx hb dX0_isPlace_11 (by decide) (fun c_5 => ?_) (fun c_5 => ?_)
      · refine lv_iconst (v := 0) hx hb dX0_isPlace_24 (by decide) ?_
        exact J2 0 (by rw [c_5, c_4, c_1]; first | done | rfl) _ _ hG
      · refine lv_iload_n hx hb dX0_isPlace_14 rfl (lv_at hl 1 rfl) ?_
        refine lv_bipush (v := 40) hx hb dX0_isPlace_15 (by decide) ?_
        refine k_icmp_gt (tgt := 24) hx hb dX0_isPlace_17 (by decide) (fun c_6 => ?_) (fun c_6 => ?_)
        · refine lv_iconst (v := 0) hx hb dX0_isPlace_24 (by decide) ?_
          exact J2 0 (by rw [c_6, c_5, c_4, c_1]; first | done | rfl) _ _ hG
        · refine lv_iconst (v := 1) hx hb dX0_isPlace_20 (by decide) ?_
          refine lv_goto (tgt := 25) hx hb dX0_isPlace_21 (by decide) ?_
          exact J2 1 (by rw [c_6, c_5, c_4, c_1]; first | done | rfl) _ _ hG

set_option maxHeartbeats 4000000 in
set_option maxRecDepth 100000 in
/-- eastward -/
theorem K_X0_eastward (l : Launch) (hfl : l.stackTraces = false) (D : va_G) (cI cJ cZ cO : ClassId) (z mi : Nat) (ws : va_W) (d : Int32) : kM l D (kTy cI cJ cZ cO) z mi yX0_eastward wsX0_eastward ({ frames := 0, cells := 0, slots := 0, locals := 0 } : Room) [.int d] (ws) (fun v u => v = some (.int (kDx d)) ∧ u = ws) (fun _ _ => False) := by
  refine kM.of hfl (cc := cX0_eastward) (maxL := 1) (ret := (some .int)) (by decide) rfl (Nat.le_of_ble_eq_true rfl) ?_
  intro p e s m args below meth c A ls hC hr hmn hG hl
  have hx := hC.x
  have hb := hC.b
  have hl : lv_has ls 1 [(0, .int d)] := hl
  refine lv_iload_n hx hb dX0_eastward_0 rfl (lv_at hl 0 rfl) ?_
  refine k_joinH (D := D) (A := A) (fun v3 : Int32 => F0 m 18 ls (.int v3 :: [])) (fun v3 => v3 = bif decide (d = (0 : Int32)) then 1 else (bif decide (d = 2) then (-1) else 0)) (ws) ?_ (fun J2 => ?_)
  · intro v3 ev3 H locs hG
    have ev3 : v3 = bif decide (d = (0 : Int32)) then 1 else (bif decide (d = 2) then (-1) else 0) := ev3
    subst ev3
    exact k_reti hC hr hG ⟨rfl, rfl⟩ (Nat.le_of_ble_eq_true rfl) (Nat.le_of_ble_eq_true rfl) dX0_eastward_18
  refine k_if_ne (tgt := 8) hx hb dX0_eastward_1 (by decide) (fun c_1 => ?_) (fun c_1 => ?_)
  · refine lv_iload_n hx hb dX0_eastward_8 rfl (lv_at hl 0 rfl) ?_
    refine lv_iconst (v := 2) hx hb dX0_eastward_9 (by decide) ?_
    refine k_icmp_ne (tgt := 17) hx hb dX0_eastward_10 (by decide) (fun c_4 => ?_) (fun c_4 => ?_)
    · refine lv_iconst (v := 0) hx hb dX0_eastward_17 (by decide) ?_
      exact J2 0 (by rw [c_4, c_1]; first | done | rfl) _ _ hG
    · refine lv_iconst (v := (-1)) hx hb dX0_eastward_13 (by decide) ?_
      refine lv_goto (tgt := 18) hx hb dX0_eastward_14 (by decide) ?_
      exact J2 (-1) (by rw [c_4, c_1]; first | done | rfl) _ _ hG
  · refine lv_iconst (v := 1) hx hb dX0_eastward_4 (by decide) ?_
    refine lv_goto (tgt := 18) hx hb dX0_eastward_5 (by decide) ?_
    exact J2 1 (by rw [c_1]; first | done | rfl) _ _ hG

set_option maxHeartbeats 4000000 in
set_option maxRecDepth 100000 in
/-- northward -/
theorem K_X0_northward (l : Launch) (hfl : l.stackTraces = false) (D : va_G) (cI cJ cZ cO : ClassId) (z mi : Nat) (ws : va_W) (d : Int32) : kM l D (kTy cI cJ cZ cO) z mi yX0_northward wsX0_northward ({ frames := 0, cells := 0, slots := 0, locals := 0 } : Room) [.int d] (ws) (fun v u => v = some (.int (kDy d)) ∧ u = ws) (fun _ _ => False) := by
  refine kM.of hfl (cc := cX0_northward) (maxL := 1) (ret := (some .int)) (by decide) rfl (Nat.le_of_ble_eq_true rfl) ?_
  intro p e s m args below meth c A ls hC hr hmn hG hl
  have hx := hC.x
  have hb := hC.b
  have hl : lv_has ls 1 [(0, .int d)] := hl
  refine lv_iload_n hx hb dX0_northward_0 rfl (lv_at hl 0 rfl) ?_
  refine lv_iconst (v := 1) hx hb dX0_northward_1 (by decide) ?_
  refine k_joinH (D := D) (A := A) (fun v3 : Int32 => F0 m 19 ls (.int v3 :: [])) (fun v3 => v3 = bif decide (d = 1) then 1 else (bif decide (d = 3) then (-1) else 0)) (ws) ?_ (fun J2 => ?_)
  · intro v3 ev3 H locs hG
    have ev3 : v3 = bif decide (d = 1) then 1 else (bif decide (d = 3) then (-1) else 0) := ev3
    subst ev3
    exact k_reti hC hr hG ⟨rfl, rfl⟩ (Nat.le_of_ble_eq_true rfl) (Nat.le_of_ble_eq_true rfl) dX0_northward_19
  refine k_icmp_ne (tgt := 9) hx hb dX0_northward_2 (by decide) (fun c_1 => ?_) (fun c_1 => ?_)
  · refine lv_iload_n hx hb dX0_northward_9 rfl (lv_at hl 0 rfl) ?_
    refine lv_iconst (v := 3) hx hb dX0_northward_10 (by decide) ?_
    refine k_icmp_ne (tgt := 18) hx hb dX0_northward_11 (by decide) (fun c_4 => ?_) (fun c_4 => ?_)
    · refine lv_iconst (v := 0) hx hb dX0_northward_18 (by decide) ?_
      exact J2 0 (by rw [c_4, c_1]; first | done | rfl) _ _ hG
    · refine lv_iconst (v := (-1)) hx hb dX0_northward_14 (by decide) ?_
      refine lv_goto (tgt := 19) hx hb dX0_northward_15 (by decide) ?_
      exact J2 (-1) (by rw [c_4, c_1]; first | done | rfl) _ _ hG
  · refine lv_iconst (v := 1) hx hb dX0_northward_5 (by decide) ?_
    refine lv_goto (tgt := 19) hx hb dX0_northward_6 (by decide) ?_
    exact J2 1 (by rw [c_1]; first | done | rfl) _ _ hG

set_option maxHeartbeats 4000000 in
set_option maxRecDepth 100000 in
/-- mark -/
theorem K_X0_mark (l : Launch) (hfl : l.stackTraces = false) (D : va_G) (cI cJ cZ cO : ClassId) (z mi : Nat) (ws : va_W) (k h : Nat) (B : Nat → Nat → Bool) (x y : Int32) (hpl : kPl x y = true) (hw : ws[k]? = some (h, .inl (cJ, 41, .inr (.inl (fun i9 => kRow (B i9)))))) : kM l D (kTy cI cJ cZ cO) z mi yX0_mark wsX0_mark ({ frames := 1, cells := 0, slots := 0, locals := 21 } : Room) [.ref h, .int x, .int y] (ws) (fun w u => w = none ∧ u = ws.set k (h, .inl (cJ, 41, .inr (.inl (fun i9 => kRow (kSt2 B x.toNatClampNeg y.toNatClampNeg i9)))))) (fun _ _ => False) := by
  refine kM.of hfl (cc := cX0_mark) (maxL := 3) (ret := none) (by decide) rfl (Nat.le_of_ble_eq_true rfl) ?_
  intro p e s m args below meth c A ls hC hr hmn hG hl
  have hx := hC.x
  have hb := hC.b
  have hl : lv_has ls 3 [(0, .ref h), (1, .int x), (2, .int y)] := hl
  obtain ⟨a, ha9, rfl⟩ := kIn_ex40 (kPl_x hpl)
  obtain ⟨b, hb9, rfl⟩ := kIn_ex40 (kPl_y hpl)
  refine lv_iload_n hx hb dX0_mark_0 rfl (lv_at hl 1 rfl) ?_
  refine lv_iload_n hx hb dX0_mark_1 rfl (lv_at hl 2 rfl) ?_
  refine k_callS (nn := 2) hC hG (K_X0_isPlace l hfl D cI cJ cZ cO z mi (ws) (nI a) (nI b)) gX0_mark_X0_isPlace rfl rfl (by decide +kernel) ⟨(Nat.le_of_ble_eq_true rfl), (Nat.le_of_ble_eq_true rfl)⟩ hl.1 rfl (Nat.le_of_ble_eq_true rfl) dX0_mark_2 ⟨(Nat.le_of_ble_eq_true rfl), (Nat.le_of_ble_eq_true rfl)⟩ (fun _ _ _ _ _ _ hp => hp.elim) (fun v9 u9 H locs hp hG => ?_)
  obtain ⟨rfl, hu9⟩ := hp
  rw [hu9] at hG
  refine W.widen (k := 0) (n := 0) (Nat.le_of_ble_eq_true rfl) (Nat.le_of_ble_eq_true rfl) ?_
  refine W.eq (g2 := F0 m 5 ls [.int (kb (kPl (nI a) (nI b)))]) rfl ?_
  refine k_ifB_eq (tgt := 17) hx hb dX0_mark_5 (by decide) (fun c_1 => absurd (hpl.symm.trans c_1) (by decide)) (fun c_1 => ?_)
  refine lv_aload_n hx hb dX0_mark_8 rfl (lv_at hl 0 rfl) ?_
  refine lv_iload_n hx hb dX0_mark_9 rfl (lv_at hl 2 rfl) ?_
  refine lv_dup2_11 hx hb dX0_mark_10 rfl rfl ?_
  refine va_lald (f := (fun i9 => kRow (B i9))) hx hb hC.K hG.1 k 1 hw rfl (vp_in_nI (by omega) (by omega)) dX0_mark_11 ?_
  refine k_topl (y := (fun i9 => kRow (B i9)) b) (congrArg (fun i9 => kRow (B i9)) (nI_clamp (by omega))) ?_
  refine k_topl (y := kRow (B b)) rfl ?_
  refine lv_lconst (v := 1) hx hb dX0_mark_12 (by decide) ?_
  refine lv_iload_n hx hb dX0_mark_13 rfl (lv_at hl 1 rfl) ?_
  refine lv_lshl hx hb dX0_mark_14 rfl ?_
  refine lv_lor hx hb dX0_mark_15 ?_
  refine k_topl (y := kRow (va_up (B b) a true)) (kRow_set (B b) ha9) ?_
  refine va_last (f := (fun i9 => kRow (B i9))) (x := (kRow (va_up (B b) a true))) hx hb hC.K hG.1 hG.2.1 hG.2.2 k 1 hw rfl (vp_in_nI (by omega) (by omega)) dX0_mark_16 (fun H locs h1 h2 h3 => ?_)
  have hG : kG D A s (ws.set k (h, .inl (cJ, 41, .inr (.inl (vp_updL (fun i9 => kRow (B i9)) (nI b).toNatClampNeg (kRow (va_up (B b) a true))))))) H locs := ⟨h1, h2, h3⟩
  rw [nI_clamp (n := b) (by omega)] at hG
  rw [kSt2_row B a b _ rfl] at hG
  exact k_retv hC hr hG ⟨rfl, by rw [nI_clamp (by omega), nI_clamp (by omega)]⟩ (Nat.le_of_ble_eq_true rfl) (Nat.le_of_ble_eq_true rfl) dX0_mark_17

set_option maxHeartbeats 4000000 in
set_option maxRecDepth 100000 in
/-- isMarked -/
theorem K_X0_isMarked (l : Launch) (hfl : l.stackTraces = false) (D : va_G) (cI cJ cZ cO : ClassId) (z mi : Nat) (ws : va_W) (k h : Nat) (B : Nat → Nat → Bool) (x y : Int32) (hw : ws[k]? = some (h, .inl (cJ, 41, .inr (.inl (fun i9 => kRow (B i9)))))) : kM l D (kTy cI cJ cZ cO) z mi yX0_isMarked wsX0_isMarked ({ frames := 1, cells := 0, slots := 0, locals := 21 } : Room) [.ref h, .int x, .int y] (ws) (fun w u => w = some (.int (kb (kPl x y && B y.toNatClampNeg x.toNatClampNeg))) ∧ u = ws) (fun _ _ => False) := by
  refine kM.of hfl (cc := cX0_isMarked) (maxL := 3) (ret := (some .boolean)) (by decide) rfl (Nat.le_of_ble_eq_true rfl) ?_
  intro p e s m args below meth c A ls hC hr hmn hG hl
  have hx := hC.x
  have hb := hC.b
  have hl : lv_has ls 3 [(0, .ref h), (1, .int x), (2, .int y)] := hl
  refine lv_iload_n hx hb dX0_isMarked_0 rfl (lv_at hl 1 rfl) ?_
  refine lv_iload_n hx hb dX0_isMarked_1 rfl (lv_at hl 2 rfl) ?_
  refine k_callS (nn := 2) hC hG (K_X0_isPlace l hfl D cI cJ cZ cO z mi (ws) x y) gX0_isMarked_X0_isPlace rfl rfl (by decide +kernel) ⟨(Nat.le_of_ble_eq_true rfl), (Nat.le_of_ble_eq_true rfl)⟩ hl.1 rfl (Nat.le_of_ble_eq_true rfl) dX0_isMarked_2 ⟨(Nat.le_of_ble_eq_true rfl), (Nat.le_of_ble_eq_true rfl)⟩ (fun _ _ _ _ _ _ hp => hp.elim) (fun v9 u9 H locs hp hG => ?_)
  obtain ⟨rfl, hu9⟩ := hp
  rw [hu9] at hG
  refine W.widen (k := 0) (n := 0) (Nat.le_of_ble_eq_true rfl) (Nat.le_of_ble_eq_true rfl) ?_
  refine W.eq (g2 := F0 m 5 ls [.int (kb (kPl x y))]) rfl ?_
  refine k_joinH (D := D) (A := A) (fun v3 : Int32 => F0 m 25 ls (.int v3 :: [])) (fun v3 => v3 = kb ((kPl x y) && (!(decide ((lg_cmp ((((fun i9 => kRow (B i9)) y.toNatClampNeg) >>> (x.toInt64 &&& 63)) &&& 1) 0) = (0 : Int32)))))) (ws) ?_ (fun J2 => ?_)
  · intro v3 ev3 H locs hG
    have ev3 : v3 = kb ((kPl x y) && (!(decide ((lg_cmp ((((fun i9 => kRow (B i9)) y.toNatClampNeg) >>> (x.toInt64 &&& 63)) &&& 1) 0) = (0 : Int32))))) := ev3
    subst ev3
    exact k_retz hC hr hG (kb_nar _) ⟨by rw [kMk], rfl⟩ (Nat.le_of_ble_eq_true rfl) (Nat.le_of_ble_eq_true rfl) dX0_isMarked_25
  refine k_ifB_eq (tgt := 24) hx hb dX0_isMarked_5 (by decide) (fun c_1 => ?_) (fun c_1 => ?_)
  · refine lv_iconst (v := 0) hx hb dX0_isMarked_24 (by decide) ?_
    exact J2 0 (by rw [c_1]; first | done | rfl) _ _ hG
  · refine lv_aload_n hx hb dX0_isMarked_8 rfl (lv_at hl 0 rfl) ?_
    refine lv_iload_n hx hb dX0_isMarked_9 rfl (lv_at hl 2 rfl) ?_
    refine va_lald (f := (fun i9 => kRow (B i9))) hx hb hC.K hG.1 k 1 hw rfl (kIn41 (kPl_y c_1)) dX0_isMarked_10 ?_
    refine lv_iload_n hx hb dX0_isMarked_11 rfl (lv_at hl 1 rfl) ?_
    refine lv_lshr hx hb dX0_isMarked_12 rfl ?_
    refine lv_lconst (v := 1) hx hb dX0_isMarked_13 (by decide) ?_
    refine lv_land hx hb dX0_isMarked_14 ?_
    refine lv_lconst (v := 0) hx hb dX0_isMarked_15 (by decide) ?_
    refine W.lcmp hx hb dX0_isMarked_16 ?_
    refine k_if_eq (tgt := 24) hx hb dX0_isMarked_17 (by decide) (fun c_4 => ?_) (fun c_4 => ?_)
    · refine lv_iconst (v := 0) hx hb dX0_isMarked_24 (by decide) ?_
      exact J2 0 (by rw [c_4, c_1]; first | done | rfl) _ _ hG
    · refine lv_iconst (v := 1) hx hb dX0_isMarked_20 (by decide) ?_
      refine lv_goto (tgt := 25) hx hb dX0_isMarked_21 (by decide) ?_
      exact J2 1 (by rw [c_4, c_1]; first | done | rfl) _ _ hG

set_option maxHeartbeats 4000000 in
set_option maxRecDepth 100000 in
/-- isFree -/
theorem K_X0_isFree (l : Launch) (hfl : l.stackTraces = false) (D : va_G) (cI cJ cZ cO : ClassId) (z mi : Nat) (hd : Nat) (ho : Nat) (hwn : Nat) (hq : Nat) (BO : Nat → Nat → Bool) (BW : Nat → Nat → Bool) (fQ : Nat → Int32) (oc : Nat) (bx : Int32) (by9 : Int32) (x : Int32) (y : Int32) (ot : Int32) (tw : Int32) (bg : Bool) (cl : Bool) (rest : va_W) (pa pb : Int32) : kM l D (kTy cI cJ cZ cO) z mi yX0_isFree wsX0_isFree ({ frames := 2, cells := 0, slots := 0, locals := 43 } : Room) [.ref hd, .int pa, .int pb] ((hd, .inr (1, [.ref ho, .ref hwn, .ref hq, .int (nI oc), .int bx, .int by9, .int x, .int y, .int ot, .int tw, .int (kb bg), .int (kb cl)])) :: (ho, .inl (cJ, 41, .inr (.inl (fun i9 => kRow (BO i9))))) :: (hwn, .inl (cJ, 41, .inr (.inl (fun i9 => kRow (BW i9))))) :: (hq, .inl (cI, 10, .inl fQ)) :: rest) (fun v u => v = some (.int (kb (kFr BO pa pb))) ∧ u = (hd, .inr (1, [.ref ho, .ref hwn, .ref hq, .int (nI oc), .int bx, .int by9, .int x, .int y, .int ot, .int tw, .int (kb bg), .int (kb cl)])) :: (ho, .inl (cJ, 41, .inr (.inl (fun i9 => kRow (BO i9))))) :: (hwn, .inl (cJ, 41, .inr (.inl (fun i9 => kRow (BW i9))))) :: (hq, .inl (cI, 10, .inl fQ)) :: rest) (fun _ _ => False) := by
  refine kM.of hfl (cc := cX0_isFree) (maxL := 3) (ret := (some .boolean)) (by decide) rfl (Nat.le_of_ble_eq_true rfl) ?_
  intro p e s m args below meth c A ls hC hr hmn hG hl
  have hx := hC.x
  have hb := hC.b
  have hl : lv_has ls 3 [(0, .ref hd), (1, .int pa), (2, .int pb)] := hl
  have hi_RX0 : ∀ w ∈ wsX00, w ∈ wsX0_isFree := fun w h => List.mem_cons_of_mem _ (List.mem_append_right _ h)
  refine lv_iload_n hx hb dX0_isFree_0 rfl (lv_at hl 1 rfl) ?_
  refine lv_iload_n hx hb dX0_isFree_1 rfl (lv_at hl 2 rfl) ?_
  refine k_callS (nn := 2) hC hG (K_X0_isPlace l hfl D cI cJ cZ cO z mi ((hd, .inr (1, [.ref ho, .ref hwn, .ref hq, .int (nI oc), .int bx, .int by9, .int x, .int y, .int ot, .int tw, .int (kb bg), .int (kb cl)])) :: (ho, .inl (cJ, 41, .inr (.inl (fun i9 => kRow (BO i9))))) :: (hwn, .inl (cJ, 41, .inr (.inl (fun i9 => kRow (BW i9))))) :: (hq, .inl (cI, 10, .inl fQ)) :: rest) pa pb) gX0_isFree_X0_isPlace rfl rfl (by decide +kernel) ⟨(Nat.le_of_ble_eq_true rfl), (Nat.le_of_ble_eq_true rfl)⟩ hl.1 rfl (Nat.le_of_ble_eq_true rfl) dX0_isFree_2 ⟨(Nat.le_of_ble_eq_true rfl), (Nat.le_of_ble_eq_true rfl)⟩ (fun _ _ _ _ _ _ hp => hp.elim) (fun v9 u9 H locs hp hG => ?_)
  obtain ⟨rfl, rfl⟩ := hp
  refine W.widen (k := 0) (n := 0) (Nat.le_of_ble_eq_true rfl) (Nat.le_of_ble_eq_true rfl) ?_
  refine W.eq (g2 := F0 m 5 ls [.int (kb (kPl pa pb))]) rfl ?_
  refine k_joinH (D := D) (A := A) (fun v3 : Int32 => F0 m 25 ls (.int v3 :: [])) (fun v3 => v3 = kb ((kPl pa pb) && (!(kPl pa pb && BO pb.toNatClampNeg pa.toNatClampNeg)))) ((hd, .inr (1, [.ref ho, .ref hwn, .ref hq, .int (nI oc), .int bx, .int by9, .int x, .int y, .int ot, .int tw, .int (kb bg), .int (kb cl)])) :: (ho, .inl (cJ, 41, .inr (.inl (fun i9 => kRow (BO i9))))) :: (hwn, .inl (cJ, 41, .inr (.inl (fun i9 => kRow (BW i9))))) :: (hq, .inl (cI, 10, .inl fQ)) :: rest) ?_ (fun J2 => ?_)
  · intro v3 ev3 H locs hG
    have ev3 : v3 = kb ((kPl pa pb) && (!(kPl pa pb && BO pb.toNatClampNeg pa.toNatClampNeg))) := ev3
    subst ev3
    exact k_retz hC hr hG (kb_nar _) ⟨rfl, rfl⟩ (Nat.le_of_ble_eq_true rfl) (Nat.le_of_ble_eq_true rfl) dX0_isFree_25
  refine k_ifB_eq (tgt := 24) hx hb dX0_isFree_5 (by decide) (fun c_1 => ?_) (fun c_1 => ?_)
  · refine lv_iconst (v := 0) hx hb dX0_isFree_24 (by decide) ?_
    exact J2 0 (by rw [c_1]; first | done | rfl) _ _ hG
  · refine lv_aload_n hx hb dX0_isFree_8 rfl (lv_at hl 0 rfl) ?_
    refine k_get (C := RX0) (T := TX0) (N := 12) (ci := 1) (v := .ref ho) (fs := [.ref ho, .ref hwn, .ref hq, .int (nI oc), .int bx, .int by9, .int x, .int y, .int ot, .int tw, .int (kb bg), .int (kb cl)]) hC hG hi_RX0 0 rfl rfl 0 (by decide) (List.mem_of_getElem? (i := 1) rfl) rfl rfl dX0_isFree_9 ?_
    refine lv_iload_n hx hb dX0_isFree_12 rfl (lv_at hl 1 rfl) ?_
    refine lv_iload_n hx hb dX0_isFree_13 rfl (lv_at hl 2 rfl) ?_
    refine k_callS (nn := 3) hC hG (K_X0_isMarked l hfl D cI cJ cZ cO z mi ((hd, .inr (1, [.ref ho, .ref hwn, .ref hq, .int (nI oc), .int bx, .int by9, .int x, .int y, .int ot, .int tw, .int (kb bg), .int (kb cl)])) :: (ho, .inl (cJ, 41, .inr (.inl (fun i9 => kRow (BO i9))))) :: (hwn, .inl (cJ, 41, .inr (.inl (fun i9 => kRow (BW i9))))) :: (hq, .inl (cI, 10, .inl fQ)) :: rest) 1 ho BO pa pb rfl) gX0_isFree_X0_isMarked rfl rfl (by decide +kernel) ⟨(Nat.le_of_ble_eq_true rfl), (Nat.le_of_ble_eq_true rfl)⟩ hl.1 rfl (Nat.le_of_ble_eq_true rfl) dX0_isFree_14 ⟨(Nat.le_of_ble_eq_true rfl), (Nat.le_of_ble_eq_true rfl)⟩ (fun _ _ _ _ _ _ hp => hp.elim) (fun v9 u9 H locs hp hG => ?_)
    obtain ⟨rfl, rfl⟩ := hp
    refine W.widen (k := 0) (n := 0) (Nat.le_of_ble_eq_true rfl) (Nat.le_of_ble_eq_true rfl) ?_
    refine W.eq (g2 := F0 m 17 ls [.int (kb (kPl pa pb && BO pb.toNatClampNeg pa.toNatClampNeg))]) rfl ?_
    refine k_ifB_ne (tgt := 24) hx hb dX0_isFree_17 (by decide) (fun c_4 => ?_) (fun c_4 => ?_)
    · refine lv_iconst (v := 0) hx hb dX0_isFree_24 (by decide) ?_
      exact J2 0 (by rw [c_4, c_1]; first | done | rfl) _ _ hG
    · refine lv_iconst (v := 1) hx hb dX0_isFree_20 (by decide) ?_
      refine lv_goto (tgt := 25) hx hb dX0_isFree_21 (by decide) ?_
      exact J2 1 (by rw [c_4, c_1]; first | done | rfl) _ _ hG

set_option maxHeartbeats 4000000 in
set_option maxRecDepth 100000 in
/-- closesAt -/
theorem K_X0_closesAt (l : Launch) (hfl : l.stackTraces = false) (D : va_G) (cI cJ cZ cO : ClassId) (z mi : Nat) (hd : Nat) (ho : Nat) (hwn : Nat) (hq : Nat) (BO : Nat → Nat → Bool) (BW : Nat → Nat → Bool) (fQ : Nat → Int32) (oc : Nat) (bx : Int32) (by9 : Int32) (x : Int32) (y : Int32) (ot : Int32) (tw : Int32) (bg : Bool) (cl : Bool) (rest : va_W) (pa pb : Int32) : kM l D (kTy cI cJ cZ cO) z mi yX0_closesAt wsX0_closesAt ({ frames := 0, cells := 0, slots := 0, locals := 0 } : Room) [.ref hd, .int pa, .int pb] ((hd, .inr (1, [.ref ho, .ref hwn, .ref hq, .int (nI oc), .int bx, .int by9, .int x, .int y, .int ot, .int tw, .int (kb bg), .int (kb cl)])) :: (ho, .inl (cJ, 41, .inr (.inl (fun i9 => kRow (BO i9))))) :: (hwn, .inl (cJ, 41, .inr (.inl (fun i9 => kRow (BW i9))))) :: (hq, .inl (cI, 10, .inl fQ)) :: rest) (fun v u => v = some (.int (kb (kCz bx by9 ot pa pb))) ∧ u = (hd, .inr (1, [.ref ho, .ref hwn, .ref hq, .int (nI oc), .int bx, .int by9, .int x, .int y, .int ot, .int tw, .int (kb bg), .int (kb cl)])) :: (ho, .inl (cJ, 41, .inr (.inl (fun i9 => kRow (BO i9))))) :: (hwn, .inl (cJ, 41, .inr (.inl (fun i9 => kRow (BW i9))))) :: (hq, .inl (cI, 10, .inl fQ)) :: rest) (fun _ _ => False) := by
  refine kM.of hfl (cc := cX0_closesAt) (maxL := 3) (ret := (some .boolean)) (by decide) rfl (Nat.le_of_ble_eq_true rfl) ?_
  intro p e s m args below meth c A ls hC hr hmn hG hl
  have hx := hC.x
  have hb := hC.b
  have hl : lv_has ls 3 [(0, .ref hd), (1, .int pa), (2, .int pb)] := hl
  have hi_RX0 : ∀ w ∈ wsX00, w ∈ wsX0_closesAt := fun w h => List.mem_cons_of_mem _ (List.mem_append_right _ h)
  refine lv_iload_n hx hb dX0_closesAt_0 rfl (lv_at hl 1 rfl) ?_
  refine lv_aload_n hx hb dX0_closesAt_1 rfl (lv_at hl 0 rfl) ?_
  refine k_get (C := RX0) (T := TX0) (N := 12) (ci := 1) (v := .int bx) (fs := [.ref ho, .ref hwn, .ref hq, .int (nI oc), .int bx, .int by9, .int x, .int y, .int ot, .int tw, .int (kb bg), .int (kb cl)]) hC hG hi_RX0 0 rfl rfl 4 (by decide) (List.mem_of_getElem? (i := 1) rfl) rfl rfl dX0_closesAt_2 ?_
  refine k_joinH (D := D) (A := A) (fun v3 : Int32 => F0 m 29 ls (.int v3 :: [])) (fun v3 => v3 = kb ((decide (pa = bx)) && ((decide (pb = by9)) && (!(decide (ot < 3)))))) ((hd, .inr (1, [.ref ho, .ref hwn, .ref hq, .int (nI oc), .int bx, .int by9, .int x, .int y, .int ot, .int tw, .int (kb bg), .int (kb cl)])) :: (ho, .inl (cJ, 41, .inr (.inl (fun i9 => kRow (BO i9))))) :: (hwn, .inl (cJ, 41, .inr (.inl (fun i9 => kRow (BW i9))))) :: (hq, .inl (cI, 10, .inl fQ)) :: rest) ?_ (fun J2 => ?_)
  · intro v3 ev3 H locs hG
    have ev3 : v3 = kb ((decide (pa = bx)) && ((decide (pb = by9)) && (!(decide (ot < 3))))) := ev3
    subst ev3
    exact k_retz hC hr hG (kb_nar _) ⟨rfl, rfl⟩ (Nat.le_of_ble_eq_true rfl) (Nat.le_of_ble_eq_true rfl) dX0_closesAt_29
  refine k_icmp_ne (tgt := 28) hx hb dX0_closesAt_5 (by decide) (fun c_1 => ?_) (fun c_1 => ?_)
  · refine lv_iconst (v := 0) hx hb dX0_closesAt_28 (by decide) ?_
    exact J2 0 (by rw [c_1]; first | done | rfl) _ _ hG
  · refine lv_iload_n hx hb dX0_closesAt_8 rfl (lv_at hl 2 rfl) ?_
    refine lv_aload_n hx hb dX0_closesAt_9 rfl (lv_at hl 0 rfl) ?_
    refine k_get (C := RX0) (T := TX0) (N := 12) (ci := 1) (v := .int by9) (fs := [.ref ho, .ref hwn, .ref hq, .int (nI oc), .int bx, .int by9, .int x, .int y, .int ot, .int tw, .int (kb bg), .int (kb cl)]) hC hG hi_RX0 0 rfl rfl 5 (by decide) (List.mem_of_getElem? (i := 2) rfl) rfl rfl dX0_closesAt_10 ?_
    refine k_icmp_ne (tgt := 28) hx hb dX0_closesAt_13 (by decide) (fun c_4 => ?_) (fun c_4 => ?_)
    · refine lv_iconst (v := 0) hx hb dX0_closesAt_28 (by decide) ?_
      exact J2 0 (by rw [c_4, c_1]; first | done | rfl) _ _ hG
    · refine lv_aload_n hx hb dX0_closesAt_16 rfl (lv_at hl 0 rfl) ?_
      refine k_get (C := RX0) (T := TX0) (N := 12) (ci := 1) (v := .int ot) (fs := [.ref ho, .ref hwn, .ref hq, .int (nI oc), .int bx, .int by9, .int x, .int y, .int ot, .int tw, .int (kb bg), .int (kb cl)]) hC hG hi_RX0 0 rfl rfl 8 (by decide) (List.mem_of_getElem? (i := 3) rfl) rfl rfl dX0_closesAt_17 ?_
      refine lv_iconst (v := 3) hx hb dX0_closesAt_20 (by decide) ?_
      refine k_icmp_lt (tgt := 28) hx hb dX0_closesAt_21 (by decide) (fun c_5 => ?_) (fun c_5 => ?_)
      · refine lv_iconst (v := 0) hx hb dX0_closesAt_28 (by decide) ?_
        exact J2 0 (by rw [c_5, c_4, c_1]; first | done | rfl) _ _ hG
      · refine lv_iconst (v := 1) hx hb dX0_closesAt_24 (by decide) ?_
        refine lv_goto (tgt := 29) hx hb dX0_closesAt_25 (by decide) ?_
        exact J2 1 (by rw [c_5, c_4, c_1]; first | done | rfl) _ _ hG

set_option maxHeartbeats 4000000 in
set_option maxRecDepth 100000 in
/-- takeAway -/
theorem K_X0_takeAway (l : Launch) (hfl : l.stackTraces = false) (D : va_G) (cI cJ cZ cO : ClassId) (z mi : Nat) (hd : Nat) (ho : Nat) (hwn : Nat) (hq : Nat) (BO : Nat → Nat → Bool) (BW : Nat → Nat → Bool) (fQ : Nat → Int32) (oc : Nat) (bx : Int32) (by9 : Int32) (x : Int32) (y : Int32) (ot : Int32) (tw : Int32) (bg : Bool) (cl : Bool) (rest : va_W)  : kM l D (kTy cI cJ cZ cO) z mi yX0_takeAway wsX0_takeAway ({ frames := 0, cells := 0, slots := 0, locals := 0 } : Room) [.ref hd] ((hd, .inr (1, [.ref ho, .ref hwn, .ref hq, .int (nI oc), .int bx, .int by9, .int x, .int y, .int ot, .int tw, .int (kb bg), .int (kb cl)])) :: (ho, .inl (cJ, 41, .inr (.inl (fun i9 => kRow (BO i9))))) :: (hwn, .inl (cJ, 41, .inr (.inl (fun i9 => kRow (BW i9))))) :: (hq, .inl (cI, 10, .inl fQ)) :: rest) (fun v u => v = none ∧ u = (hd, .inr (1, [.ref ho, .ref hwn, .ref hq, .int (nI oc), .int bx, .int by9, .int x, .int y, .int ot, .int tw, .int (kb false), .int (kb false)])) :: (ho, .inl (cJ, 41, .inr (.inl (fun i9 => kRow (BO i9))))) :: (hwn, .inl (cJ, 41, .inr (.inl (fun i9 => kRow (BW i9))))) :: (hq, .inl (cI, 10, .inl fQ)) :: rest) (fun _ _ => False) := by
  refine kM.of hfl (cc := cX0_takeAway) (maxL := 1) (ret := none) (by decide) rfl (Nat.le_of_ble_eq_true rfl) ?_
  intro p e s m args below meth c A ls hC hr hmn hG hl
  have hx := hC.x
  have hb := hC.b
  have hl : lv_has ls 1 [(0, .ref hd)] := hl
  have hi_RX0 : ∀ w ∈ wsX00, w ∈ wsX0_takeAway := fun w h => List.mem_cons_of_mem _ (List.mem_append_right _ h)
  refine lv_aload_n hx hb dX0_takeAway_0 rfl (lv_at hl 0 rfl) ?_
  refine lv_iconst (v := 0) hx hb dX0_takeAway_1 (by decide) ?_
  refine k_put (C := RX0) (T := TX0) (N := 12) (ci := 1) (v := .int 0) (fs := [.ref ho, .ref hwn, .ref hq, .int (nI oc), .int bx, .int by9, .int x, .int y, .int ot, .int tw, .int (kb bg), .int (kb cl)]) hC hG hi_RX0 tyX0_ok nmX0 0 rfl rfl 10 (by decide) (List.mem_of_getElem? (i := 1) rfl) rfl rfl rfl rfl (Nat.le_of_ble_eq_true rfl) dX0_takeAway_2 (fun H locs hG => ?_)
  have hG : kG D A s ((hd, .inr (1, [.ref ho, .ref hwn, .ref hq, .int (nI oc), .int bx, .int by9, .int x, .int y, .int ot, .int tw, .int 0, .int (kb cl)])) :: (ho, .inl (cJ, 41, .inr (.inl (fun i9 => kRow (BO i9))))) :: (hwn, .inl (cJ, 41, .inr (.inl (fun i9 => kRow (BW i9))))) :: (hq, .inl (cI, 10, .inl fQ)) :: rest) H locs := hG
  refine lv_aload_n hx hb dX0_takeAway_5 rfl (lv_at hl 0 rfl) ?_
  refine lv_iconst (v := 0) hx hb dX0_takeAway_6 (by decide) ?_
  refine k_put (C := RX0) (T := TX0) (N := 12) (ci := 1) (v := .int 0) (fs := [.ref ho, .ref hwn, .ref hq, .int (nI oc), .int bx, .int by9, .int x, .int y, .int ot, .int tw, .int 0, .int (kb cl)]) hC hG hi_RX0 tyX0_ok nmX0 0 rfl rfl 11 (by decide) (List.mem_of_getElem? (i := 2) rfl) rfl rfl rfl rfl (Nat.le_of_ble_eq_true rfl) dX0_takeAway_7 (fun H locs hG => ?_)
  have hG : kG D A s ((hd, .inr (1, [.ref ho, .ref hwn, .ref hq, .int (nI oc), .int bx, .int by9, .int x, .int y, .int ot, .int tw, .int 0, .int 0])) :: (ho, .inl (cJ, 41, .inr (.inl (fun i9 => kRow (BO i9))))) :: (hwn, .inl (cJ, 41, .inr (.inl (fun i9 => kRow (BW i9))))) :: (hq, .inl (cI, 10, .inl fQ)) :: rest) H locs := hG
  exact k_retv hC hr hG ⟨rfl, rfl⟩ (Nat.le_of_ble_eq_true rfl) (Nat.le_of_ble_eq_true rfl) dX0_takeAway_10

set_option maxHeartbeats 4000000 in
set_option maxRecDepth 100000 in
/-- addOpening -/
theorem K_X0_addOpening (l : Launch) (hfl : l.stackTraces = false) (D : va_G) (cI cJ cZ cO : ClassId) (z mi : Nat) (hd : Nat) (ho : Nat) (hwn : Nat) (hq : Nat) (BO : Nat → Nat → Bool) (BW : Nat → Nat → Bool) (fQ : Nat → Int32) (oc : Nat) (bx : Int32) (by9 : Int32) (x : Int32) (y : Int32) (ot : Int32) (tw : Int32) (bg : Bool) (cl : Bool) (rest : va_W) (sz : Int32) (hoc : oc ≤ 10) : kM l D (kTy cI cJ cZ cO) z mi yX0_addOpening wsX0_addOpening ({ frames := 0, cells := 0, slots := 0, locals := 0 } : Room) [.ref hd, .int sz] ((hd, .inr (1, [.ref ho, .ref hwn, .ref hq, .int (nI oc), .int bx, .int by9, .int x, .int y, .int ot, .int tw, .int (kb bg), .int (kb cl)])) :: (ho, .inl (cJ, 41, .inr (.inl (fun i9 => kRow (BO i9))))) :: (hwn, .inl (cJ, 41, .inr (.inl (fun i9 => kRow (BW i9))))) :: (hq, .inl (cI, 10, .inl fQ)) :: rest) (fun v u => v = some (.int (kb (decide ((nI oc) < 10)))) ∧ u = (hd, .inr (1, [.ref ho, .ref hwn, .ref hq, .int (nI (bif decide ((nI oc) < 10) then oc + 1 else oc)), .int bx, .int by9, .int x, .int y, .int ot, .int tw, .int (kb bg), .int (kb cl)])) :: (ho, .inl (cJ, 41, .inr (.inl (fun i9 => kRow (BO i9))))) :: (hwn, .inl (cJ, 41, .inr (.inl (fun i9 => kRow (BW i9))))) :: (hq, .inl (cI, 10, .inl (bif decide ((nI oc) < 10) then upd fQ oc sz else fQ))) :: rest) (fun _ _ => False) := by
  refine kM.of hfl (cc := cX0_addOpening) (maxL := 2) (ret := (some .boolean)) (by decide) rfl (Nat.le_of_ble_eq_true rfl) ?_
  intro p e s m args below meth c A ls hC hr hmn hG hl
  have hx := hC.x
  have hb := hC.b
  have hl : lv_has ls 2 [(0, .ref hd), (1, .int sz)] := hl
  have hi_RX0 : ∀ w ∈ wsX00, w ∈ wsX0_addOpening := fun w h => List.mem_cons_of_mem _ (List.mem_append_right _ h)
  refine lv_aload_n hx hb dX0_addOpening_0 rfl (lv_at hl 0 rfl) ?_
  refine k_get (C := RX0) (T := TX0) (N := 12) (ci := 1) (v := .int (nI oc)) (fs := [.ref ho, .ref hwn, .ref hq, .int (nI oc), .int bx, .int by9, .int x, .int y, .int ot, .int tw, .int (kb bg), .int (kb cl)]) hC hG hi_RX0 0 rfl rfl 3 (by decide) (List.mem_of_getElem? (i := 1) rfl) rfl rfl dX0_addOpening_1 ?_
  refine lv_aload_n hx hb dX0_addOpening_4 rfl (lv_at hl 0 rfl) ?_
  refine k_get (C := RX0) (T := TX0) (N := 12) (ci := 1) (v := .ref hq) (fs := [.ref ho, .ref hwn, .ref hq, .int (nI oc), .int bx, .int by9, .int x, .int y, .int ot, .int tw, .int (kb bg), .int (kb cl)]) hC hG hi_RX0 0 rfl rfl 2 (by decide) (List.mem_of_getElem? (i := 2) rfl) rfl rfl dX0_addOpening_5 ?_
  refine va_alen (v := 10) hx hb hC.K hG.1 3 0 rfl rfl rfl dX0_addOpening_8 ?_
  refine k_icmp_lt (tgt := 14) hx hb dX0_addOpening_9 (by decide) (fun c_1 => ?_) (fun c_1 => ?_)
  · have hoc1 : oc < 10 := kLt2 c_1 (by omega)
    refine lv_aload_n hx hb dX0_addOpening_14 rfl (lv_at hl 0 rfl) ?_
    refine k_get (C := RX0) (T := TX0) (N := 12) (ci := 1) (v := .ref hq) (fs := [.ref ho, .ref hwn, .ref hq, .int (nI oc), .int bx, .int by9, .int x, .int y, .int ot, .int tw, .int (kb bg), .int (kb cl)]) hC hG hi_RX0 0 rfl rfl 2 (by decide) (List.mem_of_getElem? (i := 2) rfl) rfl rfl dX0_addOpening_15 ?_
    refine lv_aload_n hx hb dX0_addOpening_18 rfl (lv_at hl 0 rfl) ?_
    refine k_get (C := RX0) (T := TX0) (N := 12) (ci := 1) (v := .int (nI oc)) (fs := [.ref ho, .ref hwn, .ref hq, .int (nI oc), .int bx, .int by9, .int x, .int y, .int ot, .int tw, .int (kb bg), .int (kb cl)]) hC hG hi_RX0 0 rfl rfl 3 (by decide) (List.mem_of_getElem? (i := 1) rfl) rfl rfl dX0_addOpening_19 ?_
    refine lv_iload_n hx hb dX0_addOpening_22 rfl (lv_at hl 1 rfl) ?_
    refine va_iast (f := fQ) (x := sz) hx hb hC.K hG.1 hG.2.1 hG.2.2 3 0 rfl rfl (vp_in_nI (by omega) (by omega)) dX0_addOpening_23 (fun H locs h1 h2 h3 => ?_)
    have hG : kG D A s ((hd, .inr (1, [.ref ho, .ref hwn, .ref hq, .int (nI oc), .int bx, .int by9, .int x, .int y, .int ot, .int tw, .int (kb bg), .int (kb cl)])) :: (ho, .inl (cJ, 41, .inr (.inl (fun i9 => kRow (BO i9))))) :: (hwn, .inl (cJ, 41, .inr (.inl (fun i9 => kRow (BW i9))))) :: (hq, .inl (cI, 10, .inl (upd fQ (nI oc).toNatClampNeg sz))) :: rest) H locs := ⟨h1, h2, h3⟩
    rw [nI_clamp (n := oc) (by omega)] at hG
    refine lv_aload_n hx hb dX0_addOpening_24 rfl (lv_at hl 0 rfl) ?_
    refine lv_dup hx hb dX0_addOpening_25 rfl ?_
    refine k_get (C := RX0) (T := TX0) (N := 12) (ci := 1) (v := .int (nI oc)) (fs := [.ref ho, .ref hwn, .ref hq, .int (nI oc), .int bx, .int by9, .int x, .int y, .int ot, .int tw, .int (kb bg), .int (kb cl)]) hC hG hi_RX0 0 rfl rfl 3 (by decide) (List.mem_of_getElem? (i := 1) rfl) rfl rfl dX0_addOpening_26 ?_
    refine lv_iconst (v := 1) hx hb dX0_addOpening_29 (by decide) ?_
    refine lv_iadd hx hb dX0_addOpening_30 ?_
    refine k_topi (y := nI (oc + 1)) (nI_1 oc) ?_
    refine k_put (C := RX0) (T := TX0) (N := 12) (ci := 1) (v := .int (nI (oc + 1))) (fs := [.ref ho, .ref hwn, .ref hq, .int (nI oc), .int bx, .int by9, .int x, .int y, .int ot, .int tw, .int (kb bg), .int (kb cl)]) hC hG hi_RX0 tyX0_ok nmX0 0 rfl rfl 3 (by decide) (List.mem_of_getElem? (i := 1) rfl) rfl rfl rfl rfl (Nat.le_of_ble_eq_true rfl) dX0_addOpening_31 (fun H locs hG => ?_)
    have hG : kG D A s ((hd, .inr (1, [.ref ho, .ref hwn, .ref hq, .int (nI (oc + 1)), .int bx, .int by9, .int x, .int y, .int ot, .int tw, .int (kb bg), .int (kb cl)])) :: (ho, .inl (cJ, 41, .inr (.inl (fun i9 => kRow (BO i9))))) :: (hwn, .inl (cJ, 41, .inr (.inl (fun i9 => kRow (BW i9))))) :: (hq, .inl (cI, 10, .inl (upd fQ oc sz))) :: rest) H locs := hG
    refine lv_iconst (v := 1) hx hb dX0_addOpening_34 (by decide) ?_
    exact k_retz hC hr hG rfl ⟨by rw [c_1]; rfl, by rw [c_1]; rfl⟩ (Nat.le_of_ble_eq_true rfl) (Nat.le_of_ble_eq_true rfl) dX0_addOpening_35
  · refine lv_iconst (v := 0) hx hb dX0_addOpening_12 (by decide) ?_
    exact k_retz hC hr hG rfl ⟨by rw [c_1]; rfl, by rw [c_1]; rfl⟩ (Nat.le_of_ble_eq_true rfl) (Nat.le_of_ble_eq_true rfl) dX0_addOpening_13

set_option maxHeartbeats 4000000 in
set_option maxRecDepth 100000 in
/-- areaByCorners -/
theorem K_X0_areaByCorners (l : Launch) (hfl : l.stackTraces = false) (D : va_G) (cI cJ cZ cO : ClassId) (z mi : Nat) (hd : Nat) (ho : Nat) (hwn : Nat) (hq : Nat) (BO : Nat → Nat → Bool) (BW : Nat → Nat → Bool) (fQ : Nat → Int32) (oc : Nat) (bx : Int32) (by9 : Int32) (x : Int32) (y : Int32) (ot : Int32) (tw : Int32) (bg : Bool) (cl : Bool) (rest : va_W)  : kM l D (kTy cI cJ cZ cO) z mi yX0_areaByCorners wsX0_areaByCorners ({ frames := 1, cells := 0, slots := 0, locals := 30 } : Room) [.ref hd] ((hd, .inr (1, [.ref ho, .ref hwn, .ref hq, .int (nI oc), .int bx, .int by9, .int x, .int y, .int ot, .int tw, .int (kb bg), .int (kb cl)])) :: (ho, .inl (cJ, 41, .inr (.inl (fun i9 => kRow (BO i9))))) :: (hwn, .inl (cJ, 41, .inr (.inl (fun i9 => kRow (BW i9))))) :: (hq, .inl (cI, 10, .inl fQ)) :: rest) (fun v u => v = some (.int (kAb tw)) ∧ u = (hd, .inr (1, [.ref ho, .ref hwn, .ref hq, .int (nI oc), .int bx, .int by9, .int x, .int y, .int ot, .int tw, .int (kb bg), .int (kb cl)])) :: (ho, .inl (cJ, 41, .inr (.inl (fun i9 => kRow (BO i9))))) :: (hwn, .inl (cJ, 41, .inr (.inl (fun i9 => kRow (BW i9))))) :: (hq, .inl (cI, 10, .inl fQ)) :: rest) (fun _ _ => False) := by
  refine kM.of hfl (cc := cX0_areaByCorners) (maxL := 1) (ret := (some .int)) (by decide) rfl (Nat.le_of_ble_eq_true rfl) ?_
  intro p e s m args below meth c A ls hC hr hmn hG hl
  have hx := hC.x
  have hb := hC.b
  have hl : lv_has ls 1 [(0, .ref hd)] := hl
  have hi_RX0 : ∀ w ∈ wsX00, w ∈ wsX0_areaByCorners := fun w h => List.mem_cons_of_mem _ (List.mem_append_right _ h)
  refine lv_aload_n hx hb dX0_areaByCorners_0 rfl (lv_at hl 0 rfl) ?_
  refine k_get (C := RX0) (T := TX0) (N := 12) (ci := 1) (v := .int tw) (fs := [.ref ho, .ref hwn, .ref hq, .int (nI oc), .int bx, .int by9, .int x, .int y, .int ot, .int tw, .int (kb bg), .int (kb cl)]) hC hG hi_RX0 0 rfl rfl 9 (by decide) (List.mem_of_getElem? (i := 1) rfl) rfl rfl dX0_areaByCorners_1 ?_
  refine va_mabs hx hb (hC.nl.trans hl.1.symm) hC.o (hC.t _ (List.mem_of_getElem? (i := 2) rfl)) (hC.t _ (List.mem_of_getElem? (i := 3) rfl)) (hC.t _ (List.mem_of_getElem? (i := 4) rfl)) (hC.t _ (List.mem_of_getElem? (i := 5) rfl)) (Nat.le_of_ble_eq_true rfl) (Nat.le_of_ble_eq_true rfl) (Nat.le_of_ble_eq_true rfl) (Nat.le_of_ble_eq_true rfl) dX0_areaByCorners_4 ?_
  refine lv_iconst (v := 2) hx hb dX0_areaByCorners_7 (by decide) ?_
  refine lv_idiv hx hb dX0_areaByCorners_8 (by decide) ?_
  exact k_reti hC hr hG ⟨rfl, rfl⟩ (Nat.le_of_ble_eq_true rfl) (Nat.le_of_ble_eq_true rfl) dX0_areaByCorners_9

set_option maxHeartbeats 4000000 in
set_option maxRecDepth 100000 in
/-- areaLeft -/
theorem K_X0_areaLeft (l : Launch) (hfl : l.stackTraces = false) (D : va_G) (cI cJ cZ cO : ClassId) (z mi : Nat) (hd : Nat) (ho : Nat) (hwn : Nat) (hq : Nat) (BO : Nat → Nat → Bool) (BW : Nat → Nat → Bool) (fQ : Nat → Int32) (oc : Nat) (bx : Int32) (by9 : Int32) (x : Int32) (y : Int32) (ot : Int32) (tw : Int32) (bg : Bool) (cl : Bool) (rest : va_W) (lim : Int32) : kM l D (kTy cI cJ cZ cO) z mi yX0_areaLeft wsX0_areaLeft ({ frames := 2, cells := 0, slots := 0, locals := 80 } : Room) [.ref hd, .int lim] ((hd, .inr (1, [.ref ho, .ref hwn, .ref hq, .int (nI oc), .int bx, .int by9, .int x, .int y, .int ot, .int tw, .int (kb bg), .int (kb cl)])) :: (ho, .inl (cJ, 41, .inr (.inl (fun i9 => kRow (BO i9))))) :: (hwn, .inl (cJ, 41, .inr (.inl (fun i9 => kRow (BW i9))))) :: (hq, .inl (cI, 10, .inl fQ)) :: rest) (fun v u => v = some (.int (kAl fQ lim tw)) ∧ u = (hd, .inr (1, [.ref ho, .ref hwn, .ref hq, .int (nI oc), .int bx, .int by9, .int x, .int y, .int ot, .int tw, .int (kb bg), .int (kb cl)])) :: (ho, .inl (cJ, 41, .inr (.inl (fun i9 => kRow (BO i9))))) :: (hwn, .inl (cJ, 41, .inr (.inl (fun i9 => kRow (BW i9))))) :: (hq, .inl (cI, 10, .inl fQ)) :: rest) (fun _ _ => False) := by
  refine kM.of hfl (cc := cX0_areaLeft) (maxL := 4) (ret := (some .int)) (by decide) rfl (Nat.le_of_ble_eq_true rfl) ?_
  intro p e s m args below meth c A ls hC hr hmn hG hl
  have hx := hC.x
  have hb := hC.b
  have hl : lv_has ls 4 [(0, .ref hd), (1, .int lim)] := hl
  have hi_RX0 : ∀ w ∈ wsX00, w ∈ wsX0_areaLeft := fun w h => List.mem_cons_of_mem _ (List.mem_append_right _ h)
  refine lv_aload_n hx hb dX0_areaLeft_0 rfl (lv_at hl 0 rfl) ?_
  refine k_callV (nn := 0) (C := RX0) hC hG 0 rfl (ci := 1) rfl (K_X0_areaByCorners l hfl D cI cJ cZ cO z mi hd ho hwn hq BO BW fQ oc bx by9 x y ot tw bg cl rest ) gX0_areaLeft_X0_areaByCorners rfl rfl (by decide +kernel) ⟨(Nat.le_of_ble_eq_true rfl), (Nat.le_of_ble_eq_true rfl)⟩ hl.1 rfl (Nat.le_of_ble_eq_true rfl) dX0_areaLeft_1 ⟨(Nat.le_of_ble_eq_true rfl), (Nat.le_of_ble_eq_true rfl)⟩ (fun _ _ _ _ _ _ hp => hp.elim) (fun v9 u9 H locs hp hG => ?_)
  obtain ⟨rfl, rfl⟩ := hp
  refine W.widen (k := 0) (n := 0) (Nat.le_of_ble_eq_true rfl) (Nat.le_of_ble_eq_true rfl) ?_
  refine W.eq (g2 := F0 m 4 ls [.int (kAb tw)]) rfl ?_
  refine lv_istore_n (lv' := [(2, .int (kAb tw)), (0, .ref hd), (1, .int lim)]) hx hb dX0_areaLeft_4 rfl hl (by decide) rfl (fun ls hl => ?_)
  refine lv_iconst (v := 0) hx hb dX0_areaLeft_5 (by decide) ?_
  refine lv_istore_n (lv' := [(3, .int 0), (2, .int (kAb tw)), (0, .ref hd), (1, .int lim)]) hx hb dX0_areaLeft_6 rfl hl (by decide) rfl (fun ls hl => ?_)
  refine k_loop (σ := Nat) (fun q9 => q9 ≤ 10) (fun q9 => 10 - q9) (fun q9 => (hd, .inr (1, [.ref ho, .ref hwn, .ref hq, .int (nI oc), .int bx, .int by9, .int x, .int y, .int ot, .int tw, .int (kb bg), .int (kb cl)])) :: (ho, .inl (cJ, 41, .inr (.inl (fun i9 => kRow (BO i9))))) :: (hwn, .inl (cJ, 41, .inr (.inl (fun i9 => kRow (BW i9))))) :: (hq, .inl (cI, 10, .inl fQ)) :: rest) (fun q9 => [(0, .ref hd), (1, .int lim), (2, .int (kLs fQ lim (kAb tw) q9)), (3, .int (nI q9))]) 7 [] ?_ 0 (Nat.zero_le _) hG (lv_sub hl [2, 3, 1, 0] rfl)
  intro q9
  obtain ⟨k, rfl⟩ : ∃ z9, z9 = q9 := ⟨_, rfl⟩
  intro hI ih H locs ls hG hl
  have hI : k ≤ 10 := hI
  have hG : kG D A s ((hd, .inr (1, [.ref ho, .ref hwn, .ref hq, .int (nI oc), .int bx, .int by9, .int x, .int y, .int ot, .int tw, .int (kb bg), .int (kb cl)])) :: (ho, .inl (cJ, 41, .inr (.inl (fun i9 => kRow (BO i9))))) :: (hwn, .inl (cJ, 41, .inr (.inl (fun i9 => kRow (BW i9))))) :: (hq, .inl (cI, 10, .inl fQ)) :: rest) H locs := hG
  have hl : lv_has ls 4 [(0, .ref hd), (1, .int lim), (2, .int (kLs fQ lim (kAb tw) k)), (3, .int (nI k))] := hl
  refine lv_iload_n hx hb dX0_areaLeft_7 rfl (lv_at hl 3 rfl) ?_
  refine lv_aload_n hx hb dX0_areaLeft_8 rfl (lv_at hl 0 rfl) ?_
  refine k_get (C := RX0) (T := TX0) (N := 12) (ci := 1) (v := .ref hq) (fs := [.ref ho, .ref hwn, .ref hq, .int (nI oc), .int bx, .int by9, .int x, .int y, .int ot, .int tw, .int (kb bg), .int (kb cl)]) hC hG hi_RX0 0 rfl rfl 2 (by decide) (List.mem_of_getElem? (i := 1) rfl) rfl rfl dX0_areaLeft_9 ?_
  refine va_alen (v := 10) hx hb hC.K hG.1 3 0 rfl rfl rfl dX0_areaLeft_12 ?_
  refine k_icmp_ge (tgt := 41) hx hb dX0_areaLeft_13 (by decide) (fun c_1 => ?_) (fun c_1 => ?_)
  · have hk : k = 10 := by
      have h9 := kGe 10 rfl (by decide) (by omega) c_1
      omega
    refine lv_iconst (v := 0) hx hb dX0_areaLeft_41 (by decide) ?_
    refine lv_iload_n hx hb dX0_areaLeft_42 rfl (lv_at hl 2 rfl) ?_
    refine va_mmax hx hb (hC.nl.trans hl.1.symm) hC.o (hC.t _ (List.mem_of_getElem? (i := 2) rfl)) (hC.t _ (List.mem_of_getElem? (i := 3) rfl)) (hC.t _ (List.mem_of_getElem? (i := 4) rfl)) (hC.t _ (List.mem_of_getElem? (i := 5) rfl)) (Nat.le_of_ble_eq_true rfl) (Nat.le_of_ble_eq_true rfl) (Nat.le_of_ble_eq_true rfl) (Nat.le_of_ble_eq_true rfl) dX0_areaLeft_43 ?_
    exact k_reti hC hr hG ⟨by rw [hk]; rfl, rfl⟩ (Nat.le_of_ble_eq_true rfl) (Nat.le_of_ble_eq_true rfl) dX0_areaLeft_46
  · have hk : k < 10 := kLt 10 rfl (by decide) (by omega) c_1
    refine lv_aload_n hx hb dX0_areaLeft_16 rfl (lv_at hl 0 rfl) ?_
    refine k_get (C := RX0) (T := TX0) (N := 12) (ci := 1) (v := .ref hq) (fs := [.ref ho, .ref hwn, .ref hq, .int (nI oc), .int bx, .int by9, .int x, .int y, .int ot, .int tw, .int (kb bg), .int (kb cl)]) hC hG hi_RX0 0 rfl rfl 2 (by decide) (List.mem_of_getElem? (i := 1) rfl) rfl rfl dX0_areaLeft_17 ?_
    refine lv_iload_n hx hb dX0_areaLeft_20 rfl (lv_at hl 3 rfl) ?_
    refine va_iald (f := fQ) hx hb hC.K hG.1 3 0 rfl rfl (vp_in_nI (by omega) (by omega)) dX0_areaLeft_21 ?_
    refine k_topi (y := fQ k) (congrArg fQ (nI_clamp (by omega))) ?_
    refine lv_iload_n hx hb dX0_areaLeft_22 rfl (lv_at hl 1 rfl) ?_
    refine k_icmp_le (tgt := 35) hx hb dX0_areaLeft_23 (by decide) (fun c_2 => ?_) (fun c_2 => ?_)
    · refine lv_iinc (v := (nI k) + 1) (lv' := [(3, .int ((nI k) + 1)), (0, .ref hd), (1, .int lim), (2, .int (kLs fQ lim (kAb tw) k))]) hx hb dX0_areaLeft_35 hl (k := 3) rfl rfl (by decide) rfl (fun ls hl => ?_)
      refine lv_goto (tgt := 7) hx hb dX0_areaLeft_38 (by decide) ?_
      rw [nI_1] at hl
      have hls : kLs fQ lim (kAb tw) (k + 1) = kLs fQ lim (kAb tw) k := by
        show (bif decide (fQ k ≤ lim) then kLs fQ lim (kAb tw) k else kLs fQ lim (kAb tw) k - fQ k) = _
        rw [c_2]; rfl
      rw [← hls] at hl
      exact ih (k + 1) (show k + 1 ≤ 10 from hk) (by show 10 - (k + 1) < 10 - k; omega) _ _ _ hG (lv_sub hl [1, 2, 3, 0] rfl)
    · refine lv_iload_n hx hb dX0_areaLeft_26 rfl (lv_at hl 2 rfl) ?_
      refine lv_aload_n hx hb dX0_areaLeft_27 rfl (lv_at hl 0 rfl) ?_
      refine k_get (C := RX0) (T := TX0) (N := 12) (ci := 1) (v := .ref hq) (fs := [.ref ho, .ref hwn, .ref hq, .int (nI oc), .int bx, .int by9, .int x, .int y, .int ot, .int tw, .int (kb bg), .int (kb cl)]) hC hG hi_RX0 0 rfl rfl 2 (by decide) (List.mem_of_getElem? (i := 1) rfl) rfl rfl dX0_areaLeft_28 ?_
      refine lv_iload_n hx hb dX0_areaLeft_31 rfl (lv_at hl 3 rfl) ?_
      refine va_iald (f := fQ) hx hb hC.K hG.1 3 0 rfl rfl (vp_in_nI (by omega) (by omega)) dX0_areaLeft_32 ?_
      refine k_topi (y := fQ k) (congrArg fQ (nI_clamp (by omega))) ?_
      refine lv_isub hx hb dX0_areaLeft_33 ?_
      refine lv_istore_n (lv' := [(2, .int ((kLs fQ lim (kAb tw) k) - (fQ k))), (0, .ref hd), (1, .int lim), (3, .int (nI k))]) hx hb dX0_areaLeft_34 rfl hl (by decide) rfl (fun ls hl => ?_)
      refine lv_iinc (v := (nI k) + 1) (lv' := [(3, .int ((nI k) + 1)), (2, .int ((kLs fQ lim (kAb tw) k) - (fQ k))), (0, .ref hd), (1, .int lim)]) hx hb dX0_areaLeft_35 hl (k := 3) rfl rfl (by decide) rfl (fun ls hl => ?_)
      refine lv_goto (tgt := 7) hx hb dX0_areaLeft_38 (by decide) ?_
      rw [nI_1] at hl
      have hls : kLs fQ lim (kAb tw) (k + 1) = (kLs fQ lim (kAb tw) k) - (fQ k) := by
        show (bif decide (fQ k ≤ lim) then kLs fQ lim (kAb tw) k else kLs fQ lim (kAb tw) k - fQ k) = _
        rw [c_2]; rfl
      rw [← hls] at hl
      exact ih (k + 1) (show k + 1 ≤ 10 from hk) (by show 10 - (k + 1) < 10 - k; omega) _ _ _ hG (lv_sub hl [2, 3, 1, 0] rfl)

set_option maxHeartbeats 4000000 in
set_option maxRecDepth 100000 in
/-- squaresInStrip -/
theorem K_X0_squaresInStrip (l : Launch) (hfl : l.stackTraces = false) (D : va_G) (cI cJ cZ cO : ClassId) (z mi : Nat) (hd : Nat) (ho : Nat) (hwn : Nat) (hq : Nat) (BO : Nat → Nat → Bool) (BW : Nat → Nat → Bool) (fQ : Nat → Int32) (oc : Nat) (bx : Int32) (by9 : Int32) (x : Int32) (y : Int32) (ot : Int32) (tw : Int32) (bg : Bool) (cl : Bool) (rest : va_W) (r : Nat) (hr9 : r < 40) : kM l D (kTy cI cJ cZ cO) z mi yX0_squaresInStrip wsX0_squaresInStrip ({ frames := 2, cells := 0, slots := 0, locals := 43 } : Room) [.ref hd, .int (nI r)] ((hd, .inr (1, [.ref ho, .ref hwn, .ref hq, .int (nI oc), .int bx, .int by9, .int x, .int y, .int ot, .int tw, .int (kb bg), .int (kb cl)])) :: (ho, .inl (cJ, 41, .inr (.inl (fun i9 => kRow (BO i9))))) :: (hwn, .inl (cJ, 41, .inr (.inl (fun i9 => kRow (BW i9))))) :: (hq, .inl (cI, 10, .inl fQ)) :: rest) (fun v u => v = some (.int (kCq BW r 40)) ∧ u = (hd, .inr (1, [.ref ho, .ref hwn, .ref hq, .int (nI oc), .int bx, .int by9, .int x, .int y, .int ot, .int tw, .int (kb bg), .int (kb cl)])) :: (ho, .inl (cJ, 41, .inr (.inl (fun i9 => kRow (BO i9))))) :: (hwn, .inl (cJ, 41, .inr (.inl (fun i9 => kRow (BW i9))))) :: (hq, .inl (cI, 10, .inl fQ)) :: rest) (fun _ _ => False) := by
  refine kM.of hfl (cc := cX0_squaresInStrip) (maxL := 5) (ret := (some .int)) (by decide) rfl (Nat.le_of_ble_eq_true rfl) ?_
  intro p e s m args below meth c A ls hC hr hmn hG hl
  have hx := hC.x
  have hb := hC.b
  have hl : lv_has ls 5 [(0, .ref hd), (1, .int (nI r))] := hl
  have hi_RX0 : ∀ w ∈ wsX00, w ∈ wsX0_squaresInStrip := fun w h => List.mem_cons_of_mem _ (List.mem_append_right _ h)
  refine lv_iconst (v := 0) hx hb dX0_squaresInStrip_0 (by decide) ?_
  refine lv_istore_n (lv' := [(2, .int 0), (0, .ref hd), (1, .int (nI r))]) hx hb dX0_squaresInStrip_1 rfl hl (by decide) rfl (fun ls hl => ?_)
  refine lv_iconst (v := 0) hx hb dX0_squaresInStrip_2 (by decide) ?_
  refine lv_istore_n (lv' := [(3, .int 0), (2, .int 0), (0, .ref hd), (1, .int (nI r))]) hx hb dX0_squaresInStrip_3 rfl hl (by decide) rfl (fun ls hl => ?_)
  refine lv_iconst (v := 0) hx hb dX0_squaresInStrip_4 (by decide) ?_
  refine lv_istore (lv' := [(4, .int 0), (3, .int 0), (2, .int 0), (0, .ref hd), (1, .int (nI r))]) hx hb dX0_squaresInStrip_5 hl (by decide) rfl (fun ls hl => ?_)
  refine k_loop (σ := Nat) (fun q9 => q9 ≤ 40) (fun q9 => 40 - q9) (fun q9 => (hd, .inr (1, [.ref ho, .ref hwn, .ref hq, .int (nI oc), .int bx, .int by9, .int x, .int y, .int ot, .int tw, .int (kb bg), .int (kb cl)])) :: (ho, .inl (cJ, 41, .inr (.inl (fun i9 => kRow (BO i9))))) :: (hwn, .inl (cJ, 41, .inr (.inl (fun i9 => kRow (BW i9))))) :: (hq, .inl (cI, 10, .inl fQ)) :: rest) (fun q9 => [(0, .ref hd), (1, .int (nI r)), (2, .int (kCq BW r q9)), (3, .int (kb (kPi BW r q9))), (4, .int (nI q9))]) 7 [] ?_ 0 (Nat.zero_le _) hG (lv_sub hl [3, 4, 2, 1, 0] rfl)
  intro q9
  obtain ⟨k, rfl⟩ : ∃ z9, z9 = q9 := ⟨_, rfl⟩
  intro hI ih H locs ls hG hl
  have hI : k ≤ 40 := hI
  have hG : kG D A s ((hd, .inr (1, [.ref ho, .ref hwn, .ref hq, .int (nI oc), .int bx, .int by9, .int x, .int y, .int ot, .int tw, .int (kb bg), .int (kb cl)])) :: (ho, .inl (cJ, 41, .inr (.inl (fun i9 => kRow (BO i9))))) :: (hwn, .inl (cJ, 41, .inr (.inl (fun i9 => kRow (BW i9))))) :: (hq, .inl (cI, 10, .inl fQ)) :: rest) H locs := hG
  have hl : lv_has ls 5 [(0, .ref hd), (1, .int (nI r)), (2, .int (kCq BW r k)), (3, .int (kb (kPi BW r k))), (4, .int (nI k))] := hl
  refine lv_iload hx hb dX0_squaresInStrip_7 (lv_at hl 4 rfl) ?_
  refine lv_bipush (v := 40) hx hb dX0_squaresInStrip_9 (by decide) ?_
  refine k_icmp_ge (tgt := 50) hx hb dX0_squaresInStrip_11 (by decide) (fun c_1 => ?_) (fun c_1 => ?_)
  · have hk : k = 40 := by
      have h9 := kGe 40 rfl (by decide) (by omega) c_1
      omega
    refine lv_iload_n hx hb dX0_squaresInStrip_50 rfl (lv_at hl 2 rfl) ?_
    exact k_reti hC hr hG ⟨by rw [hk], rfl⟩ (Nat.le_of_ble_eq_true rfl) (Nat.le_of_ble_eq_true rfl) dX0_squaresInStrip_51
  · have hk : k < 40 := kLt 40 rfl (by decide) (by omega) c_1
    refine lv_aload_n hx hb dX0_squaresInStrip_14 rfl (lv_at hl 0 rfl) ?_
    refine k_get (C := RX0) (T := TX0) (N := 12) (ci := 1) (v := .ref hwn) (fs := [.ref ho, .ref hwn, .ref hq, .int (nI oc), .int bx, .int by9, .int x, .int y, .int ot, .int tw, .int (kb bg), .int (kb cl)]) hC hG hi_RX0 0 rfl rfl 1 (by decide) (List.mem_of_getElem? (i := 1) rfl) rfl rfl dX0_squaresInStrip_15 ?_
    refine lv_iload hx hb dX0_squaresInStrip_18 (lv_at hl 4 rfl) ?_
    refine lv_iload_n hx hb dX0_squaresInStrip_20 rfl (lv_at hl 1 rfl) ?_
    refine k_callS (nn := 3) hC hG (K_X0_isMarked l hfl D cI cJ cZ cO z mi ((hd, .inr (1, [.ref ho, .ref hwn, .ref hq, .int (nI oc), .int bx, .int by9, .int x, .int y, .int ot, .int tw, .int (kb bg), .int (kb cl)])) :: (ho, .inl (cJ, 41, .inr (.inl (fun i9 => kRow (BO i9))))) :: (hwn, .inl (cJ, 41, .inr (.inl (fun i9 => kRow (BW i9))))) :: (hq, .inl (cI, 10, .inl fQ)) :: rest) 2 hwn BW (nI k) (nI r) rfl) gX0_squaresInStrip_X0_isMarked rfl rfl (by decide +kernel) ⟨(Nat.le_of_ble_eq_true rfl), (Nat.le_of_ble_eq_true rfl)⟩ hl.1 rfl (Nat.le_of_ble_eq_true rfl) dX0_squaresInStrip_21 ⟨(Nat.le_of_ble_eq_true rfl), (Nat.le_of_ble_eq_true rfl)⟩ (fun _ _ _ _ _ _ hp => hp.elim) (fun v9 u9 H locs hp hG => ?_)
    obtain ⟨rfl, rfl⟩ := hp
    refine W.widen (k := 0) (n := 0) (Nat.le_of_ble_eq_true rfl) (Nat.le_of_ble_eq_true rfl) ?_
    refine W.eq (g2 := F0 m 24 ls [.int (kb (kPl (nI k) (nI r) && BW (nI r).toNatClampNeg (nI k).toNatClampNeg))]) rfl ?_
    refine k_topi (y := kb (BW r k)) (congrArg kb (kMk2 BW (by omega) (by omega))) ?_
    refine k_ifB_eq (tgt := 37) hx hb dX0_squaresInStrip_24 (by decide) (fun c_2 => ?_) (fun c_2 => ?_)
    · refine lv_iload_n hx hb dX0_squaresInStrip_37 rfl (lv_at hl 3 rfl) ?_
      refine k_ifB_eq (tgt := 44) hx hb dX0_squaresInStrip_38 (by decide) (fun c_3 => ?_) (fun c_3 => ?_)
      · refine lv_iinc (v := (nI k) + 1) (lv' := [(4, .int ((nI k) + 1)), (0, .ref hd), (1, .int (nI r)), (2, .int (kCq BW r k)), (3, .int (kb (kPi BW r k)))]) hx hb dX0_squaresInStrip_44 hl (k := 4) rfl rfl (by decide) rfl (fun ls hl => ?_)
        refine lv_goto (tgt := 7) hx hb dX0_squaresInStrip_47 (by decide) ?_
        rw [nI_1] at hl
        have hpi : kPi BW r (k + 1) = (kPi BW r k) := by
          show (bif BW r k then !kPi BW r k else kPi BW r k) = _
          rw [c_2]; rfl
        have hcq : kCq BW r (k + 1) = kCq BW r k := by
          show (bif kPi BW r (k + 1) then kCq BW r k + 1 else kCq BW r k) = _
          rw [hpi, c_3]; rfl
        rw [← hcq, ← hpi] at hl
        exact ih (k + 1) (show k + 1 ≤ 40 from hk) (by show 40 - (k + 1) < 40 - k; omega) _ _ _ hG (lv_sub hl [1, 2, 3, 4, 0] rfl)
      · refine lv_iinc (v := (kCq BW r k) + 1) (lv' := [(2, .int ((kCq BW r k) + 1)), (0, .ref hd), (1, .int (nI r)), (3, .int (kb (kPi BW r k))), (4, .int (nI k))]) hx hb dX0_squaresInStrip_41 hl (k := 2) rfl rfl (by decide) rfl (fun ls hl => ?_)
        refine lv_iinc (v := (nI k) + 1) (lv' := [(4, .int ((nI k) + 1)), (2, .int ((kCq BW r k) + 1)), (0, .ref hd), (1, .int (nI r)), (3, .int (kb (kPi BW r k)))]) hx hb dX0_squaresInStrip_44 hl (k := 4) rfl rfl (by decide) rfl (fun ls hl => ?_)
        refine lv_goto (tgt := 7) hx hb dX0_squaresInStrip_47 (by decide) ?_
        rw [nI_1] at hl
        have hpi : kPi BW r (k + 1) = (kPi BW r k) := by
          show (bif BW r k then !kPi BW r k else kPi BW r k) = _
          rw [c_2]; rfl
        have hcq : kCq BW r (k + 1) = (kCq BW r k) + 1 := by
          show (bif kPi BW r (k + 1) then kCq BW r k + 1 else kCq BW r k) = _
          rw [hpi, c_3]; rfl
        rw [← hcq, ← hpi] at hl
        exact ih (k + 1) (show k + 1 ≤ 40 from hk) (by show 40 - (k + 1) < 40 - k; omega) _ _ _ hG (lv_sub hl [2, 3, 1, 4, 0] rfl)
    · refine lv_iload_n hx hb dX0_squaresInStrip_27 rfl (lv_at hl 3 rfl) ?_
      refine k_joinH (D := D) (A := A) (fun v6 : Int32 => F0 m 36 ls (.int v6 :: [])) (fun v6 => v6 = kb (!(kPi BW r k))) ((hd, .inr (1, [.ref ho, .ref hwn, .ref hq, .int (nI oc), .int bx, .int by9, .int x, .int y, .int ot, .int tw, .int (kb bg), .int (kb cl)])) :: (ho, .inl (cJ, 41, .inr (.inl (fun i9 => kRow (BO i9))))) :: (hwn, .inl (cJ, 41, .inr (.inl (fun i9 => kRow (BW i9))))) :: (hq, .inl (cI, 10, .inl fQ)) :: rest) ?_ (fun J5 => ?_)
      · intro v6 ev6 H locs hG
        have ev6 : v6 = kb (!(kPi BW r k)) := ev6
        subst ev6
        refine lv_istore_n (lv' := [(3, .int (kb (!(kPi BW r k)))), (0, .ref hd), (1, .int (nI r)), (2, .int (kCq BW r k)), (4, .int (nI k))]) hx hb dX0_squaresInStrip_36 rfl hl (by decide) rfl (fun ls hl => ?_)
        refine lv_iload_n hx hb dX0_squaresInStrip_37 rfl (lv_at hl 0 rfl) ?_
        refine k_ifB_eq (tgt := 44) hx hb dX0_squaresInStrip_38 (by decide) (fun c_7 => ?_) (fun c_7 => ?_)
        · refine lv_iinc (v := (nI k) + 1) (lv' := [(4, .int ((nI k) + 1)), (3, .int (kb (!(kPi BW r k)))), (0, .ref hd), (1, .int (nI r)), (2, .int (kCq BW r k))]) hx hb dX0_squaresInStrip_44 hl (k := 4) rfl rfl (by decide) rfl (fun ls hl => ?_)
          refine lv_goto (tgt := 7) hx hb dX0_squaresInStrip_47 (by decide) ?_
          rw [nI_1] at hl
          have hpi : kPi BW r (k + 1) = (!(kPi BW r k)) := by
            show (bif BW r k then !kPi BW r k else kPi BW r k) = _
            rw [c_2]; rfl
          have hcq : kCq BW r (k + 1) = kCq BW r k := by
            show (bif kPi BW r (k + 1) then kCq BW r k + 1 else kCq BW r k) = _
            rw [hpi, c_7]; rfl
          rw [← hcq, ← hpi] at hl
          exact ih (k + 1) (show k + 1 ≤ 40 from hk) (by show 40 - (k + 1) < 40 - k; omega) _ _ _ hG (lv_sub hl [2, 3, 4, 1, 0] rfl)
        · refine lv_iinc (v := (kCq BW r k) + 1) (lv' := [(2, .int ((kCq BW r k) + 1)), (3, .int (kb (!(kPi BW r k)))), (0, .ref hd), (1, .int (nI r)), (4, .int (nI k))]) hx hb dX0_squaresInStrip_41 hl (k := 3) rfl rfl (by decide) rfl (fun ls hl => ?_)
          refine lv_iinc (v := (nI k) + 1) (lv' := [(4, .int ((nI k) + 1)), (2, .int ((kCq BW r k) + 1)), (3, .int (kb (!(kPi BW r k)))), (0, .ref hd), (1, .int (nI r))]) hx hb dX0_squaresInStrip_44 hl (k := 4) rfl rfl (by decide) rfl (fun ls hl => ?_)
          refine lv_goto (tgt := 7) hx hb dX0_squaresInStrip_47 (by decide) ?_
          rw [nI_1] at hl
          have hpi : kPi BW r (k + 1) = (!(kPi BW r k)) := by
            show (bif BW r k then !kPi BW r k else kPi BW r k) = _
            rw [c_2]; rfl
          have hcq : kCq BW r (k + 1) = (kCq BW r k) + 1 := by
            show (bif kPi BW r (k + 1) then kCq BW r k + 1 else kCq BW r k) = _
            rw [hpi, c_7]; rfl
          rw [← hcq, ← hpi] at hl
          exact ih (k + 1) (show k + 1 ≤ 40 from hk) (by show 40 - (k + 1) < 40 - k; omega) _ _ _ hG (lv_sub hl [3, 4, 1, 2, 0] rfl)
      refine k_ifB_ne (tgt := 35) hx hb dX0_squaresInStrip_28 (by decide) (fun c_4 => ?_) (fun c_4 => ?_)
      · refine lv_iconst (v := 0) hx hb dX0_squaresInStrip_35 (by decide) ?_
        exact J5 0 (by rw [c_4]; first | done | rfl) _ _ hG
      · refine lv_iconst (v := 1) hx hb dX0_squaresInStrip_31 (by decide) ?_
        refine lv_goto (tgt := 36) hx hb dX0_squaresInStrip_32 (by decide) ?_
        exact J5 1 (by rw [c_4]; first | done | rfl) _ _ hG

set_option maxHeartbeats 4000000 in
set_option maxRecDepth 100000 in
/-- squaresInside -/
theorem K_X0_squaresInside (l : Launch) (hfl : l.stackTraces = false) (D : va_G) (cI cJ cZ cO : ClassId) (z mi : Nat) (hd : Nat) (ho : Nat) (hwn : Nat) (hq : Nat) (BO : Nat → Nat → Bool) (BW : Nat → Nat → Bool) (fQ : Nat → Int32) (oc : Nat) (bx : Int32) (by9 : Int32) (x : Int32) (y : Int32) (ot : Int32) (tw : Int32) (bg : Bool) (cl : Bool) (rest : va_W)  : kM l D (kTy cI cJ cZ cO) z mi yX0_squaresInside wsX0_squaresInside ({ frames := 3, cells := 0, slots := 0, locals := 67 } : Room) [.ref hd] ((hd, .inr (1, [.ref ho, .ref hwn, .ref hq, .int (nI oc), .int bx, .int by9, .int x, .int y, .int ot, .int tw, .int (kb bg), .int (kb cl)])) :: (ho, .inl (cJ, 41, .inr (.inl (fun i9 => kRow (BO i9))))) :: (hwn, .inl (cJ, 41, .inr (.inl (fun i9 => kRow (BW i9))))) :: (hq, .inl (cI, 10, .inl fQ)) :: rest) (fun v u => v = some (.int (kSq BW 40)) ∧ u = (hd, .inr (1, [.ref ho, .ref hwn, .ref hq, .int (nI oc), .int bx, .int by9, .int x, .int y, .int ot, .int tw, .int (kb bg), .int (kb cl)])) :: (ho, .inl (cJ, 41, .inr (.inl (fun i9 => kRow (BO i9))))) :: (hwn, .inl (cJ, 41, .inr (.inl (fun i9 => kRow (BW i9))))) :: (hq, .inl (cI, 10, .inl fQ)) :: rest) (fun _ _ => False) := by
  refine kM.of hfl (cc := cX0_squaresInside) (maxL := 3) (ret := (some .int)) (by decide) rfl (Nat.le_of_ble_eq_true rfl) ?_
  intro p e s m args below meth c A ls hC hr hmn hG hl
  have hx := hC.x
  have hb := hC.b
  have hl : lv_has ls 3 [(0, .ref hd)] := hl
  refine lv_iconst (v := 0) hx hb dX0_squaresInside_0 (by decide) ?_
  refine lv_istore_n (lv' := [(1, .int 0), (0, .ref hd)]) hx hb dX0_squaresInside_1 rfl hl (by decide) rfl (fun ls hl => ?_)
  refine lv_iconst (v := 0) hx hb dX0_squaresInside_2 (by decide) ?_
  refine lv_istore_n (lv' := [(2, .int 0), (1, .int 0), (0, .ref hd)]) hx hb dX0_squaresInside_3 rfl hl (by decide) rfl (fun ls hl => ?_)
  refine k_loop (σ := Nat) (fun q9 => q9 ≤ 40) (fun q9 => 40 - q9) (fun q9 => (hd, .inr (1, [.ref ho, .ref hwn, .ref hq, .int (nI oc), .int bx, .int by9, .int x, .int y, .int ot, .int tw, .int (kb bg), .int (kb cl)])) :: (ho, .inl (cJ, 41, .inr (.inl (fun i9 => kRow (BO i9))))) :: (hwn, .inl (cJ, 41, .inr (.inl (fun i9 => kRow (BW i9))))) :: (hq, .inl (cI, 10, .inl fQ)) :: rest) (fun q9 => [(0, .ref hd), (1, .int (kSq BW q9)), (2, .int (nI q9))]) 4 [] ?_ 0 (Nat.zero_le _) hG (lv_sub hl [2, 1, 0] rfl)
  intro q9
  obtain ⟨k, rfl⟩ : ∃ z9, z9 = q9 := ⟨_, rfl⟩
  intro hI ih H locs ls hG hl
  have hI : k ≤ 40 := hI
  have hG : kG D A s ((hd, .inr (1, [.ref ho, .ref hwn, .ref hq, .int (nI oc), .int bx, .int by9, .int x, .int y, .int ot, .int tw, .int (kb bg), .int (kb cl)])) :: (ho, .inl (cJ, 41, .inr (.inl (fun i9 => kRow (BO i9))))) :: (hwn, .inl (cJ, 41, .inr (.inl (fun i9 => kRow (BW i9))))) :: (hq, .inl (cI, 10, .inl fQ)) :: rest) H locs := hG
  have hl : lv_has ls 3 [(0, .ref hd), (1, .int (kSq BW k)), (2, .int (nI k))] := hl
  refine lv_iload_n hx hb dX0_squaresInside_4 rfl (lv_at hl 2 rfl) ?_
  refine lv_bipush (v := 40) hx hb dX0_squaresInside_5 (by decide) ?_
  refine k_icmp_ge (tgt := 24) hx hb dX0_squaresInside_7 (by decide) (fun c_1 => ?_) (fun c_1 => ?_)
  · have hk : k = 40 := by
      have h9 := kGe 40 rfl (by decide) (by omega) c_1
      omega
    refine lv_iload_n hx hb dX0_squaresInside_24 rfl (lv_at hl 1 rfl) ?_
    exact k_reti hC hr hG ⟨by rw [hk], rfl⟩ (Nat.le_of_ble_eq_true rfl) (Nat.le_of_ble_eq_true rfl) dX0_squaresInside_25
  · have hk : k < 40 := kLt 40 rfl (by decide) (by omega) c_1
    refine lv_iload_n hx hb dX0_squaresInside_10 rfl (lv_at hl 1 rfl) ?_
    refine lv_aload_n hx hb dX0_squaresInside_11 rfl (lv_at hl 0 rfl) ?_
    refine lv_iload_n hx hb dX0_squaresInside_12 rfl (lv_at hl 2 rfl) ?_
    refine k_callV (nn := 1) (C := RX0) hC hG 0 rfl (ci := 1) rfl (K_X0_squaresInStrip l hfl D cI cJ cZ cO z mi hd ho hwn hq BO BW fQ oc bx by9 x y ot tw bg cl rest k (by omega)) gX0_squaresInside_X0_squaresInStrip rfl rfl (by decide +kernel) ⟨(Nat.le_of_ble_eq_true rfl), (Nat.le_of_ble_eq_true rfl)⟩ hl.1 rfl (Nat.le_of_ble_eq_true rfl) dX0_squaresInside_13 ⟨(Nat.le_of_ble_eq_true rfl), (Nat.le_of_ble_eq_true rfl)⟩ (fun _ _ _ _ _ _ hp => hp.elim) (fun v9 u9 H locs hp hG => ?_)
    obtain ⟨rfl, rfl⟩ := hp
    refine W.widen (k := 0) (n := 0) (Nat.le_of_ble_eq_true rfl) (Nat.le_of_ble_eq_true rfl) ?_
    refine W.eq (g2 := F0 m 16 ls [.int (kCq BW k 40), .int (kSq BW k)]) rfl ?_
    refine lv_iadd hx hb dX0_squaresInside_16 ?_
    refine lv_istore_n (lv' := [(1, .int ((kSq BW k) + (kCq BW k 40))), (0, .ref hd), (2, .int (nI k))]) hx hb dX0_squaresInside_17 rfl hl (by decide) rfl (fun ls hl => ?_)
    refine lv_iinc (v := (nI k) + 1) (lv' := [(2, .int ((nI k) + 1)), (1, .int ((kSq BW k) + (kCq BW k 40))), (0, .ref hd)]) hx hb dX0_squaresInside_18 hl (k := 2) rfl rfl (by decide) rfl (fun ls hl => ?_)
    refine lv_goto (tgt := 4) hx hb dX0_squaresInside_21 (by decide) ?_
    rw [nI_1] at hl
    exact ih (k + 1) (show k + 1 ≤ 40 from hk) (by show 40 - (k + 1) < 40 - k; omega) _ _ _ hG (lv_sub hl [2, 1, 0] rfl)

